def wp_X4_failAt (a1 : Int) (a2 : Int) (iv : IV) (rv : RV) (K : Int → IV → Prop) : Prop :=
  ∀ iv1, iv1 = w2 iv 40 6 a1 → ∀ iv2, iv2 = w2 iv1 40 7 a2 → K 0 iv2
set_option maxRecDepth 10000 in
theorem ce_X4_failAt {n : Nat} {iv : IV} {rv : RV} {K : Int → IV → Prop} {a1 : Int} {a2 : Int} (hK : Lk n rv)  (h : wp_X4_failAt a1 a2 iv rv K) : Call 0 0 0 yX4_failAt cX4_failAt 3 (some .boolean) [aR (some 40), aI a1, aI a2] n iv rv (fB1 n rv K) := by
  refine Call.by (L := [aR (some 40), aI a1, aI a2]) (by decide) rfl ⟨trivial, trivial, trivial, trivial⟩ rfl (Nat.le_of_ble_eq_true rfl) (fun Γ X hR => ?_)
  unfold wp_X4_failAt at h
  refine g_aload_n (q := 1) 0 X dX4_failAt_0 rfl rfl rfl ?_
  refine g_iload_n (q := 2) 1 X dX4_failAt_1 rfl rfl rfl ?_
  refine g_putI (q := 5) 4 6 X (Or.inl rfl) rfl kf_X4_45 (by decide) (by decide) rfl (hK.n (by decide)) dX4_failAt_2 rfl ?_
  refine g_nmM (fun iv1 eiv1 => ?_)
  have h := h iv1 eiv1
  refine g_aload_n (q := 6) 0 X dX4_failAt_5 rfl rfl rfl ?_
  refine g_iload_n (q := 7) 2 X dX4_failAt_6 rfl rfl rfl ?_
  refine g_putI (q := 10) 4 7 X (Or.inl rfl) rfl kf_X4_22 (by decide) (by decide) rfl (hK.n (by decide)) dX4_failAt_7 rfl ?_
  refine g_nmM (fun iv2 eiv2 => ?_)
  have h := h iv2 eiv2
  refine g_iconst (q := 11) 0 X dX4_failAt_10 rfl rfl ic_0 ?_
  exact g_zret (q := 0) .boolean X hR (nar_B (Or.inl rfl)) dX4_failAt_11 rfl ⟨rfl, rfl, _, rfl, (Or.inl rfl), h⟩
def wp_X4_failHere (a1 : Int) (iv : IV) (rv : RV) (K : Int → IV → Prop) : Prop :=
  wp_X4_failAt a1 (iv 46 4) iv rv (fun r1 iv2 => K r1 iv2)
set_option maxRecDepth 10000 in
theorem ce_X4_failHere {n : Nat} {iv : IV} {rv : RV} {K : Int → IV → Prop} {a1 : Int} (hK : Lk n rv)  (h : wp_X4_failHere a1 iv rv K) : Call 1 0 0 yX4_failHere cX4_failHere 2 (some .boolean) [aR (some 40), aI a1] n iv rv (fB1 n rv K) := by
  refine Call.by (L := [aR (some 40), aI a1]) (by decide) rfl ⟨trivial, trivial, trivial⟩ rfl (Nat.le_of_ble_eq_true rfl) (fun Γ X hR => ?_)
  unfold wp_X4_failHere at h
  refine g_aload_n (q := 1) 0 X dX4_failHere_0 rfl rfl rfl ?_
  refine g_iload_n (q := 2) 1 X dX4_failHere_1 rfl rfl rfl ?_
  refine g_aload_n (q := 3) 0 X dX4_failHere_2 rfl rfl rfl ?_
  refine g_getR (q := 6) (r := some 46) 4 0 X (lk_40_0 hK) (lt2000 (c := 0) (by decide)) kf_X4_31 (by decide) (by decide) rfl rfl (hK.n (by decide)) dX4_failHere_3 rfl ?_
  refine g_getI (q := 9) 7 4 X kf_X4_69 (by decide) (by decide) rfl rfl (hK.n (by decide)) dX4_failHere_6 rfl ?_
  refine g_cv (q := 12) [aI a1, aI (iv 46 4)] 4 X (ce_X4_failAt hK  h) kV_X4_72 rfl (by decide) rfl (hK.n (by decide)) rfl rfl (Nat.le_of_ble_eq_true rfl) (by decide) dX4_failHere_9 rfl (fun r n_ iv_ rv_ hf => ?_)
  obtain ⟨en_, er_, r1, rfl, br1, h⟩ := hf; subst n_; subst rv_
  generalize iv_ = iv2 at h ⊢
  exact g_zret (q := 0) .boolean X hR (nar_B br1) dX4_failHere_12 rfl ⟨rfl, rfl, _, rfl, br1, h⟩
def wp_X4_isName (iv : IV) (rv : RV) (K : Int → Prop) : Prop :=
  (((iv 46 3) ≠ 1) → (K 0)) ∧ (((iv 46 3) = 1) → (wp_X7_among 41 iv rv (fun r2 => ((0 ≤ r2) → (K 0)) ∧ ((¬ (0 ≤ r2)) → (K 1)))))
set_option maxRecDepth 10000 in
theorem ce_X4_isName {n : Nat} {iv : IV} {rv : RV} {K : Int → Prop} (hK : Lk n rv)  (h : wp_X4_isName  iv rv K) : Call 5 0 0 yX4_isName cX4_isName 1 (some .boolean) [aR (some 40)] n iv rv (fB0 n iv rv K) := by
  refine Call.by (L := [aR (some 40)]) (by decide) rfl ⟨trivial, trivial⟩ rfl (Nat.le_of_ble_eq_true rfl) (fun Γ X hR => ?_)
  unfold wp_X4_isName at h
  refine g_aload_n (q := 1) 0 X dX4_isName_0 rfl rfl rfl ?_
  refine g_getR (q := 4) (r := some 46) 4 0 X (lk_40_0 hK) (lt2000 (c := 0) (by decide)) kf_X4_31 (by decide) (by decide) rfl rfl (hK.n (by decide)) dX4_isName_1 rfl ?_
  refine g_getI (q := 7) 7 3 X kf_X4_56 (by decide) (by decide) rfl rfl (hK.n (by decide)) dX4_isName_4 rfl ?_
  refine g_iconst (q := 8) 1 X dX4_isName_7 rfl rfl ic_1 ?_
  refine g_icmp_ne (q := 11) 28 X dX4_isName_8 (by decide) rfl (fun c1 => ?_) (fun c1 => ?_)
  · have h := h.1 c1
    refine g_iconst (q := 29) 0 X dX4_isName_28 rfl rfl ic_0 ?_
    exact g_zret (q := 0) .boolean X hR (nar_B (Or.inl rfl)) dX4_isName_29 rfl ⟨rfl, rfl, rfl, _, rfl, (Or.inl rfl), h⟩
  · have h := h.2 c1
    refine g_aload_n (q := 12) 0 X dX4_isName_11 rfl rfl rfl ?_
    refine g_getR (q := 15) (r := some 46) 4 0 X (lk_40_0 hK) (lt2000 (c := 0) (by decide)) kf_X4_31 (by decide) (by decide) rfl rfl (hK.n (by decide)) dX4_isName_12 rfl ?_
    refine g_ldcwS (q := 18) 41 X st_X4_263 (by decide) dX4_isName_15 rfl ?_
    refine g_cv (q := 21) [aR (some (1000 + 41))] 7 X (ce_X7_among hK (by decide) h) kV_X4_81 rfl (by decide) rfl (hK.n (by decide)) rfl rfl (Nat.le_of_ble_eq_true rfl) (by decide) dX4_isName_18 rfl (fun r n_ iv_ rv_ hf => ?_)
    obtain ⟨en_, ei_, er_, r2, rfl, h⟩ := hf; subst n_; subst iv_; subst rv_
    refine g_if_ge (q := 24) 28 X dX4_isName_21 (by decide) rfl (fun c3 => ?_) (fun c3 => ?_)
    · have h := h.1 c3
      refine g_iconst (q := 29) 0 X dX4_isName_28 rfl rfl ic_0 ?_
      exact g_zret (q := 0) .boolean X hR (nar_B (Or.inl rfl)) dX4_isName_29 rfl ⟨rfl, rfl, rfl, _, rfl, (Or.inl rfl), h⟩
    · have h := h.2 c3
      refine g_iconst (q := 25) 1 X dX4_isName_24 rfl rfl ic_1 ?_
      refine g_goto (q := 29) X dX4_isName_25 (by decide) ?_
      exact g_zret (q := 0) .boolean X hR (nar_B (Or.inr rfl)) dX4_isName_29 rfl ⟨rfl, rfl, rfl, _, rfl, (Or.inr rfl), h⟩
def wp_X4_newName (a1 : Int) (a2 : Int) (iv : IV) (rv : RV) (K : Int → IV → Prop) : Prop :=
  wp_X4_isName iv rv (fun r1 => ((r1 ≠ 0) → (wp_X2_indexOf (iv 46 5) iv rv (fun r3 => ((r3 < 0) → (wp_X2_add (iv 46 5) a1 a2 iv rv (fun iv5 => wp_X7_advance iv5 rv (fun iv6 => K 1 iv6)))) ∧ ((¬ (r3 < 0)) → (wp_X4_failHere 3 iv rv (fun r7 iv8 => K r7 iv8)))))) ∧ ((r1 = 0) → (wp_X4_failHere 1 iv rv (fun r9 iv10 => K r9 iv10))))
set_option maxRecDepth 10000 in
theorem ce_X4_newName {n : Nat} {iv : IV} {rv : RV} {K : Int → IV → Prop} {a1 : Int} {a2 : Int} (hK : Lk n rv)  (h : wp_X4_newName a1 a2 iv rv K) : Call 6 0 0 yX4_newName cX4_newName 3 (some .boolean) [aR (some 40), aI a1, aI a2] n iv rv (fB1 n rv K) := by
  refine Call.by (L := [aR (some 40), aI a1, aI a2]) (by decide) rfl ⟨trivial, trivial, trivial, trivial⟩ rfl (Nat.le_of_ble_eq_true rfl) (fun Γ X hR => ?_)
  unfold wp_X4_newName at h
  refine g_aload_n (q := 1) 0 X dX4_newName_0 rfl rfl rfl ?_
  refine g_cv (q := 4) [] 4 X (ce_X4_isName hK  h) kV_X4_265 rfl (by decide) rfl (hK.n (by decide)) rfl rfl (Nat.le_of_ble_eq_true rfl) (by decide) dX4_newName_1 rfl (fun r n_ iv_ rv_ hf => ?_)
  obtain ⟨en_, ei_, er_, r1, rfl, br1, h⟩ := hf; subst n_; subst iv_; subst rv_
  refine g_if_ne (q := 7) 13 X dX4_newName_4 (by decide) rfl (fun c2 => ?_) (fun c2 => ?_)
  · have h := h.1 c2
    refine g_aload_n (q := 14) 0 X dX4_newName_13 rfl rfl rfl ?_
    refine g_getR (q := 17) (r := some 41) 4 1 X (lk_40_1 hK) (lt2000 (c := 0) (by decide)) kf_X4_12 (by decide) (by decide) rfl rfl (hK.n (by decide)) dX4_newName_14 rfl ?_
    refine g_aload_n (q := 18) 0 X dX4_newName_17 rfl rfl rfl ?_
    refine g_getR (q := 21) (r := some 46) 4 0 X (lk_40_0 hK) (lt2000 (c := 0) (by decide)) kf_X4_31 (by decide) (by decide) rfl rfl (hK.n (by decide)) dX4_newName_18 rfl ?_
    refine g_getL (q := 24) 7 5 X kf_X4_255 (by decide) (by decide) rfl rfl (hK.n (by decide)) dX4_newName_21 rfl ?_
    refine g_cv (q := 27) [aL (iv 46 5)] 2 X (ce_X2_indexOf hK  h) kV_X4_268 rfl (by decide) rfl (hK.n (by decide)) rfl rfl (Nat.le_of_ble_eq_true rfl) (by decide) dX4_newName_24 rfl (fun r n_ iv_ rv_ hf => ?_)
    obtain ⟨en_, ei_, er_, r3, rfl, h⟩ := hf; subst n_; subst iv_; subst rv_
    refine g_if_lt (q := 30) 36 X dX4_newName_27 (by decide) rfl (fun c4 => ?_) (fun c4 => ?_)
    · have h := h.1 c4
      refine g_aload_n (q := 37) 0 X dX4_newName_36 rfl rfl rfl ?_
      refine g_getR (q := 40) (r := some 41) 4 1 X (lk_40_1 hK) (lt2000 (c := 0) (by decide)) kf_X4_12 (by decide) (by decide) rfl rfl (hK.n (by decide)) dX4_newName_37 rfl ?_
      refine g_aload_n (q := 41) 0 X dX4_newName_40 rfl rfl rfl ?_
      refine g_getR (q := 44) (r := some 46) 4 0 X (lk_40_0 hK) (lt2000 (c := 0) (by decide)) kf_X4_31 (by decide) (by decide) rfl rfl (hK.n (by decide)) dX4_newName_41 rfl ?_
      refine g_getL (q := 47) 7 5 X kf_X4_255 (by decide) (by decide) rfl rfl (hK.n (by decide)) dX4_newName_44 rfl ?_
      refine g_iload_n (q := 48) 1 X dX4_newName_47 rfl rfl rfl ?_
      refine g_iload_n (q := 49) 2 X dX4_newName_48 rfl rfl rfl ?_
      refine g_cv (q := 52) [aL (iv 46 5), aI a1, aI a2] 2 X (ce_X2_add hK  h) kV_X4_272 rfl (by decide) rfl (hK.n (by decide)) rfl rfl (Nat.le_of_ble_eq_true rfl) (by decide) dX4_newName_49 rfl (fun r n_ iv_ rv_ hf => ?_)
      obtain ⟨en_, er_, rfl, h⟩ := hf; subst n_; subst rv_
      generalize iv_ = iv5 at h ⊢
      refine g_aload_n (q := 53) 0 X dX4_newName_52 rfl rfl rfl ?_
      refine g_getR (q := 56) (r := some 46) 4 0 X (lk_40_0 hK) (lt2000 (c := 0) (by decide)) kf_X4_31 (by decide) (by decide) rfl rfl (hK.n (by decide)) dX4_newName_53 rfl ?_
      refine g_cv (q := 59) [] 7 X (ce_X7_advance hK  h) kV_X4_76 rfl (by decide) rfl (hK.n (by decide)) rfl rfl (Nat.le_of_ble_eq_true rfl) (by decide) dX4_newName_56 rfl (fun r n_ iv_ rv_ hf => ?_)
      obtain ⟨en_, er_, rfl, h⟩ := hf; subst n_; subst rv_
      generalize iv_ = iv6 at h ⊢
      refine g_iconst (q := 60) 1 X dX4_newName_59 rfl rfl ic_1 ?_
      exact g_zret (q := 0) .boolean X hR (nar_B (Or.inr rfl)) dX4_newName_60 rfl ⟨rfl, rfl, _, rfl, (Or.inr rfl), h⟩
    · have h := h.2 c4
      refine g_aload_n (q := 31) 0 X dX4_newName_30 rfl rfl rfl ?_
      refine g_iconst (q := 32) 3 X dX4_newName_31 rfl rfl ic_3 ?_
      refine g_cv (q := 35) [aI 3] 4 X (ce_X4_failHere hK  h) kV_X4_65 rfl (by decide) rfl (hK.n (by decide)) rfl rfl (Nat.le_of_ble_eq_true rfl) (by decide) dX4_newName_32 rfl (fun r n_ iv_ rv_ hf => ?_)
      obtain ⟨en_, er_, r7, rfl, br7, h⟩ := hf; subst n_; subst rv_
      generalize iv_ = iv8 at h ⊢
      exact g_zret (q := 0) .boolean X hR (nar_B br7) dX4_newName_35 rfl ⟨rfl, rfl, _, rfl, br7, h⟩
  · have h := h.2 c2
    refine g_aload_n (q := 8) 0 X dX4_newName_7 rfl rfl rfl ?_
    refine g_iconst (q := 9) 1 X dX4_newName_8 rfl rfl ic_1 ?_
    refine g_cv (q := 12) [aI 1] 4 X (ce_X4_failHere hK  h) kV_X4_65 rfl (by decide) rfl (hK.n (by decide)) rfl rfl (Nat.le_of_ble_eq_true rfl) (by decide) dX4_newName_9 rfl (fun r n_ iv_ rv_ hf => ?_)
    obtain ⟨en_, er_, r9, rfl, br9, h⟩ := hf; subst n_; subst rv_
    generalize iv_ = iv10 at h ⊢
    exact g_zret (q := 0) .boolean X hR (nar_B br9) dX4_newName_12 rfl ⟨rfl, rfl, _, rfl, br9, h⟩
def wp_X4_word (w1 : Nat) (iv : IV) (rv : RV) (K : Int → IV → Prop) : Prop :=
  wp_X7_among w1 iv rv (fun r1 => ((r1 = 0) → (wp_X7_advance iv rv (fun iv3 => K 1 iv3))) ∧ ((¬ (r1 = 0)) → (wp_X4_failHere 1 iv rv (fun r4 iv5 => K r4 iv5))))
set_option maxRecDepth 10000 in
theorem ce_X4_word {n : Nat} {iv : IV} {rv : RV} {K : Int → IV → Prop} {w1 : Nat} (hK : Lk n rv) (hw_w1 : w1 < 51) (h : wp_X4_word w1 iv rv K) : Call 5 0 0 yX4_word cX4_word 2 (some .boolean) [aR (some 40), aR (some (1000 + w1))] n iv rv (fB1 n rv K) := by
  refine Call.by (L := [aR (some 40), aR (some (1000 + w1))]) (by decide) rfl ⟨trivial, trivial, trivial⟩ rfl (Nat.le_of_ble_eq_true rfl) (fun Γ X hR => ?_)
  unfold wp_X4_word at h
  refine g_aload_n (q := 1) 0 X dX4_word_0 rfl rfl rfl ?_
  refine g_getR (q := 4) (r := some 46) 4 0 X (lk_40_0 hK) (lt2000 (c := 0) (by decide)) kf_X4_31 (by decide) (by decide) rfl rfl (hK.n (by decide)) dX4_word_1 rfl ?_
  refine g_aload_n (q := 5) 1 X dX4_word_4 rfl rfl rfl ?_
  refine g_cv (q := 8) [aR (some (1000 + w1))] 7 X (ce_X7_among hK hw_w1 h) kV_X4_81 rfl (by decide) rfl (hK.n (by decide)) rfl rfl (Nat.le_of_ble_eq_true rfl) (by decide) dX4_word_5 rfl (fun r n_ iv_ rv_ hf => ?_)
  obtain ⟨en_, ei_, er_, r1, rfl, h⟩ := hf; subst n_; subst iv_; subst rv_
  refine g_if_eq (q := 11) 17 X dX4_word_8 (by decide) rfl (fun c2 => ?_) (fun c2 => ?_)
  · have h := h.1 c2
    refine g_aload_n (q := 18) 0 X dX4_word_17 rfl rfl rfl ?_
    refine g_getR (q := 21) (r := some 46) 4 0 X (lk_40_0 hK) (lt2000 (c := 0) (by decide)) kf_X4_31 (by decide) (by decide) rfl rfl (hK.n (by decide)) dX4_word_18 rfl ?_
    refine g_cv (q := 24) [] 7 X (ce_X7_advance hK  h) kV_X4_76 rfl (by decide) rfl (hK.n (by decide)) rfl rfl (Nat.le_of_ble_eq_true rfl) (by decide) dX4_word_21 rfl (fun r n_ iv_ rv_ hf => ?_)
    obtain ⟨en_, er_, rfl, h⟩ := hf; subst n_; subst rv_
    generalize iv_ = iv3 at h ⊢
    refine g_iconst (q := 25) 1 X dX4_word_24 rfl rfl ic_1 ?_
    exact g_zret (q := 0) .boolean X hR (nar_B (Or.inr rfl)) dX4_word_25 rfl ⟨rfl, rfl, _, rfl, (Or.inr rfl), h⟩
  · have h := h.2 c2
    refine g_aload_n (q := 12) 0 X dX4_word_11 rfl rfl rfl ?_
    refine g_iconst (q := 13) 1 X dX4_word_12 rfl rfl ic_1 ?_
    refine g_cv (q := 16) [aI 1] 4 X (ce_X4_failHere hK  h) kV_X4_65 rfl (by decide) rfl (hK.n (by decide)) rfl rfl (Nat.le_of_ble_eq_true rfl) (by decide) dX4_word_13 rfl (fun r n_ iv_ rv_ hf => ?_)
    obtain ⟨en_, er_, r4, rfl, br4, h⟩ := hf; subst n_; subst rv_
    generalize iv_ = iv5 at h ⊢
    exact g_zret (q := 0) .boolean X hR (nar_B br4) dX4_word_16 rfl ⟨rfl, rfl, _, rfl, br4, h⟩
def wp_X4_tell (a1 : Int) (iv : IV) (rv : RV) (K : Int → IV → Prop) : Prop :=
  ((8 ≤ (iv 40 3)) → (K 1 iv)) ∧ ((¬ (8 ≤ (iv 40 3))) → ((0 ≤ iv 40 3 ∧ iv 40 3 < 8) ∧ ∀ iv3, iv3 = w2 iv 45 (iv 40 3).toNat a1 → ∀ iv4, iv4 = w2 iv3 40 3 (w32 ((iv3 40 3) + 1)) → K 1 iv4))
set_option maxRecDepth 10000 in
theorem ce_X4_tell {n : Nat} {iv : IV} {rv : RV} {K : Int → IV → Prop} {a1 : Int} (hK : Lk n rv)  (h : wp_X4_tell a1 iv rv K) : Call 0 0 0 yX4_tell cX4_tell 2 (some .boolean) [aR (some 40), aI a1] n iv rv (fB1 n rv K) := by
  refine Call.by (L := [aR (some 40), aI a1]) (by decide) rfl ⟨trivial, trivial, trivial⟩ rfl (Nat.le_of_ble_eq_true rfl) (fun Γ X hR => ?_)
  unfold wp_X4_tell at h
  refine g_aload_n (q := 1) 0 X dX4_tell_0 rfl rfl rfl ?_
  refine g_getI (q := 4) 4 3 X kf_X4_88 (by decide) (by decide) rfl rfl (hK.n (by decide)) dX4_tell_1 rfl ?_
  refine g_aload_n (q := 5) 0 X dX4_tell_4 rfl rfl rfl ?_
  refine g_getR (q := 8) (r := some 45) 4 2 X (lk_40_2 hK) (lt2000 (c := 0) (by decide)) kf_X4_18 (by decide) (by decide) rfl rfl (hK.n (by decide)) dX4_tell_5 rfl ?_
  refine g_alen (q := 9) .int X rfl (Or.inr (Or.inl rfl)) (by decide) (hK.n (by decide)) dX4_tell_8 rfl ?_
  refine g_icmp_ge (q := 12) 32 X dX4_tell_9 (by decide) rfl (fun c1 => ?_) (fun c1 => ?_)
  · have h := h.1 c1
    refine g_iconst (q := 33) 1 X dX4_tell_32 rfl rfl ic_1 ?_
    exact g_zret (q := 0) .boolean X hR (nar_B (Or.inr rfl)) dX4_tell_33 rfl ⟨rfl, rfl, _, rfl, (Or.inr rfl), h⟩
  · have h := h.2 c1
    refine g_aload_n (q := 13) 0 X dX4_tell_12 rfl rfl rfl ?_
    refine g_getR (q := 16) (r := some 45) 4 2 X (lk_40_2 hK) (lt2000 (c := 0) (by decide)) kf_X4_18 (by decide) (by decide) rfl rfl (hK.n (by decide)) dX4_tell_13 rfl ?_
    refine g_aload_n (q := 17) 0 X dX4_tell_16 rfl rfl rfl ?_
    refine g_getI (q := 20) 4 3 X kf_X4_88 (by decide) (by decide) rfl rfl (hK.n (by decide)) dX4_tell_17 rfl ?_
    refine g_iload_n (q := 21) 1 X dX4_tell_20 rfl rfl rfl ?_
    obtain ⟨s2, h⟩ := h
    refine g_iast (q := 22) X rfl (hK.n (by decide)) s2 dX4_tell_21 rfl ?_
    refine g_nmM (fun iv3 eiv3 => ?_)
    have h := h iv3 eiv3
    refine g_aload_n (q := 23) 0 X dX4_tell_22 rfl rfl rfl ?_
    refine g_dup (q := 24) X dX4_tell_23 rfl rfl ?_
    refine g_getI (q := 27) 4 3 X kf_X4_88 (by decide) (by decide) rfl rfl (hK.n (by decide)) dX4_tell_24 rfl ?_
    refine g_iconst (q := 28) 1 X dX4_tell_27 rfl rfl ic_1 ?_
    refine g_iadd (q := 29) X dX4_tell_28 rfl ?_
    refine g_putI (q := 32) 4 3 X (Or.inl rfl) rfl kf_X4_88 (by decide) (by decide) rfl (hK.n (by decide)) dX4_tell_29 rfl ?_
    refine g_nmM (fun iv4 eiv4 => ?_)
    have h := h iv4 eiv4
    refine g_iconst (q := 33) 1 X dX4_tell_32 rfl rfl ic_1 ?_
    exact g_zret (q := 0) .boolean X hR (nar_B (Or.inr rfl)) dX4_tell_33 rfl ⟨rfl, rfl, _, rfl, (Or.inr rfl), h⟩
def wp_X4_use (a1 : Int) (a2 : Int) (iv : IV) (rv : RV) (K : Int → IV → Prop) : Prop :=
  wp_X4_isName iv rv (fun r1 => ((r1 ≠ 0) → (wp_X2_numberOf (iv 46 5) a1 a2 iv rv (fun r3 => ((0 ≤ r3) → (∀ iv5, iv5 = w2 iv 40 4 (iv 46 4) → wp_X7_advance iv5 rv (fun iv6 => wp_X4_tell r3 iv6 rv (fun r7 iv8 => K r7 iv8)))) ∧ ((¬ (0 ≤ r3)) → (wp_X4_failHere 2 iv rv (fun r9 iv10 => K r9 iv10)))))) ∧ ((r1 = 0) → (wp_X4_failHere 1 iv rv (fun r11 iv12 => K r11 iv12))))
set_option maxRecDepth 10000 in
theorem ce_X4_use {n : Nat} {iv : IV} {rv : RV} {K : Int → IV → Prop} {a1 : Int} {a2 : Int} (hK : Lk n rv)  (h : wp_X4_use a1 a2 iv rv K) : Call 6 0 0 yX4_use cX4_use 4 (some .boolean) [aR (some 40), aI a1, aI a2] n iv rv (fB1 n rv K) := by
  refine Call.by (L := [aR (some 40), aI a1, aI a2, aJ]) (by decide) rfl ⟨trivial, trivial, trivial, trivial⟩ rfl (Nat.le_of_ble_eq_true rfl) (fun Γ X hR => ?_)
  unfold wp_X4_use at h
  refine g_aload_n (q := 1) 0 X dX4_use_0 rfl rfl rfl ?_
  refine g_cv (q := 4) [] 4 X (ce_X4_isName hK  h) kV_X4_265 rfl (by decide) rfl (hK.n (by decide)) rfl rfl (Nat.le_of_ble_eq_true rfl) (by decide) dX4_use_1 rfl (fun r n_ iv_ rv_ hf => ?_)
  obtain ⟨en_, ei_, er_, r1, rfl, br1, h⟩ := hf; subst n_; subst iv_; subst rv_
  refine g_if_ne (q := 7) 13 X dX4_use_4 (by decide) rfl (fun c2 => ?_) (fun c2 => ?_)
  · have h := h.1 c2
    refine g_aload_n (q := 14) 0 X dX4_use_13 rfl rfl rfl ?_
    refine g_getR (q := 17) (r := some 41) 4 1 X (lk_40_1 hK) (lt2000 (c := 0) (by decide)) kf_X4_12 (by decide) (by decide) rfl rfl (hK.n (by decide)) dX4_use_14 rfl ?_
    refine g_aload_n (q := 18) 0 X dX4_use_17 rfl rfl rfl ?_
    refine g_getR (q := 21) (r := some 46) 4 0 X (lk_40_0 hK) (lt2000 (c := 0) (by decide)) kf_X4_31 (by decide) (by decide) rfl rfl (hK.n (by decide)) dX4_use_18 rfl ?_
    refine g_getL (q := 24) 7 5 X kf_X4_255 (by decide) (by decide) rfl rfl (hK.n (by decide)) dX4_use_21 rfl ?_
    refine g_iload_n (q := 25) 1 X dX4_use_24 rfl rfl rfl ?_
    refine g_iload_n (q := 26) 2 X dX4_use_25 rfl rfl rfl ?_
    refine g_cv (q := 29) [aL (iv 46 5), aI a1, aI a2] 2 X (ce_X2_numberOf hK  h) kV_X4_276 rfl (by decide) rfl (hK.n (by decide)) rfl rfl (Nat.le_of_ble_eq_true rfl) (by decide) dX4_use_26 rfl (fun r n_ iv_ rv_ hf => ?_)
    obtain ⟨en_, ei_, er_, r3, rfl, h⟩ := hf; subst n_; subst iv_; subst rv_
    refine g_istore_n (q := 30) 3 (L' := [aR (some 40), aI a1, aI a2, aI r3]) X dX4_use_29 rfl rfl (by decide) rfl rfl ?_
    refine g_iload_n (q := 31) 3 X dX4_use_30 rfl rfl rfl ?_
    refine g_if_ge (q := 34) 40 X dX4_use_31 (by decide) rfl (fun c4 => ?_) (fun c4 => ?_)
    · have h := h.1 c4
      refine g_aload_n (q := 41) 0 X dX4_use_40 rfl rfl rfl ?_
      refine g_aload_n (q := 42) 0 X dX4_use_41 rfl rfl rfl ?_
      refine g_getR (q := 45) (r := some 46) 4 0 X (lk_40_0 hK) (lt2000 (c := 0) (by decide)) kf_X4_31 (by decide) (by decide) rfl rfl (hK.n (by decide)) dX4_use_42 rfl ?_
      refine g_getI (q := 48) 7 4 X kf_X4_69 (by decide) (by decide) rfl rfl (hK.n (by decide)) dX4_use_45 rfl ?_
      refine g_putI (q := 51) 4 4 X (Or.inl rfl) rfl kf_X4_237 (by decide) (by decide) rfl (hK.n (by decide)) dX4_use_48 rfl ?_
      refine g_nmM (fun iv5 eiv5 => ?_)
      have h := h iv5 eiv5
      refine g_aload_n (q := 52) 0 X dX4_use_51 rfl rfl rfl ?_
      refine g_getR (q := 55) (r := some 46) 4 0 X (lk_40_0 hK) (lt2000 (c := 0) (by decide)) kf_X4_31 (by decide) (by decide) rfl rfl (hK.n (by decide)) dX4_use_52 rfl ?_
      refine g_cv (q := 58) [] 7 X (ce_X7_advance hK  h) kV_X4_76 rfl (by decide) rfl (hK.n (by decide)) rfl rfl (Nat.le_of_ble_eq_true rfl) (by decide) dX4_use_55 rfl (fun r n_ iv_ rv_ hf => ?_)
      obtain ⟨en_, er_, rfl, h⟩ := hf; subst n_; subst rv_
      generalize iv_ = iv6 at h ⊢
      refine g_aload_n (q := 59) 0 X dX4_use_58 rfl rfl rfl ?_
      refine g_iload_n (q := 60) 3 X dX4_use_59 rfl rfl rfl ?_
      refine g_cv (q := 63) [aI r3] 4 X (ce_X4_tell hK  h) kV_X4_153 rfl (by decide) rfl (hK.n (by decide)) rfl rfl (Nat.le_of_ble_eq_true rfl) (by decide) dX4_use_60 rfl (fun r n_ iv_ rv_ hf => ?_)
      obtain ⟨en_, er_, r7, rfl, br7, h⟩ := hf; subst n_; subst rv_
      generalize iv_ = iv8 at h ⊢
      exact g_zret (q := 0) .boolean X hR (nar_B br7) dX4_use_63 rfl ⟨rfl, rfl, _, rfl, br7, h⟩
    · have h := h.2 c4
      refine g_aload_n (q := 35) 0 X dX4_use_34 rfl rfl rfl ?_
      refine g_iconst (q := 36) 2 X dX4_use_35 rfl rfl ic_2 ?_
      refine g_cv (q := 39) [aI 2] 4 X (ce_X4_failHere hK  h) kV_X4_65 rfl (by decide) rfl (hK.n (by decide)) rfl rfl (Nat.le_of_ble_eq_true rfl) (by decide) dX4_use_36 rfl (fun r n_ iv_ rv_ hf => ?_)
      obtain ⟨en_, er_, r9, rfl, br9, h⟩ := hf; subst n_; subst rv_
      generalize iv_ = iv10 at h ⊢
      exact g_zret (q := 0) .boolean X hR (nar_B br9) dX4_use_39 rfl ⟨rfl, rfl, _, rfl, br9, h⟩
  · have h := h.2 c2
    refine g_aload_n (q := 8) 0 X dX4_use_7 rfl rfl rfl ?_
    refine g_iconst (q := 9) 1 X dX4_use_8 rfl rfl ic_1 ?_
    refine g_cv (q := 12) [aI 1] 4 X (ce_X4_failHere hK  h) kV_X4_65 rfl (by decide) rfl (hK.n (by decide)) rfl rfl (Nat.le_of_ble_eq_true rfl) (by decide) dX4_use_9 rfl (fun r n_ iv_ rv_ hf => ?_)
    obtain ⟨en_, er_, r11, rfl, br11, h⟩ := hf; subst n_; subst rv_
    generalize iv_ = iv12 at h ⊢
    exact g_zret (q := 0) .boolean X hR (nar_B br11) dX4_use_12 rfl ⟨rfl, rfl, _, rfl, br11, h⟩
def wp_X4_choice (w1 : Nat) (iv : IV) (rv : RV) (K : Int → IV → Prop) : Prop :=
  wp_X7_among w1 iv rv (fun r1 => ((0 ≤ r1) → (wp_X7_advance iv rv (fun iv3 => wp_X4_tell r1 iv3 rv (fun r4 iv5 => K r4 iv5)))) ∧ ((¬ (0 ≤ r1)) → (wp_X4_failHere 1 iv rv (fun r6 iv7 => K r6 iv7))))
set_option maxRecDepth 10000 in
theorem ce_X4_choice {n : Nat} {iv : IV} {rv : RV} {K : Int → IV → Prop} {w1 : Nat} (hK : Lk n rv) (hw_w1 : w1 < 51) (h : wp_X4_choice w1 iv rv K) : Call 5 0 0 yX4_choice cX4_choice 3 (some .boolean) [aR (some 40), aR (some (1000 + w1))] n iv rv (fB1 n rv K) := by
  refine Call.by (L := [aR (some 40), aR (some (1000 + w1)), aJ]) (by decide) rfl ⟨trivial, trivial, trivial⟩ rfl (Nat.le_of_ble_eq_true rfl) (fun Γ X hR => ?_)
  unfold wp_X4_choice at h
  refine g_aload_n (q := 1) 0 X dX4_choice_0 rfl rfl rfl ?_
  refine g_getR (q := 4) (r := some 46) 4 0 X (lk_40_0 hK) (lt2000 (c := 0) (by decide)) kf_X4_31 (by decide) (by decide) rfl rfl (hK.n (by decide)) dX4_choice_1 rfl ?_
  refine g_aload_n (q := 5) 1 X dX4_choice_4 rfl rfl rfl ?_
  refine g_cv (q := 8) [aR (some (1000 + w1))] 7 X (ce_X7_among hK hw_w1 h) kV_X4_81 rfl (by decide) rfl (hK.n (by decide)) rfl rfl (Nat.le_of_ble_eq_true rfl) (by decide) dX4_choice_5 rfl (fun r n_ iv_ rv_ hf => ?_)
  obtain ⟨en_, ei_, er_, r1, rfl, h⟩ := hf; subst n_; subst iv_; subst rv_
  refine g_istore_n (q := 9) 2 (L' := [aR (some 40), aR (some (1000 + w1)), aI r1]) X dX4_choice_8 rfl rfl (by decide) rfl rfl ?_
  refine g_iload_n (q := 10) 2 X dX4_choice_9 rfl rfl rfl ?_
  refine g_if_ge (q := 13) 19 X dX4_choice_10 (by decide) rfl (fun c2 => ?_) (fun c2 => ?_)
  · have h := h.1 c2
    refine g_aload_n (q := 20) 0 X dX4_choice_19 rfl rfl rfl ?_
    refine g_getR (q := 23) (r := some 46) 4 0 X (lk_40_0 hK) (lt2000 (c := 0) (by decide)) kf_X4_31 (by decide) (by decide) rfl rfl (hK.n (by decide)) dX4_choice_20 rfl ?_
    refine g_cv (q := 26) [] 7 X (ce_X7_advance hK  h) kV_X4_76 rfl (by decide) rfl (hK.n (by decide)) rfl rfl (Nat.le_of_ble_eq_true rfl) (by decide) dX4_choice_23 rfl (fun r n_ iv_ rv_ hf => ?_)
    obtain ⟨en_, er_, rfl, h⟩ := hf; subst n_; subst rv_
    generalize iv_ = iv3 at h ⊢
    refine g_aload_n (q := 27) 0 X dX4_choice_26 rfl rfl rfl ?_
    refine g_iload_n (q := 28) 2 X dX4_choice_27 rfl rfl rfl ?_
    refine g_cv (q := 31) [aI r1] 4 X (ce_X4_tell hK  h) kV_X4_153 rfl (by decide) rfl (hK.n (by decide)) rfl rfl (Nat.le_of_ble_eq_true rfl) (by decide) dX4_choice_28 rfl (fun r n_ iv_ rv_ hf => ?_)
    obtain ⟨en_, er_, r4, rfl, br4, h⟩ := hf; subst n_; subst rv_
    generalize iv_ = iv5 at h ⊢
    exact g_zret (q := 0) .boolean X hR (nar_B br4) dX4_choice_31 rfl ⟨rfl, rfl, _, rfl, br4, h⟩
  · have h := h.2 c2
    refine g_aload_n (q := 14) 0 X dX4_choice_13 rfl rfl rfl ?_
    refine g_iconst (q := 15) 1 X dX4_choice_14 rfl rfl ic_1 ?_
    refine g_cv (q := 18) [aI 1] 4 X (ce_X4_failHere hK  h) kV_X4_65 rfl (by decide) rfl (hK.n (by decide)) rfl rfl (Nat.le_of_ble_eq_true rfl) (by decide) dX4_choice_15 rfl (fun r n_ iv_ rv_ hf => ?_)
    obtain ⟨en_, er_, r6, rfl, br6, h⟩ := hf; subst n_; subst rv_
    generalize iv_ = iv7 at h ⊢
    exact g_zret (q := 0) .boolean X hR (nar_B br6) dX4_choice_18 rfl ⟨rfl, rfl, _, rfl, br6, h⟩
def bd_X4_whole_36 (iv : IV) (rv : RV) (K : Int → IV → Prop) : Prop :=
  wp_X4_failHere 4 iv rv (fun r1 iv2 => K r1 iv2)
set_option maxRecDepth 10000 in
theorem cb_X4_whole_36 {Γ : GX} {n : Nat} {iv : IV} {rv : RV} {K : Int → IV → Prop} (X : Cx Γ RX4 cX4_whole 4 2) (hR : Rt Γ (some .boolean) 0 0 (fB1 n rv K)) (hK : Lk n rv)  (h : bd_X4_whole_36 iv rv K) : G Γ 4 36 [aR (some 40), aJ, aJ, aJ] [] n iv rv 0 0 := by
  unfold bd_X4_whole_36 at h
  refine g_aload_n (q := 37) 0 X dX4_whole_36 rfl rfl rfl ?_
  refine g_iconst (q := 38) 4 X dX4_whole_37 rfl rfl ic_4 ?_
  refine g_cv (q := 41) [aI 4] 4 X (ce_X4_failHere hK  h) kV_X4_65 rfl (by decide) rfl (hK.n (by decide)) rfl rfl (Nat.le_of_ble_eq_true rfl) (by decide) dX4_whole_38 rfl (fun r n_ iv_ rv_ hf => ?_)
  obtain ⟨en_, er_, r1, rfl, br1, h⟩ := hf; subst n_; subst rv_
  generalize iv_ = iv2 at h ⊢
  exact g_zret (q := 0) .boolean X hR (nar_B br1) dX4_whole_41 rfl ⟨rfl, rfl, _, rfl, br1, h⟩
def wp_X4_whole (a1 : Int) (a2 : Int) (iv : IV) (rv : RV) (K : Int → IV → Prop) : Prop :=
  (((iv 46 3) = 2) → (∀ x2, x2 = w32 (iv 46 5) → ((x2 < a1) → (bd_X4_whole_36 iv rv K)) ∧ ((¬ (x2 < a1)) → (((x2 ≤ a2) → (wp_X7_advance iv rv (fun iv5 => wp_X4_tell x2 iv5 rv (fun r6 iv7 => K r6 iv7)))) ∧ ((¬ (x2 ≤ a2)) → (bd_X4_whole_36 iv rv K)))))) ∧ ((¬ ((iv 46 3) = 2)) → (wp_X4_failHere 1 iv rv (fun r8 iv9 => K r8 iv9)))
set_option maxRecDepth 10000 in
theorem ce_X4_whole {n : Nat} {iv : IV} {rv : RV} {K : Int → IV → Prop} {a1 : Int} {a2 : Int} (hK : Lk n rv)  (h : wp_X4_whole a1 a2 iv rv K) : Call 2 0 0 yX4_whole cX4_whole 4 (some .boolean) [aR (some 40), aI a1, aI a2] n iv rv (fB1 n rv K) := by
  refine Call.by (L := [aR (some 40), aI a1, aI a2, aJ]) (by decide) rfl ⟨trivial, trivial, trivial, trivial⟩ rfl (Nat.le_of_ble_eq_true rfl) (fun Γ X hR => ?_)
  unfold wp_X4_whole at h
  refine g_aload_n (q := 1) 0 X dX4_whole_0 rfl rfl rfl ?_
  refine g_getR (q := 4) (r := some 46) 4 0 X (lk_40_0 hK) (lt2000 (c := 0) (by decide)) kf_X4_31 (by decide) (by decide) rfl rfl (hK.n (by decide)) dX4_whole_1 rfl ?_
  refine g_getI (q := 7) 7 3 X kf_X4_56 (by decide) (by decide) rfl rfl (hK.n (by decide)) dX4_whole_4 rfl ?_
  refine g_iconst (q := 8) 2 X dX4_whole_7 rfl rfl ic_2 ?_
  refine g_icmp_eq (q := 11) 17 X dX4_whole_8 (by decide) rfl (fun c1 => ?_) (fun c1 => ?_)
  · have h := h.1 c1
    refine g_aload_n (q := 18) 0 X dX4_whole_17 rfl rfl rfl ?_
    refine g_getR (q := 21) (r := some 46) 4 0 X (lk_40_0 hK) (lt2000 (c := 0) (by decide)) kf_X4_31 (by decide) (by decide) rfl rfl (hK.n (by decide)) dX4_whole_18 rfl ?_
    refine g_getL (q := 24) 7 5 X kf_X4_255 (by decide) (by decide) rfl rfl (hK.n (by decide)) dX4_whole_21 rfl ?_
    refine g_l2i (q := 25) X dX4_whole_24 rfl ?_
    refine g_nmI (fun x2 ex2 => ?_)
    have h := h x2 ex2
    refine g_istore_n (q := 26) 3 (L' := [aR (some 40), aI a1, aI a2, aI x2]) X dX4_whole_25 rfl rfl (by decide) rfl rfl ?_
    refine g_iload_n (q := 27) 3 X dX4_whole_26 rfl rfl rfl ?_
    refine g_iload_n (q := 28) 1 X dX4_whole_27 rfl rfl rfl ?_
    refine g_icmp_lt (q := 31) 36 X dX4_whole_28 (by decide) rfl (fun c3 => ?_) (fun c3 => ?_)
    · have h := h.1 c3
      refine g_sub (L' := [aR (some 40), aJ, aJ, aJ]) ⟨Or.inr rfl, Or.inl rfl, Or.inl rfl, Or.inl rfl, trivial⟩ ?_
      exact cb_X4_whole_36 X hR hK   h
    · have h := h.2 c3
      refine g_iload_n (q := 32) 3 X dX4_whole_31 rfl rfl rfl ?_
      refine g_iload_n (q := 33) 2 X dX4_whole_32 rfl rfl rfl ?_
      refine g_icmp_le (q := 36) 42 X dX4_whole_33 (by decide) rfl (fun c4 => ?_) (fun c4 => ?_)
      · have h := h.1 c4
        refine g_aload_n (q := 43) 0 X dX4_whole_42 rfl rfl rfl ?_
        refine g_getR (q := 46) (r := some 46) 4 0 X (lk_40_0 hK) (lt2000 (c := 0) (by decide)) kf_X4_31 (by decide) (by decide) rfl rfl (hK.n (by decide)) dX4_whole_43 rfl ?_
        refine g_cv (q := 49) [] 7 X (ce_X7_advance hK  h) kV_X4_76 rfl (by decide) rfl (hK.n (by decide)) rfl rfl (Nat.le_of_ble_eq_true rfl) (by decide) dX4_whole_46 rfl (fun r n_ iv_ rv_ hf => ?_)
        obtain ⟨en_, er_, rfl, h⟩ := hf; subst n_; subst rv_
        generalize iv_ = iv5 at h ⊢
        refine g_aload_n (q := 50) 0 X dX4_whole_49 rfl rfl rfl ?_
        refine g_iload_n (q := 51) 3 X dX4_whole_50 rfl rfl rfl ?_
        refine g_cv (q := 54) [aI x2] 4 X (ce_X4_tell hK  h) kV_X4_153 rfl (by decide) rfl (hK.n (by decide)) rfl rfl (Nat.le_of_ble_eq_true rfl) (by decide) dX4_whole_51 rfl (fun r n_ iv_ rv_ hf => ?_)
        obtain ⟨en_, er_, r6, rfl, br6, h⟩ := hf; subst n_; subst rv_
        generalize iv_ = iv7 at h ⊢
        exact g_zret (q := 0) .boolean X hR (nar_B br6) dX4_whole_54 rfl ⟨rfl, rfl, _, rfl, br6, h⟩
      · have h := h.2 c4
        refine g_sub (L' := [aR (some 40), aJ, aJ, aJ]) ⟨Or.inr rfl, Or.inl rfl, Or.inl rfl, Or.inl rfl, trivial⟩ ?_
        exact cb_X4_whole_36 X hR hK   h
  · have h := h.2 c1
    refine g_aload_n (q := 12) 0 X dX4_whole_11 rfl rfl rfl ?_
    refine g_iconst (q := 13) 1 X dX4_whole_12 rfl rfl ic_1 ?_
    refine g_cv (q := 16) [aI 1] 4 X (ce_X4_failHere hK  h) kV_X4_65 rfl (by decide) rfl (hK.n (by decide)) rfl rfl (Nat.le_of_ble_eq_true rfl) (by decide) dX4_whole_13 rfl (fun r n_ iv_ rv_ hf => ?_)
    obtain ⟨en_, er_, r8, rfl, br8, h⟩ := hf; subst n_; subst rv_
    generalize iv_ = iv9 at h ⊢
    exact g_zret (q := 0) .boolean X hR (nar_B br8) dX4_whole_16 rfl ⟨rfl, rfl, _, rfl, br8, h⟩
def wp_X4_latest (a1 : Int) (iv : IV) (rv : RV) (K : Int → Prop) : Prop :=
  ∀ x1, x1 = w32 ((w32 ((iv 40 3) - 1)) - a1) → ((x1 < 0) → (K (-1))) ∧ ((¬ (x1 < 0)) → (((8 ≤ x1) → (K (-1))) ∧ ((¬ (8 ≤ x1)) → ((0 ≤ x1 ∧ x1 < 8) ∧ K (iv 45 x1.toNat)))))
set_option maxRecDepth 10000 in
theorem ce_X4_latest {n : Nat} {iv : IV} {rv : RV} {K : Int → Prop} {a1 : Int} (hK : Lk n rv)  (h : wp_X4_latest a1 iv rv K) : Call 0 0 0 yX4_latest cX4_latest 3 (some .int) [aR (some 40), aI a1] n iv rv (fI0 n iv rv K) := by
  refine Call.by (L := [aR (some 40), aI a1, aJ]) (by decide) rfl ⟨trivial, trivial, trivial⟩ rfl (Nat.le_of_ble_eq_true rfl) (fun Γ X hR => ?_)
  unfold wp_X4_latest at h
  refine g_aload_n (q := 1) 0 X dX4_latest_0 rfl rfl rfl ?_
  refine g_getI (q := 4) 4 3 X kf_X4_88 (by decide) (by decide) rfl rfl (hK.n (by decide)) dX4_latest_1 rfl ?_
  refine g_iconst (q := 5) 1 X dX4_latest_4 rfl rfl ic_1 ?_
  refine g_isub (q := 6) X dX4_latest_5 rfl ?_
  refine g_iload_n (q := 7) 1 X dX4_latest_6 rfl rfl rfl ?_
  refine g_isub (q := 8) X dX4_latest_7 rfl ?_
  refine g_nmI (fun x1 ex1 => ?_)
  have h := h x1 ex1
  refine g_istore_n (q := 9) 2 (L' := [aR (some 40), aI a1, aI x1]) X dX4_latest_8 rfl rfl (by decide) rfl rfl ?_
  refine g_iload_n (q := 10) 2 X dX4_latest_9 rfl rfl rfl ?_
  refine g_if_lt (q := 13) 31 X dX4_latest_10 (by decide) rfl (fun c2 => ?_) (fun c2 => ?_)
  · have h := h.1 c2
    refine g_iconst (q := 32) (-1) X dX4_latest_31 rfl rfl ic_m1 ?_
    exact g_iret (q := 0) X hR dX4_latest_32 rfl ⟨rfl, rfl, rfl, _, rfl, h⟩
  · have h := h.2 c2
    refine g_iload_n (q := 14) 2 X dX4_latest_13 rfl rfl rfl ?_
    refine g_aload_n (q := 15) 0 X dX4_latest_14 rfl rfl rfl ?_
    refine g_getR (q := 18) (r := some 45) 4 2 X (lk_40_2 hK) (lt2000 (c := 0) (by decide)) kf_X4_18 (by decide) (by decide) rfl rfl (hK.n (by decide)) dX4_latest_15 rfl ?_
    refine g_alen (q := 19) .int X rfl (Or.inr (Or.inl rfl)) (by decide) (hK.n (by decide)) dX4_latest_18 rfl ?_
    refine g_icmp_ge (q := 22) 31 X dX4_latest_19 (by decide) rfl (fun c3 => ?_) (fun c3 => ?_)
    · have h := h.1 c3
      refine g_iconst (q := 32) (-1) X dX4_latest_31 rfl rfl ic_m1 ?_
      exact g_iret (q := 0) X hR dX4_latest_32 rfl ⟨rfl, rfl, rfl, _, rfl, h⟩
    · have h := h.2 c3
      refine g_aload_n (q := 23) 0 X dX4_latest_22 rfl rfl rfl ?_
      refine g_getR (q := 26) (r := some 45) 4 2 X (lk_40_2 hK) (lt2000 (c := 0) (by decide)) kf_X4_18 (by decide) (by decide) rfl rfl (hK.n (by decide)) dX4_latest_23 rfl ?_
      refine g_iload_n (q := 27) 2 X dX4_latest_26 rfl rfl rfl ?_
      obtain ⟨s4, h⟩ := h
      refine g_iald (q := 28) X rfl (hK.n (by decide)) s4 dX4_latest_27 rfl ?_
      refine g_goto (q := 32) X dX4_latest_28 (by decide) ?_
      exact g_iret (q := 0) X hR dX4_latest_32 rfl ⟨rfl, rfl, rfl, _, rfl, h⟩
def bd_X4_differ_25 (iv : IV) (rv : RV) (K : Int → IV → Prop) : Prop :=
  K 1 iv
set_option maxRecDepth 10000 in
theorem cb_X4_differ_25 {Γ : GX} {n : Nat} {iv : IV} {rv : RV} {K : Int → IV → Prop} (X : Cx Γ RX4 cX4_differ 1 1) (hR : Rt Γ (some .boolean) 0 0 (fB1 n rv K)) (hK : Lk n rv)  (h : bd_X4_differ_25 iv rv K) : G Γ 1 25 [aJ] [] n iv rv 0 0 := by
  unfold bd_X4_differ_25 at h
  refine g_iconst (q := 26) 1 X dX4_differ_25 rfl rfl ic_1 ?_
  refine g_goto (q := 30) X dX4_differ_26 (by decide) ?_
  exact g_zret (q := 0) .boolean X hR (nar_B (Or.inr rfl)) dX4_differ_30 rfl ⟨rfl, rfl, _, rfl, (Or.inr rfl), h⟩
def wp_X4_differ (iv : IV) (rv : RV) (K : Int → IV → Prop) : Prop :=
  wp_X4_latest 0 iv rv (fun r1 => wp_X4_latest 1 iv rv (fun r2 => ((r1 ≠ r2) → (bd_X4_differ_25 iv rv K)) ∧ ((r1 = r2) → (wp_X4_failAt 3 (iv 40 4) iv rv (fun r4 iv5 => ((r4 = 0) → (K 0 iv5)) ∧ ((¬ (r4 = 0)) → (bd_X4_differ_25 iv5 rv K)))))))
set_option maxRecDepth 10000 in
theorem ce_X4_differ {n : Nat} {iv : IV} {rv : RV} {K : Int → IV → Prop} (hK : Lk n rv)  (h : wp_X4_differ  iv rv K) : Call 1 0 0 yX4_differ cX4_differ 1 (some .boolean) [aR (some 40)] n iv rv (fB1 n rv K) := by
  refine Call.by (L := [aR (some 40)]) (by decide) rfl ⟨trivial, trivial⟩ rfl (Nat.le_of_ble_eq_true rfl) (fun Γ X hR => ?_)
  unfold wp_X4_differ at h
  refine g_aload_n (q := 1) 0 X dX4_differ_0 rfl rfl rfl ?_
  refine g_iconst (q := 2) 0 X dX4_differ_1 rfl rfl ic_0 ?_
  refine g_cv (q := 5) [aI 0] 4 X (ce_X4_latest hK  h) kV_X4_259 rfl (by decide) rfl (hK.n (by decide)) rfl rfl (Nat.le_of_ble_eq_true rfl) (by decide) dX4_differ_2 rfl (fun r n_ iv_ rv_ hf => ?_)
  obtain ⟨en_, ei_, er_, r1, rfl, h⟩ := hf; subst n_; subst iv_; subst rv_
  refine g_aload_n (q := 6) 0 X dX4_differ_5 rfl rfl rfl ?_
  refine g_iconst (q := 7) 1 X dX4_differ_6 rfl rfl ic_1 ?_
  refine g_cv (q := 10) [aI 1] 4 X (ce_X4_latest hK  h) kV_X4_259 rfl (by decide) rfl (hK.n (by decide)) rfl rfl (Nat.le_of_ble_eq_true rfl) (by decide) dX4_differ_7 rfl (fun r n_ iv_ rv_ hf => ?_)
  obtain ⟨en_, ei_, er_, r2, rfl, h⟩ := hf; subst n_; subst iv_; subst rv_
  refine g_icmp_ne (q := 13) 25 X dX4_differ_10 (by decide) rfl (fun c3 => ?_) (fun c3 => ?_)
  · have h := h.1 c3
    refine g_sub (L' := [aJ]) ⟨Or.inl rfl, trivial⟩ ?_
    exact cb_X4_differ_25 X hR hK   h
  · have h := h.2 c3
    refine g_aload_n (q := 14) 0 X dX4_differ_13 rfl rfl rfl ?_
    refine g_iconst (q := 15) 3 X dX4_differ_14 rfl rfl ic_3 ?_
    refine g_aload_n (q := 16) 0 X dX4_differ_15 rfl rfl rfl ?_
    refine g_getI (q := 19) 4 4 X kf_X4_237 (by decide) (by decide) rfl rfl (hK.n (by decide)) dX4_differ_16 rfl ?_
    refine g_cv (q := 22) [aI 3, aI (iv 40 4)] 4 X (ce_X4_failAt hK  h) kV_X4_72 rfl (by decide) rfl (hK.n (by decide)) rfl rfl (Nat.le_of_ble_eq_true rfl) (by decide) dX4_differ_19 rfl (fun r n_ iv_ rv_ hf => ?_)
    obtain ⟨en_, er_, r4, rfl, br4, h⟩ := hf; subst n_; subst rv_
    generalize iv_ = iv5 at h ⊢
    refine g_if_eq (q := 25) 29 X dX4_differ_22 (by decide) rfl (fun c6 => ?_) (fun c6 => ?_)
    · have h := h.1 c6
      refine g_iconst (q := 30) 0 X dX4_differ_29 rfl rfl ic_0 ?_
      exact g_zret (q := 0) .boolean X hR (nar_B (Or.inl rfl)) dX4_differ_30 rfl ⟨rfl, rfl, _, rfl, (Or.inl rfl), h⟩
    · have h := h.2 c6
      refine g_sub (L' := [aJ]) ⟨Or.inl rfl, trivial⟩ ?_
      exact cb_X4_differ_25 X hR hK   h
def wp_X4_keepCart (a1 : Int) (iv : IV) (rv : RV) (K : Int → IV → Prop) : Prop :=
  ((0 : Int) ≤ 0 ∧ (0 : Int) ≤ w32 (a1 * 7) ∧ (0 : Int) ≤ 7 ∧ (0 : Int) + 7 ≤ 8 ∧ (w32 (a1 * 7) : Int) + 7 ≤ 42) ∧ ∀ iv2, iv2 = cpy iv 45 (gR rv 40 5 + 18) 0 (w32 (a1 * 7)).toNat 7 → K 1 iv2
set_option maxRecDepth 10000 in
theorem ce_X4_keepCart {n : Nat} {iv : IV} {rv : RV} {K : Int → IV → Prop} {a1 : Int} (hK : Lk n rv)  (h : wp_X4_keepCart a1 iv rv K) : Call 1 0 0 yX4_keepCart cX4_keepCart 2 (some .boolean) [aR (some 40), aI a1] n iv rv (fB1 n rv K) := by
  refine Call.by (L := [aR (some 40), aI a1]) (by decide) rfl ⟨trivial, trivial, trivial⟩ rfl (Nat.le_of_ble_eq_true rfl) (fun Γ X hR => ?_)
  unfold wp_X4_keepCart at h
  refine g_aload_n (q := 1) 0 X dX4_keepCart_0 rfl rfl rfl ?_
  refine g_getR (q := 4) (r := some 45) 4 2 X (lk_40_2 hK) (lt2000 (c := 0) (by decide)) kf_X4_18 (by decide) (by decide) rfl rfl (hK.n (by decide)) dX4_keepCart_1 rfl ?_
  refine g_iconst (q := 5) 0 X dX4_keepCart_4 rfl rfl ic_0 ?_
  refine g_aload_n (q := 6) 0 X dX4_keepCart_5 rfl rfl rfl ?_
  refine g_getR (q := 9) (r := some (gR rv 40 5)) 4 5 X hK.2.2.2.2.2.1.2.2.1.1 (lt2000 (c := 0) (isR_lt0 hK.2.2.2.2.2.1.2.2.1.2)) kf_X4_35 (by decide) (by decide) rfl rfl (hK.n (by decide)) dX4_keepCart_6 rfl ?_
  refine g_getR (q := 12) (r := some (gR rv 40 5 + 18)) 5 17 X (lkR_17 hK hK.2.2.2.2.2.1.2.2.1.2) (lt2000 (c := 0) (isR_lt hK.2.2.2.2.2.1.2.2.1.2 (by decide))) kf_X4_245 (by decide) (by decide) rfl (shR_0 hK.2.2.2.2.2.1.2.2.1.2) (isR_n0 hK hK.2.2.2.2.2.1.2.2.1.2) dX4_keepCart_9 rfl ?_
  refine g_iload_n (q := 13) 1 X dX4_keepCart_12 rfl rfl rfl ?_
  refine g_bipush (q := 15) 7 X dX4_keepCart_13 rfl bc_7 ic_7 ?_
  refine g_imul (q := 16) X dX4_keepCart_15 rfl ?_
  refine g_bipush (q := 18) 7 X dX4_keepCart_16 rfl bc_7 ic_7 ?_
  obtain ⟨s1, h⟩ := h
  refine g_copy (q := 21) X kA_X4_248 kA1 kA2 kA3 rfl (shR_18 hK.2.2.2.2.2.1.2.2.1.2) (hK.n (by decide)) (isR_n hK hK.2.2.2.2.2.1.2.2.1.2 (by decide)) s1 (by decide) (Nat.le_of_ble_eq_true rfl) dX4_keepCart_18 rfl ?_
  refine g_nmM (fun iv2 eiv2 => ?_)
  have h := h iv2 eiv2
  refine g_iconst (q := 22) 1 X dX4_keepCart_21 rfl rfl ic_1 ?_
  exact g_zret (q := 0) .boolean X hR (nar_B (Or.inr rfl)) dX4_keepCart_22 rfl ⟨rfl, rfl, _, rfl, (Or.inr rfl), h⟩
def wp_X4_all (iv : IV) (rv : RV) (K : Int → IV → Prop) : Prop :=
  wp_X7_among 1 iv rv (fun r1 => ((r1 = 0) → (wp_X7_advance iv rv (fun iv3 => wp_X4_tell (-2) iv3 rv (fun r4 iv5 => K r4 iv5)))) ∧ ((¬ (r1 = 0)) → (K 0 iv)))
set_option maxRecDepth 10000 in
theorem ce_X4_all {n : Nat} {iv : IV} {rv : RV} {K : Int → IV → Prop} (hK : Lk n rv)  (h : wp_X4_all  iv rv K) : Call 5 0 0 yX4_all cX4_all 1 (some .boolean) [aR (some 40)] n iv rv (fB1 n rv K) := by
  refine Call.by (L := [aR (some 40)]) (by decide) rfl ⟨trivial, trivial⟩ rfl (Nat.le_of_ble_eq_true rfl) (fun Γ X hR => ?_)
  unfold wp_X4_all at h
  refine g_aload_n (q := 1) 0 X dX4_all_0 rfl rfl rfl ?_
  refine g_getR (q := 4) (r := some 46) 4 0 X (lk_40_0 hK) (lt2000 (c := 0) (by decide)) kf_X4_31 (by decide) (by decide) rfl rfl (hK.n (by decide)) dX4_all_1 rfl ?_
  refine g_ldcS (q := 6) 1 X st_X4_254 (by decide) dX4_all_4 rfl ?_
  refine g_cv (q := 9) [aR (some (1000 + 1))] 7 X (ce_X7_among hK (by decide) h) kV_X4_81 rfl (by decide) rfl (hK.n (by decide)) rfl rfl (Nat.le_of_ble_eq_true rfl) (by decide) dX4_all_6 rfl (fun r n_ iv_ rv_ hf => ?_)
  obtain ⟨en_, ei_, er_, r1, rfl, h⟩ := hf; subst n_; subst iv_; subst rv_
  refine g_if_eq (q := 12) 14 X dX4_all_9 (by decide) rfl (fun c2 => ?_) (fun c2 => ?_)
  · have h := h.1 c2
    refine g_aload_n (q := 15) 0 X dX4_all_14 rfl rfl rfl ?_
    refine g_getR (q := 18) (r := some 46) 4 0 X (lk_40_0 hK) (lt2000 (c := 0) (by decide)) kf_X4_31 (by decide) (by decide) rfl rfl (hK.n (by decide)) dX4_all_15 rfl ?_
    refine g_cv (q := 21) [] 7 X (ce_X7_advance hK  h) kV_X4_76 rfl (by decide) rfl (hK.n (by decide)) rfl rfl (Nat.le_of_ble_eq_true rfl) (by decide) dX4_all_18 rfl (fun r n_ iv_ rv_ hf => ?_)
    obtain ⟨en_, er_, rfl, h⟩ := hf; subst n_; subst rv_
    generalize iv_ = iv3 at h ⊢
    refine g_aload_n (q := 22) 0 X dX4_all_21 rfl rfl rfl ?_
    refine g_bipush (q := 24) (-2) X dX4_all_22 rfl bc_m2 ic_m2 ?_
    refine g_cv (q := 27) [aI (-2)] 4 X (ce_X4_tell hK  h) kV_X4_153 rfl (by decide) rfl (hK.n (by decide)) rfl rfl (Nat.le_of_ble_eq_true rfl) (by decide) dX4_all_24 rfl (fun r n_ iv_ rv_ hf => ?_)
    obtain ⟨en_, er_, r4, rfl, br4, h⟩ := hf; subst n_; subst rv_
    generalize iv_ = iv5 at h ⊢
    exact g_zret (q := 0) .boolean X hR (nar_B br4) dX4_all_27 rfl ⟨rfl, rfl, _, rfl, br4, h⟩
  · have h := h.2 c2
    refine g_iconst (q := 13) 0 X dX4_all_12 rfl rfl ic_0 ?_
    exact g_zret (q := 0) .boolean X hR (nar_B (Or.inl rfl)) dX4_all_13 rfl ⟨rfl, rfl, _, rfl, (Or.inl rfl), h⟩
def wp_X4_span (iv : IV) (rv : RV) (K : Int → IV → Prop) : Prop :=
  wp_X4_word 12 iv rv (fun r1 iv2 => ((r1 = 0) → (K 0 iv2)) ∧ ((¬ (r1 = 0)) → (wp_X4_whole 0 999 iv2 rv (fun r4 iv5 => ((r4 ≠ 0) → (wp_X4_latest 0 iv5 rv (fun r7 => wp_X7_among 48 iv5 rv (fun r8 => ((r8 = 0) → (wp_X7_advance iv5 rv (fun iv10 => wp_X4_whole r7 (w32 (r7 + 20)) iv10 rv (fun r11 iv12 => K r11 iv12)))) ∧ ((¬ (r8 = 0)) → (wp_X4_tell r7 iv5 rv (fun r13 iv14 => K r13 iv14))))))) ∧ ((r4 = 0) → (K 0 iv5))))))
set_option maxRecDepth 10000 in
theorem ce_X4_span {n : Nat} {iv : IV} {rv : RV} {K : Int → IV → Prop} (hK : Lk n rv)  (h : wp_X4_span  iv rv K) : Call 6 0 0 yX4_span cX4_span 2 (some .boolean) [aR (some 40)] n iv rv (fB1 n rv K) := by
  refine Call.by (L := [aR (some 40), aJ]) (by decide) rfl ⟨trivial, trivial⟩ rfl (Nat.le_of_ble_eq_true rfl) (fun Γ X hR => ?_)
  unfold wp_X4_span at h
  refine g_aload_n (q := 1) 0 X dX4_span_0 rfl rfl rfl ?_
  refine g_ldcS (q := 3) 12 X st_X4_158 (by decide) dX4_span_1 rfl ?_
  refine g_cv (q := 6) [aR (some (1000 + 12))] 4 X (ce_X4_word hK (by decide) h) kV_X4_102 rfl (by decide) rfl (hK.n (by decide)) rfl rfl (Nat.le_of_ble_eq_true rfl) (by decide) dX4_span_3 rfl (fun r n_ iv_ rv_ hf => ?_)
  obtain ⟨en_, er_, r1, rfl, br1, h⟩ := hf; subst n_; subst rv_
  generalize iv_ = iv2 at h ⊢
  refine g_if_eq (q := 9) 20 X dX4_span_6 (by decide) rfl (fun c3 => ?_) (fun c3 => ?_)
  · have h := h.1 c3
    refine g_iconst (q := 21) 0 X dX4_span_20 rfl rfl ic_0 ?_
    exact g_zret (q := 0) .boolean X hR (nar_B (Or.inl rfl)) dX4_span_21 rfl ⟨rfl, rfl, _, rfl, (Or.inl rfl), h⟩
  · have h := h.2 c3
    refine g_aload_n (q := 10) 0 X dX4_span_9 rfl rfl rfl ?_
    refine g_iconst (q := 11) 0 X dX4_span_10 rfl rfl ic_0 ?_
    refine g_sipush (q := 14) 999 X dX4_span_11 rfl sc_999 ic_999 ?_
    refine g_cv (q := 17) [aI 0, aI 999] 4 X (ce_X4_whole hK  h) kV_X4_111 rfl (by decide) rfl (hK.n (by decide)) rfl rfl (Nat.le_of_ble_eq_true rfl) (by decide) dX4_span_14 rfl (fun r n_ iv_ rv_ hf => ?_)
    obtain ⟨en_, er_, r4, rfl, br4, h⟩ := hf; subst n_; subst rv_
    generalize iv_ = iv5 at h ⊢
    refine g_if_ne (q := 20) 22 X dX4_span_17 (by decide) rfl (fun c6 => ?_) (fun c6 => ?_)
    · have h := h.1 c6
      refine g_aload_n (q := 23) 0 X dX4_span_22 rfl rfl rfl ?_
      refine g_iconst (q := 24) 0 X dX4_span_23 rfl rfl ic_0 ?_
      refine g_cv (q := 27) [aI 0] 4 X (ce_X4_latest hK  h) kV_X4_259 rfl (by decide) rfl (hK.n (by decide)) rfl rfl (Nat.le_of_ble_eq_true rfl) (by decide) dX4_span_24 rfl (fun r n_ iv_ rv_ hf => ?_)
      obtain ⟨en_, ei_, er_, r7, rfl, h⟩ := hf; subst n_; subst iv_; subst rv_
      refine g_istore_n (q := 28) 1 (L' := [aR (some 40), aI r7]) X dX4_span_27 rfl rfl (by decide) rfl rfl ?_
      refine g_aload_n (q := 29) 0 X dX4_span_28 rfl rfl rfl ?_
      refine g_getR (q := 32) (r := some 46) 4 0 X (lk_40_0 hK) (lt2000 (c := 0) (by decide)) kf_X4_31 (by decide) (by decide) rfl rfl (hK.n (by decide)) dX4_span_29 rfl ?_
      refine g_ldcS (q := 34) 48 X st_X4_117 (by decide) dX4_span_32 rfl ?_
      refine g_cv (q := 37) [aR (some (1000 + 48))] 7 X (ce_X7_among hK (by decide) h) kV_X4_81 rfl (by decide) rfl (hK.n (by decide)) rfl rfl (Nat.le_of_ble_eq_true rfl) (by decide) dX4_span_34 rfl (fun r n_ iv_ rv_ hf => ?_)
      obtain ⟨en_, ei_, er_, r8, rfl, h⟩ := hf; subst n_; subst iv_; subst rv_
      refine g_if_eq (q := 40) 46 X dX4_span_37 (by decide) rfl (fun c9 => ?_) (fun c9 => ?_)
      · have h := h.1 c9
        refine g_aload_n (q := 47) 0 X dX4_span_46 rfl rfl rfl ?_
        refine g_getR (q := 50) (r := some 46) 4 0 X (lk_40_0 hK) (lt2000 (c := 0) (by decide)) kf_X4_31 (by decide) (by decide) rfl rfl (hK.n (by decide)) dX4_span_47 rfl ?_
        refine g_cv (q := 53) [] 7 X (ce_X7_advance hK  h) kV_X4_76 rfl (by decide) rfl (hK.n (by decide)) rfl rfl (Nat.le_of_ble_eq_true rfl) (by decide) dX4_span_50 rfl (fun r n_ iv_ rv_ hf => ?_)
        obtain ⟨en_, er_, rfl, h⟩ := hf; subst n_; subst rv_
        generalize iv_ = iv10 at h ⊢
        refine g_aload_n (q := 54) 0 X dX4_span_53 rfl rfl rfl ?_
        refine g_iload_n (q := 55) 1 X dX4_span_54 rfl rfl rfl ?_
        refine g_iload_n (q := 56) 1 X dX4_span_55 rfl rfl rfl ?_
        refine g_bipush (q := 58) 20 X dX4_span_56 rfl bc_20 ic_20 ?_
        refine g_iadd (q := 59) X dX4_span_58 rfl ?_
        refine g_cv (q := 62) [aI r7, aI (w32 (r7 + 20))] 4 X (ce_X4_whole hK  h) kV_X4_111 rfl (by decide) rfl (hK.n (by decide)) rfl rfl (Nat.le_of_ble_eq_true rfl) (by decide) dX4_span_59 rfl (fun r n_ iv_ rv_ hf => ?_)
        obtain ⟨en_, er_, r11, rfl, br11, h⟩ := hf; subst n_; subst rv_
        generalize iv_ = iv12 at h ⊢
        exact g_zret (q := 0) .boolean X hR (nar_B br11) dX4_span_62 rfl ⟨rfl, rfl, _, rfl, br11, h⟩
      · have h := h.2 c9
        refine g_aload_n (q := 41) 0 X dX4_span_40 rfl rfl rfl ?_
        refine g_iload_n (q := 42) 1 X dX4_span_41 rfl rfl rfl ?_
        refine g_cv (q := 45) [aI r7] 4 X (ce_X4_tell hK  h) kV_X4_153 rfl (by decide) rfl (hK.n (by decide)) rfl rfl (Nat.le_of_ble_eq_true rfl) (by decide) dX4_span_42 rfl (fun r n_ iv_ rv_ hf => ?_)
        obtain ⟨en_, er_, r13, rfl, br13, h⟩ := hf; subst n_; subst rv_
        generalize iv_ = iv14 at h ⊢
        exact g_zret (q := 0) .boolean X hR (nar_B br13) dX4_span_45 rfl ⟨rfl, rfl, _, rfl, br13, h⟩
    · have h := h.2 c6
      refine g_iconst (q := 21) 0 X dX4_span_20 rfl rfl ic_0 ?_
      exact g_zret (q := 0) .boolean X hR (nar_B (Or.inl rfl)) dX4_span_21 rfl ⟨rfl, rfl, _, rfl, (Or.inl rfl), h⟩
def wp_X4_keepGrant (a1 : Int) (iv : IV) (rv : RV) (K : Int → IV → Prop) : Prop :=
  (0 ≤ a1 ∧ a1 < 16) ∧ ∀ iv2, iv2 = w2 iv (gR rv 40 5 + 11) a1.toNat (iv 45 0) → (0 ≤ a1 ∧ a1 < 16) ∧ ∀ iv4, iv4 = w2 iv2 (gR rv 40 5 + 12) a1.toNat (iv2 45 1) → (0 ≤ a1 ∧ a1 < 16) ∧ ∀ iv6, iv6 = w2 iv4 (gR rv 40 5 + 13) a1.toNat (iv4 45 2) → (0 ≤ a1 ∧ a1 < 16) ∧ ∀ iv8, iv8 = w2 iv6 (gR rv 40 5 + 8) a1.toNat (iv6 45 3) → (0 ≤ a1 ∧ a1 < 16) ∧ ∀ iv10, iv10 = w2 iv8 (gR rv 40 5 + 9) a1.toNat (iv8 45 4) → K 1 iv10
set_option maxRecDepth 10000 in
theorem ce_X4_keepGrant {n : Nat} {iv : IV} {rv : RV} {K : Int → IV → Prop} {a1 : Int} (hK : Lk n rv)  (h : wp_X4_keepGrant a1 iv rv K) : Call 0 0 0 yX4_keepGrant cX4_keepGrant 2 (some .boolean) [aR (some 40), aI a1] n iv rv (fB1 n rv K) := by
  refine Call.by (L := [aR (some 40), aI a1]) (by decide) rfl ⟨trivial, trivial, trivial⟩ rfl (Nat.le_of_ble_eq_true rfl) (fun Γ X hR => ?_)
  unfold wp_X4_keepGrant at h
  refine g_aload_n (q := 1) 0 X dX4_keepGrant_0 rfl rfl rfl ?_
  refine g_getR (q := 4) (r := some (gR rv 40 5)) 4 5 X hK.2.2.2.2.2.1.2.2.1.1 (lt2000 (c := 0) (isR_lt0 hK.2.2.2.2.2.1.2.2.1.2)) kf_X4_35 (by decide) (by decide) rfl rfl (hK.n (by decide)) dX4_keepGrant_1 rfl ?_
  refine g_getR (q := 7) (r := some (gR rv 40 5 + 11)) 5 10 X (lkR_10 hK hK.2.2.2.2.2.1.2.2.1.2) (lt2000 (c := 0) (isR_lt hK.2.2.2.2.2.1.2.2.1.2 (by decide))) kf_X4_210 (by decide) (by decide) rfl (shR_0 hK.2.2.2.2.2.1.2.2.1.2) (isR_n0 hK hK.2.2.2.2.2.1.2.2.1.2) dX4_keepGrant_4 rfl ?_
  refine g_iload_n (q := 8) 1 X dX4_keepGrant_7 rfl rfl rfl ?_
  refine g_aload_n (q := 9) 0 X dX4_keepGrant_8 rfl rfl rfl ?_
  refine g_getR (q := 12) (r := some 45) 4 2 X (lk_40_2 hK) (lt2000 (c := 0) (by decide)) kf_X4_18 (by decide) (by decide) rfl rfl (hK.n (by decide)) dX4_keepGrant_9 rfl ?_
  refine g_iconst (q := 13) 0 X dX4_keepGrant_12 rfl rfl ic_0 ?_
  refine g_iald (q := 14) X rfl (hK.n (by decide)) (by decide) dX4_keepGrant_13 rfl ?_
  obtain ⟨s1, h⟩ := h
  refine g_iast (q := 15) X (shR_11 hK.2.2.2.2.2.1.2.2.1.2) (isR_n hK hK.2.2.2.2.2.1.2.2.1.2 (by decide)) s1 dX4_keepGrant_14 rfl ?_
  refine g_nmM (fun iv2 eiv2 => ?_)
  have h := h iv2 eiv2
  refine g_aload_n (q := 16) 0 X dX4_keepGrant_15 rfl rfl rfl ?_
  refine g_getR (q := 19) (r := some (gR rv 40 5)) 4 5 X hK.2.2.2.2.2.1.2.2.1.1 (lt2000 (c := 0) (isR_lt0 hK.2.2.2.2.2.1.2.2.1.2)) kf_X4_35 (by decide) (by decide) rfl rfl (hK.n (by decide)) dX4_keepGrant_16 rfl ?_
  refine g_getR (q := 22) (r := some (gR rv 40 5 + 12)) 5 11 X (lkR_11 hK hK.2.2.2.2.2.1.2.2.1.2) (lt2000 (c := 0) (isR_lt hK.2.2.2.2.2.1.2.2.1.2 (by decide))) kf_X4_213 (by decide) (by decide) rfl (shR_0 hK.2.2.2.2.2.1.2.2.1.2) (isR_n0 hK hK.2.2.2.2.2.1.2.2.1.2) dX4_keepGrant_19 rfl ?_
  refine g_iload_n (q := 23) 1 X dX4_keepGrant_22 rfl rfl rfl ?_
  refine g_aload_n (q := 24) 0 X dX4_keepGrant_23 rfl rfl rfl ?_
  refine g_getR (q := 27) (r := some 45) 4 2 X (lk_40_2 hK) (lt2000 (c := 0) (by decide)) kf_X4_18 (by decide) (by decide) rfl rfl (hK.n (by decide)) dX4_keepGrant_24 rfl ?_
  refine g_iconst (q := 28) 1 X dX4_keepGrant_27 rfl rfl ic_1 ?_
  refine g_iald (q := 29) X rfl (hK.n (by decide)) (by decide) dX4_keepGrant_28 rfl ?_
  obtain ⟨s3, h⟩ := h
  refine g_iast (q := 30) X (shR_12 hK.2.2.2.2.2.1.2.2.1.2) (isR_n hK hK.2.2.2.2.2.1.2.2.1.2 (by decide)) s3 dX4_keepGrant_29 rfl ?_
  refine g_nmM (fun iv4 eiv4 => ?_)
  have h := h iv4 eiv4
  refine g_aload_n (q := 31) 0 X dX4_keepGrant_30 rfl rfl rfl ?_
  refine g_getR (q := 34) (r := some (gR rv 40 5)) 4 5 X hK.2.2.2.2.2.1.2.2.1.1 (lt2000 (c := 0) (isR_lt0 hK.2.2.2.2.2.1.2.2.1.2)) kf_X4_35 (by decide) (by decide) rfl rfl (hK.n (by decide)) dX4_keepGrant_31 rfl ?_
  refine g_getR (q := 37) (r := some (gR rv 40 5 + 13)) 5 12 X (lkR_12 hK hK.2.2.2.2.2.1.2.2.1.2) (lt2000 (c := 0) (isR_lt hK.2.2.2.2.2.1.2.2.1.2 (by decide))) kf_X4_216 (by decide) (by decide) rfl (shR_0 hK.2.2.2.2.2.1.2.2.1.2) (isR_n0 hK hK.2.2.2.2.2.1.2.2.1.2) dX4_keepGrant_34 rfl ?_
  refine g_iload_n (q := 38) 1 X dX4_keepGrant_37 rfl rfl rfl ?_
  refine g_aload_n (q := 39) 0 X dX4_keepGrant_38 rfl rfl rfl ?_
  refine g_getR (q := 42) (r := some 45) 4 2 X (lk_40_2 hK) (lt2000 (c := 0) (by decide)) kf_X4_18 (by decide) (by decide) rfl rfl (hK.n (by decide)) dX4_keepGrant_39 rfl ?_
  refine g_iconst (q := 43) 2 X dX4_keepGrant_42 rfl rfl ic_2 ?_
  refine g_iald (q := 44) X rfl (hK.n (by decide)) (by decide) dX4_keepGrant_43 rfl ?_
  obtain ⟨s5, h⟩ := h
  refine g_iast (q := 45) X (shR_13 hK.2.2.2.2.2.1.2.2.1.2) (isR_n hK hK.2.2.2.2.2.1.2.2.1.2 (by decide)) s5 dX4_keepGrant_44 rfl ?_
  refine g_nmM (fun iv6 eiv6 => ?_)
  have h := h iv6 eiv6
  refine g_aload_n (q := 46) 0 X dX4_keepGrant_45 rfl rfl rfl ?_
  refine g_getR (q := 49) (r := some (gR rv 40 5)) 4 5 X hK.2.2.2.2.2.1.2.2.1.1 (lt2000 (c := 0) (isR_lt0 hK.2.2.2.2.2.1.2.2.1.2)) kf_X4_35 (by decide) (by decide) rfl rfl (hK.n (by decide)) dX4_keepGrant_46 rfl ?_
  refine g_getR (q := 52) (r := some (gR rv 40 5 + 8)) 5 7 X (lkR_7 hK hK.2.2.2.2.2.1.2.2.1.2) (lt2000 (c := 0) (isR_lt hK.2.2.2.2.2.1.2.2.1.2 (by decide))) kf_X4_219 (by decide) (by decide) rfl (shR_0 hK.2.2.2.2.2.1.2.2.1.2) (isR_n0 hK hK.2.2.2.2.2.1.2.2.1.2) dX4_keepGrant_49 rfl ?_
  refine g_iload_n (q := 53) 1 X dX4_keepGrant_52 rfl rfl rfl ?_
  refine g_aload_n (q := 54) 0 X dX4_keepGrant_53 rfl rfl rfl ?_
  refine g_getR (q := 57) (r := some 45) 4 2 X (lk_40_2 hK) (lt2000 (c := 0) (by decide)) kf_X4_18 (by decide) (by decide) rfl rfl (hK.n (by decide)) dX4_keepGrant_54 rfl ?_
  refine g_iconst (q := 58) 3 X dX4_keepGrant_57 rfl rfl ic_3 ?_
  refine g_iald (q := 59) X rfl (hK.n (by decide)) (by decide) dX4_keepGrant_58 rfl ?_
  obtain ⟨s7, h⟩ := h
  refine g_iast (q := 60) X (shR_8 hK.2.2.2.2.2.1.2.2.1.2) (isR_n hK hK.2.2.2.2.2.1.2.2.1.2 (by decide)) s7 dX4_keepGrant_59 rfl ?_
  refine g_nmM (fun iv8 eiv8 => ?_)
  have h := h iv8 eiv8
  refine g_aload_n (q := 61) 0 X dX4_keepGrant_60 rfl rfl rfl ?_
  refine g_getR (q := 64) (r := some (gR rv 40 5)) 4 5 X hK.2.2.2.2.2.1.2.2.1.1 (lt2000 (c := 0) (isR_lt0 hK.2.2.2.2.2.1.2.2.1.2)) kf_X4_35 (by decide) (by decide) rfl rfl (hK.n (by decide)) dX4_keepGrant_61 rfl ?_
  refine g_getR (q := 67) (r := some (gR rv 40 5 + 9)) 5 8 X (lkR_8 hK hK.2.2.2.2.2.1.2.2.1.2) (lt2000 (c := 0) (isR_lt hK.2.2.2.2.2.1.2.2.1.2 (by decide))) kf_X4_222 (by decide) (by decide) rfl (shR_0 hK.2.2.2.2.2.1.2.2.1.2) (isR_n0 hK hK.2.2.2.2.2.1.2.2.1.2) dX4_keepGrant_64 rfl ?_
  refine g_iload_n (q := 68) 1 X dX4_keepGrant_67 rfl rfl rfl ?_
  refine g_aload_n (q := 69) 0 X dX4_keepGrant_68 rfl rfl rfl ?_
  refine g_getR (q := 72) (r := some 45) 4 2 X (lk_40_2 hK) (lt2000 (c := 0) (by decide)) kf_X4_18 (by decide) (by decide) rfl rfl (hK.n (by decide)) dX4_keepGrant_69 rfl ?_
  refine g_iconst (q := 73) 4 X dX4_keepGrant_72 rfl rfl ic_4 ?_
  refine g_iald (q := 74) X rfl (hK.n (by decide)) (by decide) dX4_keepGrant_73 rfl ?_
  obtain ⟨s9, h⟩ := h
  refine g_iast (q := 75) X (shR_9 hK.2.2.2.2.2.1.2.2.1.2) (isR_n hK hK.2.2.2.2.2.1.2.2.1.2 (by decide)) s9 dX4_keepGrant_74 rfl ?_
  refine g_nmM (fun iv10 eiv10 => ?_)
  have h := h iv10 eiv10
  refine g_iconst (q := 76) 1 X dX4_keepGrant_75 rfl rfl ic_1 ?_
  exact g_zret (q := 0) .boolean X hR (nar_B (Or.inr rfl)) dX4_keepGrant_76 rfl ⟨rfl, rfl, _, rfl, (Or.inr rfl), h⟩
def wp_X4_keepRenewal (a1 : Int) (iv : IV) (rv : RV) (K : Int → IV → Prop) : Prop :=
  (0 ≤ a1 ∧ a1 < 4) ∧ ∀ iv2, iv2 = w2 iv (gR rv 40 5 + 14) a1.toNat (iv 45 0) → (0 ≤ a1 ∧ a1 < 4) ∧ ∀ iv4, iv4 = w2 iv2 (gR rv 40 5 + 15) a1.toNat (iv2 45 1) → (0 ≤ a1 ∧ a1 < 4) ∧ ∀ iv6, iv6 = w2 iv4 (gR rv 40 5 + 16) a1.toNat (iv4 45 2) → K 1 iv6
set_option maxRecDepth 10000 in
theorem ce_X4_keepRenewal {n : Nat} {iv : IV} {rv : RV} {K : Int → IV → Prop} {a1 : Int} (hK : Lk n rv)  (h : wp_X4_keepRenewal a1 iv rv K) : Call 0 0 0 yX4_keepRenewal cX4_keepRenewal 2 (some .boolean) [aR (some 40), aI a1] n iv rv (fB1 n rv K) := by
  refine Call.by (L := [aR (some 40), aI a1]) (by decide) rfl ⟨trivial, trivial, trivial⟩ rfl (Nat.le_of_ble_eq_true rfl) (fun Γ X hR => ?_)
  unfold wp_X4_keepRenewal at h
  refine g_aload_n (q := 1) 0 X dX4_keepRenewal_0 rfl rfl rfl ?_
  refine g_getR (q := 4) (r := some (gR rv 40 5)) 4 5 X hK.2.2.2.2.2.1.2.2.1.1 (lt2000 (c := 0) (isR_lt0 hK.2.2.2.2.2.1.2.2.1.2)) kf_X4_35 (by decide) (by decide) rfl rfl (hK.n (by decide)) dX4_keepRenewal_1 rfl ?_
  refine g_getR (q := 7) (r := some (gR rv 40 5 + 14)) 5 13 X (lkR_13 hK hK.2.2.2.2.2.1.2.2.1.2) (lt2000 (c := 0) (isR_lt hK.2.2.2.2.2.1.2.2.1.2 (by decide))) kf_X4_225 (by decide) (by decide) rfl (shR_0 hK.2.2.2.2.2.1.2.2.1.2) (isR_n0 hK hK.2.2.2.2.2.1.2.2.1.2) dX4_keepRenewal_4 rfl ?_
  refine g_iload_n (q := 8) 1 X dX4_keepRenewal_7 rfl rfl rfl ?_
  refine g_aload_n (q := 9) 0 X dX4_keepRenewal_8 rfl rfl rfl ?_
  refine g_getR (q := 12) (r := some 45) 4 2 X (lk_40_2 hK) (lt2000 (c := 0) (by decide)) kf_X4_18 (by decide) (by decide) rfl rfl (hK.n (by decide)) dX4_keepRenewal_9 rfl ?_
  refine g_iconst (q := 13) 0 X dX4_keepRenewal_12 rfl rfl ic_0 ?_
  refine g_iald (q := 14) X rfl (hK.n (by decide)) (by decide) dX4_keepRenewal_13 rfl ?_
  obtain ⟨s1, h⟩ := h
  refine g_iast (q := 15) X (shR_14 hK.2.2.2.2.2.1.2.2.1.2) (isR_n hK hK.2.2.2.2.2.1.2.2.1.2 (by decide)) s1 dX4_keepRenewal_14 rfl ?_
  refine g_nmM (fun iv2 eiv2 => ?_)
  have h := h iv2 eiv2
  refine g_aload_n (q := 16) 0 X dX4_keepRenewal_15 rfl rfl rfl ?_
  refine g_getR (q := 19) (r := some (gR rv 40 5)) 4 5 X hK.2.2.2.2.2.1.2.2.1.1 (lt2000 (c := 0) (isR_lt0 hK.2.2.2.2.2.1.2.2.1.2)) kf_X4_35 (by decide) (by decide) rfl rfl (hK.n (by decide)) dX4_keepRenewal_16 rfl ?_
  refine g_getR (q := 22) (r := some (gR rv 40 5 + 15)) 5 14 X (lkR_14 hK hK.2.2.2.2.2.1.2.2.1.2) (lt2000 (c := 0) (isR_lt hK.2.2.2.2.2.1.2.2.1.2 (by decide))) kf_X4_228 (by decide) (by decide) rfl (shR_0 hK.2.2.2.2.2.1.2.2.1.2) (isR_n0 hK hK.2.2.2.2.2.1.2.2.1.2) dX4_keepRenewal_19 rfl ?_
  refine g_iload_n (q := 23) 1 X dX4_keepRenewal_22 rfl rfl rfl ?_
  refine g_aload_n (q := 24) 0 X dX4_keepRenewal_23 rfl rfl rfl ?_
  refine g_getR (q := 27) (r := some 45) 4 2 X (lk_40_2 hK) (lt2000 (c := 0) (by decide)) kf_X4_18 (by decide) (by decide) rfl rfl (hK.n (by decide)) dX4_keepRenewal_24 rfl ?_
  refine g_iconst (q := 28) 1 X dX4_keepRenewal_27 rfl rfl ic_1 ?_
  refine g_iald (q := 29) X rfl (hK.n (by decide)) (by decide) dX4_keepRenewal_28 rfl ?_
  obtain ⟨s3, h⟩ := h
  refine g_iast (q := 30) X (shR_15 hK.2.2.2.2.2.1.2.2.1.2) (isR_n hK hK.2.2.2.2.2.1.2.2.1.2 (by decide)) s3 dX4_keepRenewal_29 rfl ?_
  refine g_nmM (fun iv4 eiv4 => ?_)
  have h := h iv4 eiv4
  refine g_aload_n (q := 31) 0 X dX4_keepRenewal_30 rfl rfl rfl ?_
  refine g_getR (q := 34) (r := some (gR rv 40 5)) 4 5 X hK.2.2.2.2.2.1.2.2.1.1 (lt2000 (c := 0) (isR_lt0 hK.2.2.2.2.2.1.2.2.1.2)) kf_X4_35 (by decide) (by decide) rfl rfl (hK.n (by decide)) dX4_keepRenewal_31 rfl ?_
  refine g_getR (q := 37) (r := some (gR rv 40 5 + 16)) 5 15 X (lkR_15 hK hK.2.2.2.2.2.1.2.2.1.2) (lt2000 (c := 0) (isR_lt hK.2.2.2.2.2.1.2.2.1.2 (by decide))) kf_X4_231 (by decide) (by decide) rfl (shR_0 hK.2.2.2.2.2.1.2.2.1.2) (isR_n0 hK hK.2.2.2.2.2.1.2.2.1.2) dX4_keepRenewal_34 rfl ?_
  refine g_iload_n (q := 38) 1 X dX4_keepRenewal_37 rfl rfl rfl ?_
  refine g_aload_n (q := 39) 0 X dX4_keepRenewal_38 rfl rfl rfl ?_
  refine g_getR (q := 42) (r := some 45) 4 2 X (lk_40_2 hK) (lt2000 (c := 0) (by decide)) kf_X4_18 (by decide) (by decide) rfl rfl (hK.n (by decide)) dX4_keepRenewal_39 rfl ?_
  refine g_iconst (q := 43) 2 X dX4_keepRenewal_42 rfl rfl ic_2 ?_
  refine g_iald (q := 44) X rfl (hK.n (by decide)) (by decide) dX4_keepRenewal_43 rfl ?_
  obtain ⟨s5, h⟩ := h
  refine g_iast (q := 45) X (shR_16 hK.2.2.2.2.2.1.2.2.1.2) (isR_n hK hK.2.2.2.2.2.1.2.2.1.2 (by decide)) s5 dX4_keepRenewal_44 rfl ?_
  refine g_nmM (fun iv6 eiv6 => ?_)
  have h := h iv6 eiv6
  refine g_iconst (q := 46) 1 X dX4_keepRenewal_45 rfl rfl ic_1 ?_
  exact g_zret (q := 0) .boolean X hR (nar_B (Or.inr rfl)) dX4_keepRenewal_46 rfl ⟨rfl, rfl, _, rfl, (Or.inr rfl), h⟩
def wp_X4_keepLoss (a1 : Int) (iv : IV) (rv : RV) (K : Int → IV → Prop) : Prop :=
  (0 ≤ a1 ∧ a1 < 16) ∧ (((iv (gR rv 40 5 + 10) a1.toNat) = 0) → ((0 ≤ a1 ∧ a1 < 16) ∧ ∀ iv4, iv4 = w2 iv (gR rv 40 5 + 10) a1.toNat 1 → wp_X7_among 9 iv4 rv (fun r5 => ((r5 ≠ 0) → (K 1 iv4)) ∧ ((r5 = 0) → ((0 ≤ a1 ∧ a1 < 16) ∧ ∀ iv8, iv8 = w2 iv4 (gR rv 40 5 + 10) a1.toNat 2 → wp_X7_advance iv8 rv (fun iv9 => K 1 iv9)))))) ∧ ((¬ ((iv (gR rv 40 5 + 10) a1.toNat) = 0)) → (wp_X4_failAt 3 (iv 40 4) iv rv (fun r10 iv11 => K r10 iv11)))
set_option maxRecDepth 10000 in
theorem ce_X4_keepLoss {n : Nat} {iv : IV} {rv : RV} {K : Int → IV → Prop} {a1 : Int} (hK : Lk n rv)  (h : wp_X4_keepLoss a1 iv rv K) : Call 5 0 0 yX4_keepLoss cX4_keepLoss 2 (some .boolean) [aR (some 40), aI a1] n iv rv (fB1 n rv K) := by
  refine Call.by (L := [aR (some 40), aI a1]) (by decide) rfl ⟨trivial, trivial, trivial⟩ rfl (Nat.le_of_ble_eq_true rfl) (fun Γ X hR => ?_)
  unfold wp_X4_keepLoss at h
  refine g_aload_n (q := 1) 0 X dX4_keepLoss_0 rfl rfl rfl ?_
  refine g_getR (q := 4) (r := some (gR rv 40 5)) 4 5 X hK.2.2.2.2.2.1.2.2.1.1 (lt2000 (c := 0) (isR_lt0 hK.2.2.2.2.2.1.2.2.1.2)) kf_X4_35 (by decide) (by decide) rfl rfl (hK.n (by decide)) dX4_keepLoss_1 rfl ?_
  refine g_getR (q := 7) (r := some (gR rv 40 5 + 10)) 5 9 X (lkR_9 hK hK.2.2.2.2.2.1.2.2.1.2) (lt2000 (c := 0) (isR_lt hK.2.2.2.2.2.1.2.2.1.2 (by decide))) kf_X4_234 (by decide) (by decide) rfl (shR_0 hK.2.2.2.2.2.1.2.2.1.2) (isR_n0 hK hK.2.2.2.2.2.1.2.2.1.2) dX4_keepLoss_4 rfl ?_
  refine g_iload_n (q := 8) 1 X dX4_keepLoss_7 rfl rfl rfl ?_
  obtain ⟨s1, h⟩ := h
  refine g_iald (q := 9) X (shR_10 hK.2.2.2.2.2.1.2.2.1.2) (isR_n hK hK.2.2.2.2.2.1.2.2.1.2 (by decide)) s1 dX4_keepLoss_8 rfl ?_
  refine g_if_eq (q := 12) 22 X dX4_keepLoss_9 (by decide) rfl (fun c2 => ?_) (fun c2 => ?_)
  · have h := h.1 c2
    refine g_aload_n (q := 23) 0 X dX4_keepLoss_22 rfl rfl rfl ?_
    refine g_getR (q := 26) (r := some (gR rv 40 5)) 4 5 X hK.2.2.2.2.2.1.2.2.1.1 (lt2000 (c := 0) (isR_lt0 hK.2.2.2.2.2.1.2.2.1.2)) kf_X4_35 (by decide) (by decide) rfl rfl (hK.n (by decide)) dX4_keepLoss_23 rfl ?_
    refine g_getR (q := 29) (r := some (gR rv 40 5 + 10)) 5 9 X (lkR_9 hK hK.2.2.2.2.2.1.2.2.1.2) (lt2000 (c := 0) (isR_lt hK.2.2.2.2.2.1.2.2.1.2 (by decide))) kf_X4_234 (by decide) (by decide) rfl (shR_0 hK.2.2.2.2.2.1.2.2.1.2) (isR_n0 hK hK.2.2.2.2.2.1.2.2.1.2) dX4_keepLoss_26 rfl ?_
    refine g_iload_n (q := 30) 1 X dX4_keepLoss_29 rfl rfl rfl ?_
    refine g_iconst (q := 31) 1 X dX4_keepLoss_30 rfl rfl ic_1 ?_
    obtain ⟨s3, h⟩ := h
    refine g_iast (q := 32) X (shR_10 hK.2.2.2.2.2.1.2.2.1.2) (isR_n hK hK.2.2.2.2.2.1.2.2.1.2 (by decide)) s3 dX4_keepLoss_31 rfl ?_
    refine g_nmM (fun iv4 eiv4 => ?_)
    have h := h iv4 eiv4
    refine g_aload_n (q := 33) 0 X dX4_keepLoss_32 rfl rfl rfl ?_
    refine g_getR (q := 36) (r := some 46) 4 0 X (lk_40_0 hK) (lt2000 (c := 0) (by decide)) kf_X4_31 (by decide) (by decide) rfl rfl (hK.n (by decide)) dX4_keepLoss_33 rfl ?_
    refine g_ldcS (q := 38) 9 X st_X4_240 (by decide) dX4_keepLoss_36 rfl ?_
    refine g_cv (q := 41) [aR (some (1000 + 9))] 7 X (ce_X7_among hK (by decide) h) kV_X4_81 rfl (by decide) rfl (hK.n (by decide)) rfl rfl (Nat.le_of_ble_eq_true rfl) (by decide) dX4_keepLoss_38 rfl (fun r n_ iv_ rv_ hf => ?_)
    obtain ⟨en_, ei_, er_, r5, rfl, h⟩ := hf; subst n_; subst iv_; subst rv_
    refine g_if_ne (q := 44) 61 X dX4_keepLoss_41 (by decide) rfl (fun c6 => ?_) (fun c6 => ?_)
    · have h := h.1 c6
      refine g_iconst (q := 62) 1 X dX4_keepLoss_61 rfl rfl ic_1 ?_
      exact g_zret (q := 0) .boolean X hR (nar_B (Or.inr rfl)) dX4_keepLoss_62 rfl ⟨rfl, rfl, _, rfl, (Or.inr rfl), h⟩
    · have h := h.2 c6
      refine g_aload_n (q := 45) 0 X dX4_keepLoss_44 rfl rfl rfl ?_
      refine g_getR (q := 48) (r := some (gR rv 40 5)) 4 5 X hK.2.2.2.2.2.1.2.2.1.1 (lt2000 (c := 0) (isR_lt0 hK.2.2.2.2.2.1.2.2.1.2)) kf_X4_35 (by decide) (by decide) rfl rfl (hK.n (by decide)) dX4_keepLoss_45 rfl ?_
      refine g_getR (q := 51) (r := some (gR rv 40 5 + 10)) 5 9 X (lkR_9 hK hK.2.2.2.2.2.1.2.2.1.2) (lt2000 (c := 0) (isR_lt hK.2.2.2.2.2.1.2.2.1.2 (by decide))) kf_X4_234 (by decide) (by decide) rfl (shR_0 hK.2.2.2.2.2.1.2.2.1.2) (isR_n0 hK hK.2.2.2.2.2.1.2.2.1.2) dX4_keepLoss_48 rfl ?_
      refine g_iload_n (q := 52) 1 X dX4_keepLoss_51 rfl rfl rfl ?_
      refine g_iconst (q := 53) 2 X dX4_keepLoss_52 rfl rfl ic_2 ?_
      obtain ⟨s7, h⟩ := h
      refine g_iast (q := 54) X (shR_10 hK.2.2.2.2.2.1.2.2.1.2) (isR_n hK hK.2.2.2.2.2.1.2.2.1.2 (by decide)) s7 dX4_keepLoss_53 rfl ?_
      refine g_nmM (fun iv8 eiv8 => ?_)
      have h := h iv8 eiv8
      refine g_aload_n (q := 55) 0 X dX4_keepLoss_54 rfl rfl rfl ?_
      refine g_getR (q := 58) (r := some 46) 4 0 X (lk_40_0 hK) (lt2000 (c := 0) (by decide)) kf_X4_31 (by decide) (by decide) rfl rfl (hK.n (by decide)) dX4_keepLoss_55 rfl ?_
      refine g_cv (q := 61) [] 7 X (ce_X7_advance hK  h) kV_X4_76 rfl (by decide) rfl (hK.n (by decide)) rfl rfl (Nat.le_of_ble_eq_true rfl) (by decide) dX4_keepLoss_58 rfl (fun r n_ iv_ rv_ hf => ?_)
      obtain ⟨en_, er_, rfl, h⟩ := hf; subst n_; subst rv_
      generalize iv_ = iv9 at h ⊢
      refine g_iconst (q := 62) 1 X dX4_keepLoss_61 rfl rfl ic_1 ?_
      exact g_zret (q := 0) .boolean X hR (nar_B (Or.inr rfl)) dX4_keepLoss_62 rfl ⟨rfl, rfl, _, rfl, (Or.inr rfl), h⟩
  · have h := h.2 c2
    refine g_aload_n (q := 13) 0 X dX4_keepLoss_12 rfl rfl rfl ?_
    refine g_iconst (q := 14) 3 X dX4_keepLoss_13 rfl rfl ic_3 ?_
    refine g_aload_n (q := 15) 0 X dX4_keepLoss_14 rfl rfl rfl ?_
    refine g_getI (q := 18) 4 4 X kf_X4_237 (by decide) (by decide) rfl rfl (hK.n (by decide)) dX4_keepLoss_15 rfl ?_
    refine g_cv (q := 21) [aI 3, aI (iv 40 4)] 4 X (ce_X4_failAt hK  h) kV_X4_72 rfl (by decide) rfl (hK.n (by decide)) rfl rfl (Nat.le_of_ble_eq_true rfl) (by decide) dX4_keepLoss_18 rfl (fun r n_ iv_ rv_ hf => ?_)
    obtain ⟨en_, er_, r10, rfl, br10, h⟩ := hf; subst n_; subst rv_
    generalize iv_ = iv11 at h ⊢
    exact g_zret (q := 0) .boolean X hR (nar_B br10) dX4_keepLoss_21 rfl ⟨rfl, rfl, _, rfl, br10, h⟩
def wp_X4_keepLaw (a1 : Int) (iv : IV) (rv : RV) (K : Int → IV → Prop) : Prop :=
  (0 ≤ a1 ∧ a1 < 3) ∧ ∀ iv2, iv2 = w2 iv (gR rv 40 5 + 17) a1.toNat ((Int32.ofInt ((Int32.ofInt ((Int32.ofInt (iv 45 0) ||| Int32.ofInt ((Int32.ofInt (iv 45 1) <<< (Int32.ofInt 1 &&& 31)).toInt)).toInt) ||| Int32.ofInt ((Int32.ofInt (iv 45 2) <<< (Int32.ofInt 2 &&& 31)).toInt)).toInt) ||| Int32.ofInt ((Int32.ofInt (iv 45 3) <<< (Int32.ofInt 3 &&& 31)).toInt)).toInt) → K 1 iv2
set_option maxRecDepth 10000 in
theorem ce_X4_keepLaw {n : Nat} {iv : IV} {rv : RV} {K : Int → IV → Prop} {a1 : Int} (hK : Lk n rv)  (h : wp_X4_keepLaw a1 iv rv K) : Call 0 0 0 yX4_keepLaw cX4_keepLaw 2 (some .boolean) [aR (some 40), aI a1] n iv rv (fB1 n rv K) := by
  refine Call.by (L := [aR (some 40), aI a1]) (by decide) rfl ⟨trivial, trivial, trivial⟩ rfl (Nat.le_of_ble_eq_true rfl) (fun Γ X hR => ?_)
  unfold wp_X4_keepLaw at h
  refine g_aload_n (q := 1) 0 X dX4_keepLaw_0 rfl rfl rfl ?_
  refine g_getR (q := 4) (r := some (gR rv 40 5)) 4 5 X hK.2.2.2.2.2.1.2.2.1.1 (lt2000 (c := 0) (isR_lt0 hK.2.2.2.2.2.1.2.2.1.2)) kf_X4_35 (by decide) (by decide) rfl rfl (hK.n (by decide)) dX4_keepLaw_1 rfl ?_
  refine g_getR (q := 7) (r := some (gR rv 40 5 + 17)) 5 16 X (lkR_16 hK hK.2.2.2.2.2.1.2.2.1.2) (lt2000 (c := 0) (isR_lt hK.2.2.2.2.2.1.2.2.1.2 (by decide))) kf_X4_242 (by decide) (by decide) rfl (shR_0 hK.2.2.2.2.2.1.2.2.1.2) (isR_n0 hK hK.2.2.2.2.2.1.2.2.1.2) dX4_keepLaw_4 rfl ?_
  refine g_iload_n (q := 8) 1 X dX4_keepLaw_7 rfl rfl rfl ?_
  refine g_aload_n (q := 9) 0 X dX4_keepLaw_8 rfl rfl rfl ?_
  refine g_getR (q := 12) (r := some 45) 4 2 X (lk_40_2 hK) (lt2000 (c := 0) (by decide)) kf_X4_18 (by decide) (by decide) rfl rfl (hK.n (by decide)) dX4_keepLaw_9 rfl ?_
  refine g_iconst (q := 13) 0 X dX4_keepLaw_12 rfl rfl ic_0 ?_
  refine g_iald (q := 14) X rfl (hK.n (by decide)) (by decide) dX4_keepLaw_13 rfl ?_
  refine g_aload_n (q := 15) 0 X dX4_keepLaw_14 rfl rfl rfl ?_
  refine g_getR (q := 18) (r := some 45) 4 2 X (lk_40_2 hK) (lt2000 (c := 0) (by decide)) kf_X4_18 (by decide) (by decide) rfl rfl (hK.n (by decide)) dX4_keepLaw_15 rfl ?_
  refine g_iconst (q := 19) 1 X dX4_keepLaw_18 rfl rfl ic_1 ?_
  refine g_iald (q := 20) X rfl (hK.n (by decide)) (by decide) dX4_keepLaw_19 rfl ?_
  refine g_iconst (q := 21) 1 X dX4_keepLaw_20 rfl rfl ic_1 ?_
  refine g_ishl (q := 22) X dX4_keepLaw_21 rfl ?_
  refine g_ior (q := 23) X dX4_keepLaw_22 rfl ?_
  refine g_aload_n (q := 24) 0 X dX4_keepLaw_23 rfl rfl rfl ?_
  refine g_getR (q := 27) (r := some 45) 4 2 X (lk_40_2 hK) (lt2000 (c := 0) (by decide)) kf_X4_18 (by decide) (by decide) rfl rfl (hK.n (by decide)) dX4_keepLaw_24 rfl ?_
  refine g_iconst (q := 28) 2 X dX4_keepLaw_27 rfl rfl ic_2 ?_
  refine g_iald (q := 29) X rfl (hK.n (by decide)) (by decide) dX4_keepLaw_28 rfl ?_
  refine g_iconst (q := 30) 2 X dX4_keepLaw_29 rfl rfl ic_2 ?_
  refine g_ishl (q := 31) X dX4_keepLaw_30 rfl ?_
  refine g_ior (q := 32) X dX4_keepLaw_31 rfl ?_
  refine g_aload_n (q := 33) 0 X dX4_keepLaw_32 rfl rfl rfl ?_
  refine g_getR (q := 36) (r := some 45) 4 2 X (lk_40_2 hK) (lt2000 (c := 0) (by decide)) kf_X4_18 (by decide) (by decide) rfl rfl (hK.n (by decide)) dX4_keepLaw_33 rfl ?_
  refine g_iconst (q := 37) 3 X dX4_keepLaw_36 rfl rfl ic_3 ?_
  refine g_iald (q := 38) X rfl (hK.n (by decide)) (by decide) dX4_keepLaw_37 rfl ?_
  refine g_iconst (q := 39) 3 X dX4_keepLaw_38 rfl rfl ic_3 ?_
  refine g_ishl (q := 40) X dX4_keepLaw_39 rfl ?_
  refine g_ior (q := 41) X dX4_keepLaw_40 rfl ?_
  obtain ⟨s1, h⟩ := h
  refine g_iast (q := 42) X (shR_17 hK.2.2.2.2.2.1.2.2.1.2) (isR_n hK hK.2.2.2.2.2.1.2.2.1.2 (by decide)) s1 dX4_keepLaw_41 rfl ?_
  refine g_nmM (fun iv2 eiv2 => ?_)
  have h := h iv2 eiv2
  refine g_iconst (q := 43) 1 X dX4_keepLaw_42 rfl rfl ic_1 ?_
  exact g_zret (q := 0) .boolean X hR (nar_B (Or.inr rfl)) dX4_keepLaw_43 rfl ⟨rfl, rfl, _, rfl, (Or.inr rfl), h⟩
def bd_X4_paperLine_92 (l2 : Int) (iv : IV) (rv : RV) (K : Int → IV → Prop) : Prop :=
  wp_X4_word 8 iv rv (fun r1 iv2 => ((r1 = 0) → (K 0 iv2)) ∧ ((¬ (r1 = 0)) → (wp_X4_whole 1 99 iv2 rv (fun r4 iv5 => ((r4 = 0) → (K 0 iv5)) ∧ ((¬ (r4 = 0)) → (wp_X4_span iv5 rv (fun r7 iv8 => ((r7 = 0) → (K 0 iv8)) ∧ ((¬ (r7 = 0)) → (wp_X4_keepGrant l2 iv8 rv (fun r10 iv11 => ((r10 = 0) → (K 0 iv11)) ∧ ((¬ (r10 = 0)) → (K 1 iv11))))))))))))
set_option maxRecDepth 10000 in
theorem cb_X4_paperLine_92 {Γ : GX} {n : Nat} {iv : IV} {rv : RV} {K : Int → IV → Prop} {l2 : Int} (X : Cx Γ RX4 cX4_paperLine 3 7) (hR : Rt Γ (some .boolean) 0 0 (fB1 n rv K)) (hK : Lk n rv)  (h : bd_X4_paperLine_92 l2 iv rv K) : G Γ 3 92 [aR (some 40), aJ, aI l2] [] n iv rv 0 0 := by
  unfold bd_X4_paperLine_92 at h
  refine g_aload_n (q := 93) 0 X dX4_paperLine_92 rfl rfl rfl ?_
  refine g_ldcS (q := 95) 8 X st_X4_136 (by decide) dX4_paperLine_93 rfl ?_
  refine g_cv (q := 98) [aR (some (1000 + 8))] 4 X (ce_X4_word hK (by decide) h) kV_X4_102 rfl (by decide) rfl (hK.n (by decide)) rfl rfl (Nat.le_of_ble_eq_true rfl) (by decide) dX4_paperLine_95 rfl (fun r n_ iv_ rv_ hf => ?_)
  obtain ⟨en_, er_, r1, rfl, br1, h⟩ := hf; subst n_; subst rv_
  generalize iv_ = iv2 at h ⊢
  refine g_if_eq (q := 101) 130 X dX4_paperLine_98 (by decide) rfl (fun c3 => ?_) (fun c3 => ?_)
  · have h := h.1 c3
    refine g_iconst (q := 131) 0 X dX4_paperLine_130 rfl rfl ic_0 ?_
    exact g_zret (q := 0) .boolean X hR (nar_B (Or.inl rfl)) dX4_paperLine_131 rfl ⟨rfl, rfl, _, rfl, (Or.inl rfl), h⟩
  · have h := h.2 c3
    refine g_aload_n (q := 102) 0 X dX4_paperLine_101 rfl rfl rfl ?_
    refine g_iconst (q := 103) 1 X dX4_paperLine_102 rfl rfl ic_1 ?_
    refine g_bipush (q := 105) 99 X dX4_paperLine_103 rfl bc_99 ic_99 ?_
    refine g_cv (q := 108) [aI 1, aI 99] 4 X (ce_X4_whole hK  h) kV_X4_111 rfl (by decide) rfl (hK.n (by decide)) rfl rfl (Nat.le_of_ble_eq_true rfl) (by decide) dX4_paperLine_105 rfl (fun r n_ iv_ rv_ hf => ?_)
    obtain ⟨en_, er_, r4, rfl, br4, h⟩ := hf; subst n_; subst rv_
    generalize iv_ = iv5 at h ⊢
    refine g_if_eq (q := 111) 130 X dX4_paperLine_108 (by decide) rfl (fun c6 => ?_) (fun c6 => ?_)
    · have h := h.1 c6
      refine g_iconst (q := 131) 0 X dX4_paperLine_130 rfl rfl ic_0 ?_
      exact g_zret (q := 0) .boolean X hR (nar_B (Or.inl rfl)) dX4_paperLine_131 rfl ⟨rfl, rfl, _, rfl, (Or.inl rfl), h⟩
    · have h := h.2 c6
      refine g_aload_n (q := 112) 0 X dX4_paperLine_111 rfl rfl rfl ?_
      refine g_cv (q := 115) [] 4 X (ce_X4_span hK  h) kV_X4_138 rfl (by decide) rfl (hK.n (by decide)) rfl rfl (Nat.le_of_ble_eq_true rfl) (by decide) dX4_paperLine_112 rfl (fun r n_ iv_ rv_ hf => ?_)
      obtain ⟨en_, er_, r7, rfl, br7, h⟩ := hf; subst n_; subst rv_
      generalize iv_ = iv8 at h ⊢
      refine g_if_eq (q := 118) 130 X dX4_paperLine_115 (by decide) rfl (fun c9 => ?_) (fun c9 => ?_)
      · have h := h.1 c9
        refine g_iconst (q := 131) 0 X dX4_paperLine_130 rfl rfl ic_0 ?_
        exact g_zret (q := 0) .boolean X hR (nar_B (Or.inl rfl)) dX4_paperLine_131 rfl ⟨rfl, rfl, _, rfl, (Or.inl rfl), h⟩
      · have h := h.2 c9
        refine g_aload_n (q := 119) 0 X dX4_paperLine_118 rfl rfl rfl ?_
        refine g_iload_n (q := 120) 2 X dX4_paperLine_119 rfl rfl rfl ?_
        refine g_cv (q := 123) [aI l2] 4 X (ce_X4_keepGrant hK  h) kV_X4_141 rfl (by decide) rfl (hK.n (by decide)) rfl rfl (Nat.le_of_ble_eq_true rfl) (by decide) dX4_paperLine_120 rfl (fun r n_ iv_ rv_ hf => ?_)
        obtain ⟨en_, er_, r10, rfl, br10, h⟩ := hf; subst n_; subst rv_
        generalize iv_ = iv11 at h ⊢
        refine g_if_eq (q := 126) 130 X dX4_paperLine_123 (by decide) rfl (fun c12 => ?_) (fun c12 => ?_)
        · have h := h.1 c12
          refine g_iconst (q := 131) 0 X dX4_paperLine_130 rfl rfl ic_0 ?_
          exact g_zret (q := 0) .boolean X hR (nar_B (Or.inl rfl)) dX4_paperLine_131 rfl ⟨rfl, rfl, _, rfl, (Or.inl rfl), h⟩
        · have h := h.2 c12
          refine g_iconst (q := 127) 1 X dX4_paperLine_126 rfl rfl ic_1 ?_
          refine g_goto (q := 131) X dX4_paperLine_127 (by decide) ?_
          exact g_zret (q := 0) .boolean X hR (nar_B (Or.inr rfl)) dX4_paperLine_131 rfl ⟨rfl, rfl, _, rfl, (Or.inr rfl), h⟩
def bd_X4_paperLine_188 (l2 : Int) (iv : IV) (rv : RV) (K : Int → IV → Prop) : Prop :=
  wp_X4_choice 37 iv rv (fun r1 iv2 => ((r1 = 0) → (K 0 iv2)) ∧ ((¬ (r1 = 0)) → (wp_X4_span iv2 rv (fun r4 iv5 => ((r4 = 0) → (K 0 iv5)) ∧ ((¬ (r4 = 0)) → (wp_X4_keepGrant (w32 (6 + l2)) iv5 rv (fun r7 iv8 => ((r7 = 0) → (K 0 iv8)) ∧ ((¬ (r7 = 0)) → (K 1 iv8)))))))))
set_option maxRecDepth 10000 in
theorem cb_X4_paperLine_188 {Γ : GX} {n : Nat} {iv : IV} {rv : RV} {K : Int → IV → Prop} {l2 : Int} (X : Cx Γ RX4 cX4_paperLine 3 7) (hR : Rt Γ (some .boolean) 0 0 (fB1 n rv K)) (hK : Lk n rv)  (h : bd_X4_paperLine_188 l2 iv rv K) : G Γ 3 188 [aR (some 40), aJ, aI l2] [] n iv rv 0 0 := by
  unfold bd_X4_paperLine_188 at h
  refine g_aload_n (q := 189) 0 X dX4_paperLine_188 rfl rfl rfl ?_
  refine g_ldcS (q := 191) 37 X st_X4_146 (by decide) dX4_paperLine_189 rfl ?_
  refine g_cv (q := 194) [aR (some (1000 + 37))] 4 X (ce_X4_choice hK (by decide) h) kV_X4_148 rfl (by decide) rfl (hK.n (by decide)) rfl rfl (Nat.le_of_ble_eq_true rfl) (by decide) dX4_paperLine_191 rfl (fun r n_ iv_ rv_ hf => ?_)
  obtain ⟨en_, er_, r1, rfl, br1, h⟩ := hf; subst n_; subst rv_
  generalize iv_ = iv2 at h ⊢
  refine g_if_eq (q := 197) 219 X dX4_paperLine_194 (by decide) rfl (fun c3 => ?_) (fun c3 => ?_)
  · have h := h.1 c3
    refine g_iconst (q := 220) 0 X dX4_paperLine_219 rfl rfl ic_0 ?_
    exact g_zret (q := 0) .boolean X hR (nar_B (Or.inl rfl)) dX4_paperLine_220 rfl ⟨rfl, rfl, _, rfl, (Or.inl rfl), h⟩
  · have h := h.2 c3
    refine g_aload_n (q := 198) 0 X dX4_paperLine_197 rfl rfl rfl ?_
    refine g_cv (q := 201) [] 4 X (ce_X4_span hK  h) kV_X4_138 rfl (by decide) rfl (hK.n (by decide)) rfl rfl (Nat.le_of_ble_eq_true rfl) (by decide) dX4_paperLine_198 rfl (fun r n_ iv_ rv_ hf => ?_)
    obtain ⟨en_, er_, r4, rfl, br4, h⟩ := hf; subst n_; subst rv_
    generalize iv_ = iv5 at h ⊢
    refine g_if_eq (q := 204) 219 X dX4_paperLine_201 (by decide) rfl (fun c6 => ?_) (fun c6 => ?_)
    · have h := h.1 c6
      refine g_iconst (q := 220) 0 X dX4_paperLine_219 rfl rfl ic_0 ?_
      exact g_zret (q := 0) .boolean X hR (nar_B (Or.inl rfl)) dX4_paperLine_220 rfl ⟨rfl, rfl, _, rfl, (Or.inl rfl), h⟩
    · have h := h.2 c6
      refine g_aload_n (q := 205) 0 X dX4_paperLine_204 rfl rfl rfl ?_
      refine g_bipush (q := 207) 6 X dX4_paperLine_205 rfl bc_6 ic_6 ?_
      refine g_iload_n (q := 208) 2 X dX4_paperLine_207 rfl rfl rfl ?_
      refine g_iadd (q := 209) X dX4_paperLine_208 rfl ?_
      refine g_cv (q := 212) [aI (w32 (6 + l2))] 4 X (ce_X4_keepGrant hK  h) kV_X4_141 rfl (by decide) rfl (hK.n (by decide)) rfl rfl (Nat.le_of_ble_eq_true rfl) (by decide) dX4_paperLine_209 rfl (fun r n_ iv_ rv_ hf => ?_)
      obtain ⟨en_, er_, r7, rfl, br7, h⟩ := hf; subst n_; subst rv_
      generalize iv_ = iv8 at h ⊢
      refine g_if_eq (q := 215) 219 X dX4_paperLine_212 (by decide) rfl (fun c9 => ?_) (fun c9 => ?_)
      · have h := h.1 c9
        refine g_iconst (q := 220) 0 X dX4_paperLine_219 rfl rfl ic_0 ?_
        exact g_zret (q := 0) .boolean X hR (nar_B (Or.inl rfl)) dX4_paperLine_220 rfl ⟨rfl, rfl, _, rfl, (Or.inl rfl), h⟩
      · have h := h.2 c9
        refine g_iconst (q := 216) 1 X dX4_paperLine_215 rfl rfl ic_1 ?_
        refine g_goto (q := 220) X dX4_paperLine_216 (by decide) ?_
        exact g_zret (q := 0) .boolean X hR (nar_B (Or.inr rfl)) dX4_paperLine_220 rfl ⟨rfl, rfl, _, rfl, (Or.inr rfl), h⟩
def wp_X4_paperLine (a1 : Int) (a2 : Int) (iv : IV) (rv : RV) (K : Int → IV → Prop) : Prop :=
  (((a1 < 5 ∨ 10 < a1)) → (wp_X4_newName 11 a2 iv rv (fun r2 iv3 => ((r2 = 0) → (K 0 iv3)) ∧ ((¬ (r2 = 0)) → (wp_X4_word 30 iv3 rv (fun r5 iv6 => ((r5 = 0) → (K 0 iv6)) ∧ ((¬ (r5 = 0)) → (wp_X4_use 2 2 iv6 rv (fun r8 iv9 => ((r8 = 0) → (K 0 iv9)) ∧ ((¬ (r8 = 0)) → (wp_X4_word 50 iv9 rv (fun r11 iv12 => ((r11 = 0) → (K 0 iv12)) ∧ ((¬ (r11 = 0)) → (wp_X4_use 1 1 iv12 rv (fun r14 iv15 => ((r14 = 0) → (K 0 iv15)) ∧ ((¬ (r14 = 0)) → (wp_X4_choice 36 iv15 rv (fun r17 iv18 => ((r17 = 0) → (K 0 iv18)) ∧ ((¬ (r17 = 0)) → (wp_X4_word 22 iv18 rv (fun r20 iv21 => ((r20 = 0) → (K 0 iv21)) ∧ ((¬ (r20 = 0)) → (wp_X4_whole 1 99 iv21 rv (fun r23 iv24 => ((r23 = 0) → (K 0 iv24)) ∧ ((¬ (r23 = 0)) → (wp_X4_word 15 iv24 rv (fun r26 iv27 => ((r26 = 0) → (K 0 iv27)) ∧ ((¬ (r26 = 0)) → (wp_X4_use 0 0 iv27 rv (fun r29 iv30 => ((r29 = 0) → (K 0 iv30)) ∧ ((¬ (r29 = 0)) → (wp_X4_word 48 iv30 rv (fun r32 iv33 => ((r32 = 0) → (K 0 iv33)) ∧ ((¬ (r32 = 0)) → (wp_X4_use 0 0 iv33 rv (fun r35 iv36 => ((r35 = 0) → (K 0 iv36)) ∧ ((¬ (r35 = 0)) → (wp_X4_differ iv36 rv (fun r38 iv39 => ((r38 = 0) → (K 0 iv39)) ∧ ((¬ (r38 = 0)) → (wp_X4_word 12 iv39 rv (fun r41 iv42 => ((r41 = 0) → (K 0 iv42)) ∧ ((¬ (r41 = 0)) → (wp_X4_whole 0 999 iv42 rv (fun r44 iv45 => ((r44 = 0) → (K 0 iv45)) ∧ ((¬ (r44 = 0)) → (wp_X4_keepCart a2 iv45 rv (fun r47 iv48 => ((r47 = 0) → (K 0 iv48)) ∧ ((¬ (r47 = 0)) → (K 1 iv48)))))))))))))))))))))))))))))))))))))))))))))))))) ∧ ((a1 = 5) → (wp_X4_newName 5 a2 iv rv (fun r50 iv51 => ((r50 = 0) → (K 0 iv51)) ∧ ((¬ (r50 = 0)) → (wp_X4_word 3 iv51 rv (fun r53 iv54 => ((r53 = 0) → (K 0 iv54)) ∧ ((¬ (r53 = 0)) → (wp_X4_use 4 4 iv54 rv (fun r56 iv57 => ((r56 = 0) → (K 0 iv57)) ∧ ((¬ (r56 = 0)) → (wp_X4_word 33 iv57 rv (fun r59 iv60 => ((r59 = 0) → (K 0 iv60)) ∧ ((¬ (r59 = 0)) → (wp_X4_all iv60 rv (fun r62 iv63 => ((r62 ≠ 0) → (bd_X4_paperLine_92 a2 iv63 rv K)) ∧ ((r62 = 0) → (wp_X4_use 1 1 iv63 rv (fun r65 iv66 => ((r65 = 0) → (K 0 iv66)) ∧ ((¬ (r65 = 0)) → (bd_X4_paperLine_92 a2 iv66 rv K)))))))))))))))))))) ∧ ((a1 = 6) → (wp_X4_newName 6 (w32 (6 + a2)) iv rv (fun r68 iv69 => ((r68 = 0) → (K 0 iv69)) ∧ ((¬ (r68 = 0)) → (wp_X4_word 13 iv69 rv (fun r71 iv72 => ((r71 = 0) → (K 0 iv72)) ∧ ((¬ (r71 = 0)) → (wp_X4_use 0 0 iv72 rv (fun r74 iv75 => ((r74 = 0) → (K 0 iv75)) ∧ ((¬ (r74 = 0)) → (wp_X4_word 33 iv75 rv (fun r77 iv78 => ((r77 = 0) → (K 0 iv78)) ∧ ((¬ (r77 = 0)) → (wp_X4_all iv78 rv (fun r80 iv81 => ((r80 ≠ 0) → (bd_X4_paperLine_188 a2 iv81 rv K)) ∧ ((r80 = 0) → (wp_X4_use 1 1 iv81 rv (fun r83 iv84 => ((r83 = 0) → (K 0 iv84)) ∧ ((¬ (r83 = 0)) → (bd_X4_paperLine_188 a2 iv84 rv K)))))))))))))))))))) ∧ ((a1 = 7) → (wp_X4_newName 7 (w32 (12 + a2)) iv rv (fun r86 iv87 => ((r86 = 0) → (K 0 iv87)) ∧ ((¬ (r86 = 0)) → (wp_X4_word 13 iv87 rv (fun r89 iv90 => ((r89 = 0) → (K 0 iv90)) ∧ ((¬ (r89 = 0)) → (wp_X4_use 0 0 iv90 rv (fun r92 iv93 => ((r92 = 0) → (K 0 iv93)) ∧ ((¬ (r92 = 0)) → (wp_X4_word 21 iv93 rv (fun r95 iv96 => ((r95 = 0) → (K 0 iv96)) ∧ ((¬ (r95 = 0)) → (wp_X4_use 0 0 iv96 rv (fun r98 iv99 => ((r98 = 0) → (K 0 iv99)) ∧ ((¬ (r98 = 0)) → (wp_X4_differ iv99 rv (fun r101 iv102 => ((r101 = 0) → (K 0 iv102)) ∧ ((¬ (r101 = 0)) → (wp_X4_tell 0 iv102 rv (fun r104 iv105 => ((r104 = 0) → (K 0 iv105)) ∧ ((¬ (r104 = 0)) → (wp_X4_span iv105 rv (fun r107 iv108 => ((r107 = 0) → (K 0 iv108)) ∧ ((¬ (r107 = 0)) → (wp_X4_keepGrant (w32 (12 + a2)) iv108 rv (fun r110 iv111 => ((r110 = 0) → (K 0 iv111)) ∧ ((¬ (r110 = 0)) → (K 1 iv111))))))))))))))))))))))))))))) ∧ ((a1 = 8) → (wp_X4_use 5 6 iv rv (fun r113 iv114 => ((r113 = 0) → (K 0 iv114)) ∧ ((¬ (r113 = 0)) → (wp_X4_choice 45 iv114 rv (fun r116 iv117 => ((r116 = 0) → (K 0 iv117)) ∧ ((¬ (r116 = 0)) → (wp_X4_word 12 iv117 rv (fun r119 iv120 => ((r119 = 0) → (K 0 iv120)) ∧ ((¬ (r119 = 0)) → (wp_X4_whole 0 999 iv120 rv (fun r122 iv123 => ((r122 = 0) → (K 0 iv123)) ∧ ((¬ (r122 = 0)) → (wp_X4_keepRenewal a2 iv123 rv (fun r125 iv126 => ((r125 = 0) → (K 0 iv126)) ∧ ((¬ (r125 = 0)) → (K 1 iv126))))))))))))))))) ∧ ((a1 = 9) → (wp_X4_use 5 7 iv rv (fun r128 iv129 => ((r128 = 0) → (K 0 iv129)) ∧ ((¬ (r128 = 0)) → (wp_X4_keepLoss (iv129 45 0) iv129 rv (fun r131 iv132 => ((r131 = 0) → (K 0 iv132)) ∧ ((¬ (r131 = 0)) → (K 1 iv132)))))))) ∧ ((a1 = 10) → (wp_X4_newName 10 a2 iv rv (fun r134 iv135 => ((r134 = 0) → (K 0 iv135)) ∧ ((¬ (r134 = 0)) → (wp_X4_choice 32 iv135 rv (fun r137 iv138 => ((r137 = 0) → (K 0 iv138)) ∧ ((¬ (r137 = 0)) → (wp_X4_choice 35 iv138 rv (fun r140 iv141 => ((r140 = 0) → (K 0 iv141)) ∧ ((¬ (r140 = 0)) → (wp_X4_choice 28 iv141 rv (fun r143 iv144 => ((r143 = 0) → (K 0 iv144)) ∧ ((¬ (r143 = 0)) → (wp_X4_choice 11 iv144 rv (fun r146 iv147 => ((r146 = 0) → (K 0 iv147)) ∧ ((¬ (r146 = 0)) → (wp_X4_keepLaw a2 iv147 rv (fun r149 iv150 => ((r149 = 0) → (K 0 iv150)) ∧ ((¬ (r149 = 0)) → (K 1 iv150))))))))))))))))))))
set_option maxRecDepth 10000 in
theorem ce_X4_paperLine {n : Nat} {iv : IV} {rv : RV} {K : Int → IV → Prop} {a1 : Int} {a2 : Int} (hK : Lk n rv)  (h : wp_X4_paperLine a1 a2 iv rv K) : Call 7 0 0 yX4_paperLine cX4_paperLine 3 (some .boolean) [aR (some 40), aI a1, aI a2] n iv rv (fB1 n rv K) := by
  refine Call.by (L := [aR (some 40), aI a1, aI a2]) (by decide) rfl ⟨trivial, trivial, trivial, trivial⟩ rfl (Nat.le_of_ble_eq_true rfl) (fun Γ X hR => ?_)
  unfold wp_X4_paperLine at h
  refine g_iload_n (q := 1) 1 X dX4_paperLine_0 rfl rfl rfl ?_
  have hsw : (a1 < 5 ∨ 10 < a1) ∨ a1 = 5 ∨ a1 = 6 ∨ a1 = 7 ∨ a1 = 8 ∨ a1 = 9 ∨ a1 = 10 := by omega
  rcases hsw with c1 | c1 | c1 | c1 | c1 | c1 | c1
  · have h := h.1 c1
    refine g_tswOut (q := 451) X dX4_paperLine_1 (by decide) c1 ?_
    refine g_aload_n (q := 452) 0 X dX4_paperLine_451 rfl rfl rfl ?_
    refine g_bipush (q := 454) 11 X dX4_paperLine_452 rfl bc_11 ic_11 ?_
    refine g_iload_n (q := 455) 2 X dX4_paperLine_454 rfl rfl rfl ?_
    refine g_cv (q := 458) [aI 11, aI a2] 4 X (ce_X4_newName hK  h) kV_X4_97 rfl (by decide) rfl (hK.n (by decide)) rfl rfl (Nat.le_of_ble_eq_true rfl) (by decide) dX4_paperLine_455 rfl (fun r n_ iv_ rv_ hf => ?_)
    obtain ⟨en_, er_, r2, rfl, br2, h⟩ := hf; subst n_; subst rv_
    generalize iv_ = iv3 at h ⊢
    refine g_if_eq (q := 461) 600 X dX4_paperLine_458 (by decide) rfl (fun c4 => ?_) (fun c4 => ?_)
    · have h := h.1 c4
      refine g_iconst (q := 601) 0 X dX4_paperLine_600 rfl rfl ic_0 ?_
      exact g_zret (q := 0) .boolean X hR (nar_B (Or.inl rfl)) dX4_paperLine_601 rfl ⟨rfl, rfl, _, rfl, (Or.inl rfl), h⟩
    · have h := h.2 c4
      refine g_aload_n (q := 462) 0 X dX4_paperLine_461 rfl rfl rfl ?_
      refine g_ldcS (q := 464) 30 X st_X4_100 (by decide) dX4_paperLine_462 rfl ?_
      refine g_cv (q := 467) [aR (some (1000 + 30))] 4 X (ce_X4_word hK (by decide) h) kV_X4_102 rfl (by decide) rfl (hK.n (by decide)) rfl rfl (Nat.le_of_ble_eq_true rfl) (by decide) dX4_paperLine_464 rfl (fun r n_ iv_ rv_ hf => ?_)
      obtain ⟨en_, er_, r5, rfl, br5, h⟩ := hf; subst n_; subst rv_
      generalize iv_ = iv6 at h ⊢
      refine g_if_eq (q := 470) 600 X dX4_paperLine_467 (by decide) rfl (fun c7 => ?_) (fun c7 => ?_)
      · have h := h.1 c7
        refine g_iconst (q := 601) 0 X dX4_paperLine_600 rfl rfl ic_0 ?_
        exact g_zret (q := 0) .boolean X hR (nar_B (Or.inl rfl)) dX4_paperLine_601 rfl ⟨rfl, rfl, _, rfl, (Or.inl rfl), h⟩
      · have h := h.2 c7
        refine g_aload_n (q := 471) 0 X dX4_paperLine_470 rfl rfl rfl ?_
        refine g_iconst (q := 472) 2 X dX4_paperLine_471 rfl rfl ic_2 ?_
        refine g_iconst (q := 473) 2 X dX4_paperLine_472 rfl rfl ic_2 ?_
        refine g_cv (q := 476) [aI 2, aI 2] 4 X (ce_X4_use hK  h) kV_X4_106 rfl (by decide) rfl (hK.n (by decide)) rfl rfl (Nat.le_of_ble_eq_true rfl) (by decide) dX4_paperLine_473 rfl (fun r n_ iv_ rv_ hf => ?_)
        obtain ⟨en_, er_, r8, rfl, br8, h⟩ := hf; subst n_; subst rv_
        generalize iv_ = iv9 at h ⊢
        refine g_if_eq (q := 479) 600 X dX4_paperLine_476 (by decide) rfl (fun c10 => ?_) (fun c10 => ?_)
        · have h := h.1 c10
          refine g_iconst (q := 601) 0 X dX4_paperLine_600 rfl rfl ic_0 ?_
          exact g_zret (q := 0) .boolean X hR (nar_B (Or.inl rfl)) dX4_paperLine_601 rfl ⟨rfl, rfl, _, rfl, (Or.inl rfl), h⟩
        · have h := h.2 c10
          refine g_aload_n (q := 480) 0 X dX4_paperLine_479 rfl rfl rfl ?_
          refine g_ldcS (q := 482) 50 X st_X4_177 (by decide) dX4_paperLine_480 rfl ?_
          refine g_cv (q := 485) [aR (some (1000 + 50))] 4 X (ce_X4_word hK (by decide) h) kV_X4_102 rfl (by decide) rfl (hK.n (by decide)) rfl rfl (Nat.le_of_ble_eq_true rfl) (by decide) dX4_paperLine_482 rfl (fun r n_ iv_ rv_ hf => ?_)
          obtain ⟨en_, er_, r11, rfl, br11, h⟩ := hf; subst n_; subst rv_
          generalize iv_ = iv12 at h ⊢
          refine g_if_eq (q := 488) 600 X dX4_paperLine_485 (by decide) rfl (fun c13 => ?_) (fun c13 => ?_)
          · have h := h.1 c13
            refine g_iconst (q := 601) 0 X dX4_paperLine_600 rfl rfl ic_0 ?_
            exact g_zret (q := 0) .boolean X hR (nar_B (Or.inl rfl)) dX4_paperLine_601 rfl ⟨rfl, rfl, _, rfl, (Or.inl rfl), h⟩
          · have h := h.2 c13
            refine g_aload_n (q := 489) 0 X dX4_paperLine_488 rfl rfl rfl ?_
            refine g_iconst (q := 490) 1 X dX4_paperLine_489 rfl rfl ic_1 ?_
            refine g_iconst (q := 491) 1 X dX4_paperLine_490 rfl rfl ic_1 ?_
            refine g_cv (q := 494) [aI 1, aI 1] 4 X (ce_X4_use hK  h) kV_X4_106 rfl (by decide) rfl (hK.n (by decide)) rfl rfl (Nat.le_of_ble_eq_true rfl) (by decide) dX4_paperLine_491 rfl (fun r n_ iv_ rv_ hf => ?_)
            obtain ⟨en_, er_, r14, rfl, br14, h⟩ := hf; subst n_; subst rv_
            generalize iv_ = iv15 at h ⊢
            refine g_if_eq (q := 497) 600 X dX4_paperLine_494 (by decide) rfl (fun c16 => ?_) (fun c16 => ?_)
            · have h := h.1 c16
              refine g_iconst (q := 601) 0 X dX4_paperLine_600 rfl rfl ic_0 ?_
              exact g_zret (q := 0) .boolean X hR (nar_B (Or.inl rfl)) dX4_paperLine_601 rfl ⟨rfl, rfl, _, rfl, (Or.inl rfl), h⟩
            · have h := h.2 c16
              refine g_aload_n (q := 498) 0 X dX4_paperLine_497 rfl rfl rfl ?_
              refine g_ldcS (q := 500) 36 X st_X4_179 (by decide) dX4_paperLine_498 rfl ?_
              refine g_cv (q := 503) [aR (some (1000 + 36))] 4 X (ce_X4_choice hK (by decide) h) kV_X4_148 rfl (by decide) rfl (hK.n (by decide)) rfl rfl (Nat.le_of_ble_eq_true rfl) (by decide) dX4_paperLine_500 rfl (fun r n_ iv_ rv_ hf => ?_)
              obtain ⟨en_, er_, r17, rfl, br17, h⟩ := hf; subst n_; subst rv_
              generalize iv_ = iv18 at h ⊢
              refine g_if_eq (q := 506) 600 X dX4_paperLine_503 (by decide) rfl (fun c19 => ?_) (fun c19 => ?_)
              · have h := h.1 c19
                refine g_iconst (q := 601) 0 X dX4_paperLine_600 rfl rfl ic_0 ?_
                exact g_zret (q := 0) .boolean X hR (nar_B (Or.inl rfl)) dX4_paperLine_601 rfl ⟨rfl, rfl, _, rfl, (Or.inl rfl), h⟩
              · have h := h.2 c19
                refine g_aload_n (q := 507) 0 X dX4_paperLine_506 rfl rfl rfl ?_
                refine g_ldcS (q := 509) 22 X st_X4_181 (by decide) dX4_paperLine_507 rfl ?_
                refine g_cv (q := 512) [aR (some (1000 + 22))] 4 X (ce_X4_word hK (by decide) h) kV_X4_102 rfl (by decide) rfl (hK.n (by decide)) rfl rfl (Nat.le_of_ble_eq_true rfl) (by decide) dX4_paperLine_509 rfl (fun r n_ iv_ rv_ hf => ?_)
                obtain ⟨en_, er_, r20, rfl, br20, h⟩ := hf; subst n_; subst rv_
                generalize iv_ = iv21 at h ⊢
                refine g_if_eq (q := 515) 600 X dX4_paperLine_512 (by decide) rfl (fun c22 => ?_) (fun c22 => ?_)
                · have h := h.1 c22
                  refine g_iconst (q := 601) 0 X dX4_paperLine_600 rfl rfl ic_0 ?_
                  exact g_zret (q := 0) .boolean X hR (nar_B (Or.inl rfl)) dX4_paperLine_601 rfl ⟨rfl, rfl, _, rfl, (Or.inl rfl), h⟩
                · have h := h.2 c22
                  refine g_aload_n (q := 516) 0 X dX4_paperLine_515 rfl rfl rfl ?_
                  refine g_iconst (q := 517) 1 X dX4_paperLine_516 rfl rfl ic_1 ?_
                  refine g_bipush (q := 519) 99 X dX4_paperLine_517 rfl bc_99 ic_99 ?_
                  refine g_cv (q := 522) [aI 1, aI 99] 4 X (ce_X4_whole hK  h) kV_X4_111 rfl (by decide) rfl (hK.n (by decide)) rfl rfl (Nat.le_of_ble_eq_true rfl) (by decide) dX4_paperLine_519 rfl (fun r n_ iv_ rv_ hf => ?_)
                  obtain ⟨en_, er_, r23, rfl, br23, h⟩ := hf; subst n_; subst rv_
                  generalize iv_ = iv24 at h ⊢
                  refine g_if_eq (q := 525) 600 X dX4_paperLine_522 (by decide) rfl (fun c25 => ?_) (fun c25 => ?_)
                  · have h := h.1 c25
                    refine g_iconst (q := 601) 0 X dX4_paperLine_600 rfl rfl ic_0 ?_
                    exact g_zret (q := 0) .boolean X hR (nar_B (Or.inl rfl)) dX4_paperLine_601 rfl ⟨rfl, rfl, _, rfl, (Or.inl rfl), h⟩
                  · have h := h.2 c25
                    refine g_aload_n (q := 526) 0 X dX4_paperLine_525 rfl rfl rfl ?_
                    refine g_ldcS (q := 528) 15 X st_X4_183 (by decide) dX4_paperLine_526 rfl ?_
                    refine g_cv (q := 531) [aR (some (1000 + 15))] 4 X (ce_X4_word hK (by decide) h) kV_X4_102 rfl (by decide) rfl (hK.n (by decide)) rfl rfl (Nat.le_of_ble_eq_true rfl) (by decide) dX4_paperLine_528 rfl (fun r n_ iv_ rv_ hf => ?_)
                    obtain ⟨en_, er_, r26, rfl, br26, h⟩ := hf; subst n_; subst rv_
                    generalize iv_ = iv27 at h ⊢
                    refine g_if_eq (q := 534) 600 X dX4_paperLine_531 (by decide) rfl (fun c28 => ?_) (fun c28 => ?_)
                    · have h := h.1 c28
                      refine g_iconst (q := 601) 0 X dX4_paperLine_600 rfl rfl ic_0 ?_
                      exact g_zret (q := 0) .boolean X hR (nar_B (Or.inl rfl)) dX4_paperLine_601 rfl ⟨rfl, rfl, _, rfl, (Or.inl rfl), h⟩
                    · have h := h.2 c28
                      refine g_aload_n (q := 535) 0 X dX4_paperLine_534 rfl rfl rfl ?_
                      refine g_iconst (q := 536) 0 X dX4_paperLine_535 rfl rfl ic_0 ?_
                      refine g_iconst (q := 537) 0 X dX4_paperLine_536 rfl rfl ic_0 ?_
                      refine g_cv (q := 540) [aI 0, aI 0] 4 X (ce_X4_use hK  h) kV_X4_106 rfl (by decide) rfl (hK.n (by decide)) rfl rfl (Nat.le_of_ble_eq_true rfl) (by decide) dX4_paperLine_537 rfl (fun r n_ iv_ rv_ hf => ?_)
                      obtain ⟨en_, er_, r29, rfl, br29, h⟩ := hf; subst n_; subst rv_
                      generalize iv_ = iv30 at h ⊢
                      refine g_if_eq (q := 543) 600 X dX4_paperLine_540 (by decide) rfl (fun c31 => ?_) (fun c31 => ?_)
                      · have h := h.1 c31
                        refine g_iconst (q := 601) 0 X dX4_paperLine_600 rfl rfl ic_0 ?_
                        exact g_zret (q := 0) .boolean X hR (nar_B (Or.inl rfl)) dX4_paperLine_601 rfl ⟨rfl, rfl, _, rfl, (Or.inl rfl), h⟩
                      · have h := h.2 c31
                        refine g_aload_n (q := 544) 0 X dX4_paperLine_543 rfl rfl rfl ?_
                        refine g_ldcS (q := 546) 48 X st_X4_117 (by decide) dX4_paperLine_544 rfl ?_
                        refine g_cv (q := 549) [aR (some (1000 + 48))] 4 X (ce_X4_word hK (by decide) h) kV_X4_102 rfl (by decide) rfl (hK.n (by decide)) rfl rfl (Nat.le_of_ble_eq_true rfl) (by decide) dX4_paperLine_546 rfl (fun r n_ iv_ rv_ hf => ?_)
                        obtain ⟨en_, er_, r32, rfl, br32, h⟩ := hf; subst n_; subst rv_
                        generalize iv_ = iv33 at h ⊢
                        refine g_if_eq (q := 552) 600 X dX4_paperLine_549 (by decide) rfl (fun c34 => ?_) (fun c34 => ?_)
                        · have h := h.1 c34
                          refine g_iconst (q := 601) 0 X dX4_paperLine_600 rfl rfl ic_0 ?_
                          exact g_zret (q := 0) .boolean X hR (nar_B (Or.inl rfl)) dX4_paperLine_601 rfl ⟨rfl, rfl, _, rfl, (Or.inl rfl), h⟩
                        · have h := h.2 c34
                          refine g_aload_n (q := 553) 0 X dX4_paperLine_552 rfl rfl rfl ?_
                          refine g_iconst (q := 554) 0 X dX4_paperLine_553 rfl rfl ic_0 ?_
                          refine g_iconst (q := 555) 0 X dX4_paperLine_554 rfl rfl ic_0 ?_
                          refine g_cv (q := 558) [aI 0, aI 0] 4 X (ce_X4_use hK  h) kV_X4_106 rfl (by decide) rfl (hK.n (by decide)) rfl rfl (Nat.le_of_ble_eq_true rfl) (by decide) dX4_paperLine_555 rfl (fun r n_ iv_ rv_ hf => ?_)
                          obtain ⟨en_, er_, r35, rfl, br35, h⟩ := hf; subst n_; subst rv_
                          generalize iv_ = iv36 at h ⊢
                          refine g_if_eq (q := 561) 600 X dX4_paperLine_558 (by decide) rfl (fun c37 => ?_) (fun c37 => ?_)
                          · have h := h.1 c37
                            refine g_iconst (q := 601) 0 X dX4_paperLine_600 rfl rfl ic_0 ?_
                            exact g_zret (q := 0) .boolean X hR (nar_B (Or.inl rfl)) dX4_paperLine_601 rfl ⟨rfl, rfl, _, rfl, (Or.inl rfl), h⟩
                          · have h := h.2 c37
                            refine g_aload_n (q := 562) 0 X dX4_paperLine_561 rfl rfl rfl ?_
                            refine g_cv (q := 565) [] 4 X (ce_X4_differ hK  h) kV_X4_119 rfl (by decide) rfl (hK.n (by decide)) rfl rfl (Nat.le_of_ble_eq_true rfl) (by decide) dX4_paperLine_562 rfl (fun r n_ iv_ rv_ hf => ?_)
                            obtain ⟨en_, er_, r38, rfl, br38, h⟩ := hf; subst n_; subst rv_
                            generalize iv_ = iv39 at h ⊢
                            refine g_if_eq (q := 568) 600 X dX4_paperLine_565 (by decide) rfl (fun c40 => ?_) (fun c40 => ?_)
                            · have h := h.1 c40
                              refine g_iconst (q := 601) 0 X dX4_paperLine_600 rfl rfl ic_0 ?_
                              exact g_zret (q := 0) .boolean X hR (nar_B (Or.inl rfl)) dX4_paperLine_601 rfl ⟨rfl, rfl, _, rfl, (Or.inl rfl), h⟩
                            · have h := h.2 c40
                              refine g_aload_n (q := 569) 0 X dX4_paperLine_568 rfl rfl rfl ?_
                              refine g_ldcS (q := 571) 12 X st_X4_158 (by decide) dX4_paperLine_569 rfl ?_
                              refine g_cv (q := 574) [aR (some (1000 + 12))] 4 X (ce_X4_word hK (by decide) h) kV_X4_102 rfl (by decide) rfl (hK.n (by decide)) rfl rfl (Nat.le_of_ble_eq_true rfl) (by decide) dX4_paperLine_571 rfl (fun r n_ iv_ rv_ hf => ?_)
                              obtain ⟨en_, er_, r41, rfl, br41, h⟩ := hf; subst n_; subst rv_
                              generalize iv_ = iv42 at h ⊢
                              refine g_if_eq (q := 577) 600 X dX4_paperLine_574 (by decide) rfl (fun c43 => ?_) (fun c43 => ?_)
                              · have h := h.1 c43
                                refine g_iconst (q := 601) 0 X dX4_paperLine_600 rfl rfl ic_0 ?_
                                exact g_zret (q := 0) .boolean X hR (nar_B (Or.inl rfl)) dX4_paperLine_601 rfl ⟨rfl, rfl, _, rfl, (Or.inl rfl), h⟩
                              · have h := h.2 c43
                                refine g_aload_n (q := 578) 0 X dX4_paperLine_577 rfl rfl rfl ?_
                                refine g_iconst (q := 579) 0 X dX4_paperLine_578 rfl rfl ic_0 ?_
                                refine g_sipush (q := 582) 999 X dX4_paperLine_579 rfl sc_999 ic_999 ?_
                                refine g_cv (q := 585) [aI 0, aI 999] 4 X (ce_X4_whole hK  h) kV_X4_111 rfl (by decide) rfl (hK.n (by decide)) rfl rfl (Nat.le_of_ble_eq_true rfl) (by decide) dX4_paperLine_582 rfl (fun r n_ iv_ rv_ hf => ?_)
                                obtain ⟨en_, er_, r44, rfl, br44, h⟩ := hf; subst n_; subst rv_
                                generalize iv_ = iv45 at h ⊢
                                refine g_if_eq (q := 588) 600 X dX4_paperLine_585 (by decide) rfl (fun c46 => ?_) (fun c46 => ?_)
                                · have h := h.1 c46
                                  refine g_iconst (q := 601) 0 X dX4_paperLine_600 rfl rfl ic_0 ?_
                                  exact g_zret (q := 0) .boolean X hR (nar_B (Or.inl rfl)) dX4_paperLine_601 rfl ⟨rfl, rfl, _, rfl, (Or.inl rfl), h⟩
                                · have h := h.2 c46
                                  refine g_aload_n (q := 589) 0 X dX4_paperLine_588 rfl rfl rfl ?_
                                  refine g_iload_n (q := 590) 2 X dX4_paperLine_589 rfl rfl rfl ?_
                                  refine g_cv (q := 593) [aI a2] 4 X (ce_X4_keepCart hK  h) kV_X4_185 rfl (by decide) rfl (hK.n (by decide)) rfl rfl (Nat.le_of_ble_eq_true rfl) (by decide) dX4_paperLine_590 rfl (fun r n_ iv_ rv_ hf => ?_)
                                  obtain ⟨en_, er_, r47, rfl, br47, h⟩ := hf; subst n_; subst rv_
                                  generalize iv_ = iv48 at h ⊢
                                  refine g_if_eq (q := 596) 600 X dX4_paperLine_593 (by decide) rfl (fun c49 => ?_) (fun c49 => ?_)
                                  · have h := h.1 c49
                                    refine g_iconst (q := 601) 0 X dX4_paperLine_600 rfl rfl ic_0 ?_
                                    exact g_zret (q := 0) .boolean X hR (nar_B (Or.inl rfl)) dX4_paperLine_601 rfl ⟨rfl, rfl, _, rfl, (Or.inl rfl), h⟩
                                  · have h := h.2 c49
                                    refine g_iconst (q := 597) 1 X dX4_paperLine_596 rfl rfl ic_1 ?_
                                    refine g_goto (q := 601) X dX4_paperLine_597 (by decide) ?_
                                    exact g_zret (q := 0) .boolean X hR (nar_B (Or.inr rfl)) dX4_paperLine_601 rfl ⟨rfl, rfl, _, rfl, (Or.inr rfl), h⟩
  · have h := h.2.1 c1
    refine g_tswIn (q := 40) (off := 39) X dX4_paperLine_1 (by omega) (by omega) (by rw [c1]; rfl) (by decide) ?_
    refine g_aload_n (q := 41) 0 X dX4_paperLine_40 rfl rfl rfl ?_
    refine g_iconst (q := 42) 5 X dX4_paperLine_41 rfl rfl ic_5 ?_
    refine g_iload_n (q := 43) 2 X dX4_paperLine_42 rfl rfl rfl ?_
    refine g_cv (q := 46) [aI 5, aI a2] 4 X (ce_X4_newName hK  h) kV_X4_97 rfl (by decide) rfl (hK.n (by decide)) rfl rfl (Nat.le_of_ble_eq_true rfl) (by decide) dX4_paperLine_43 rfl (fun r n_ iv_ rv_ hf => ?_)
    obtain ⟨en_, er_, r50, rfl, br50, h⟩ := hf; subst n_; subst rv_
    generalize iv_ = iv51 at h ⊢
    refine g_if_eq (q := 49) 130 X dX4_paperLine_46 (by decide) rfl (fun c52 => ?_) (fun c52 => ?_)
    · have h := h.1 c52
      refine g_iconst (q := 131) 0 X dX4_paperLine_130 rfl rfl ic_0 ?_
      exact g_zret (q := 0) .boolean X hR (nar_B (Or.inl rfl)) dX4_paperLine_131 rfl ⟨rfl, rfl, _, rfl, (Or.inl rfl), h⟩
    · have h := h.2 c52
      refine g_aload_n (q := 50) 0 X dX4_paperLine_49 rfl rfl rfl ?_
      refine g_ldcS (q := 52) 3 X st_X4_129 (by decide) dX4_paperLine_50 rfl ?_
      refine g_cv (q := 55) [aR (some (1000 + 3))] 4 X (ce_X4_word hK (by decide) h) kV_X4_102 rfl (by decide) rfl (hK.n (by decide)) rfl rfl (Nat.le_of_ble_eq_true rfl) (by decide) dX4_paperLine_52 rfl (fun r n_ iv_ rv_ hf => ?_)
      obtain ⟨en_, er_, r53, rfl, br53, h⟩ := hf; subst n_; subst rv_
      generalize iv_ = iv54 at h ⊢
      refine g_if_eq (q := 58) 130 X dX4_paperLine_55 (by decide) rfl (fun c55 => ?_) (fun c55 => ?_)
      · have h := h.1 c55
        refine g_iconst (q := 131) 0 X dX4_paperLine_130 rfl rfl ic_0 ?_
        exact g_zret (q := 0) .boolean X hR (nar_B (Or.inl rfl)) dX4_paperLine_131 rfl ⟨rfl, rfl, _, rfl, (Or.inl rfl), h⟩
      · have h := h.2 c55
        refine g_aload_n (q := 59) 0 X dX4_paperLine_58 rfl rfl rfl ?_
        refine g_iconst (q := 60) 4 X dX4_paperLine_59 rfl rfl ic_4 ?_
        refine g_iconst (q := 61) 4 X dX4_paperLine_60 rfl rfl ic_4 ?_
        refine g_cv (q := 64) [aI 4, aI 4] 4 X (ce_X4_use hK  h) kV_X4_106 rfl (by decide) rfl (hK.n (by decide)) rfl rfl (Nat.le_of_ble_eq_true rfl) (by decide) dX4_paperLine_61 rfl (fun r n_ iv_ rv_ hf => ?_)
        obtain ⟨en_, er_, r56, rfl, br56, h⟩ := hf; subst n_; subst rv_
        generalize iv_ = iv57 at h ⊢
        refine g_if_eq (q := 67) 130 X dX4_paperLine_64 (by decide) rfl (fun c58 => ?_) (fun c58 => ?_)
        · have h := h.1 c58
          refine g_iconst (q := 131) 0 X dX4_paperLine_130 rfl rfl ic_0 ?_
          exact g_zret (q := 0) .boolean X hR (nar_B (Or.inl rfl)) dX4_paperLine_131 rfl ⟨rfl, rfl, _, rfl, (Or.inl rfl), h⟩
        · have h := h.2 c58
          refine g_aload_n (q := 68) 0 X dX4_paperLine_67 rfl rfl rfl ?_
          refine g_ldcS (q := 70) 33 X st_X4_131 (by decide) dX4_paperLine_68 rfl ?_
          refine g_cv (q := 73) [aR (some (1000 + 33))] 4 X (ce_X4_word hK (by decide) h) kV_X4_102 rfl (by decide) rfl (hK.n (by decide)) rfl rfl (Nat.le_of_ble_eq_true rfl) (by decide) dX4_paperLine_70 rfl (fun r n_ iv_ rv_ hf => ?_)
          obtain ⟨en_, er_, r59, rfl, br59, h⟩ := hf; subst n_; subst rv_
          generalize iv_ = iv60 at h ⊢
          refine g_if_eq (q := 76) 130 X dX4_paperLine_73 (by decide) rfl (fun c61 => ?_) (fun c61 => ?_)
          · have h := h.1 c61
            refine g_iconst (q := 131) 0 X dX4_paperLine_130 rfl rfl ic_0 ?_
            exact g_zret (q := 0) .boolean X hR (nar_B (Or.inl rfl)) dX4_paperLine_131 rfl ⟨rfl, rfl, _, rfl, (Or.inl rfl), h⟩
          · have h := h.2 c61
            refine g_aload_n (q := 77) 0 X dX4_paperLine_76 rfl rfl rfl ?_
            refine g_cv (q := 80) [] 4 X (ce_X4_all hK  h) kV_X4_133 rfl (by decide) rfl (hK.n (by decide)) rfl rfl (Nat.le_of_ble_eq_true rfl) (by decide) dX4_paperLine_77 rfl (fun r n_ iv_ rv_ hf => ?_)
            obtain ⟨en_, er_, r62, rfl, br62, h⟩ := hf; subst n_; subst rv_
            generalize iv_ = iv63 at h ⊢
            refine g_if_ne (q := 83) 92 X dX4_paperLine_80 (by decide) rfl (fun c64 => ?_) (fun c64 => ?_)
            · have h := h.1 c64
              refine g_sub (L' := [aR (some 40), aJ, aI a2]) ⟨Or.inr rfl, Or.inl rfl, Or.inr rfl, trivial⟩ ?_
              exact cb_X4_paperLine_92 X hR hK   h
            · have h := h.2 c64
              refine g_aload_n (q := 84) 0 X dX4_paperLine_83 rfl rfl rfl ?_
              refine g_iconst (q := 85) 1 X dX4_paperLine_84 rfl rfl ic_1 ?_
              refine g_iconst (q := 86) 1 X dX4_paperLine_85 rfl rfl ic_1 ?_
              refine g_cv (q := 89) [aI 1, aI 1] 4 X (ce_X4_use hK  h) kV_X4_106 rfl (by decide) rfl (hK.n (by decide)) rfl rfl (Nat.le_of_ble_eq_true rfl) (by decide) dX4_paperLine_86 rfl (fun r n_ iv_ rv_ hf => ?_)
              obtain ⟨en_, er_, r65, rfl, br65, h⟩ := hf; subst n_; subst rv_
              generalize iv_ = iv66 at h ⊢
              refine g_if_eq (q := 92) 130 X dX4_paperLine_89 (by decide) rfl (fun c67 => ?_) (fun c67 => ?_)
              · have h := h.1 c67
                refine g_iconst (q := 131) 0 X dX4_paperLine_130 rfl rfl ic_0 ?_
                exact g_zret (q := 0) .boolean X hR (nar_B (Or.inl rfl)) dX4_paperLine_131 rfl ⟨rfl, rfl, _, rfl, (Or.inl rfl), h⟩
              · have h := h.2 c67
                refine g_sub (L' := [aR (some 40), aJ, aI a2]) ⟨Or.inr rfl, Or.inl rfl, Or.inr rfl, trivial⟩ ?_
                exact cb_X4_paperLine_92 X hR hK   h
  · have h := h.2.2.1 c1
    refine g_tswIn (q := 132) (off := 131) X dX4_paperLine_1 (by omega) (by omega) (by rw [c1]; rfl) (by decide) ?_
    refine g_aload_n (q := 133) 0 X dX4_paperLine_132 rfl rfl rfl ?_
    refine g_bipush (q := 135) 6 X dX4_paperLine_133 rfl bc_6 ic_6 ?_
    refine g_bipush (q := 137) 6 X dX4_paperLine_135 rfl bc_6 ic_6 ?_
    refine g_iload_n (q := 138) 2 X dX4_paperLine_137 rfl rfl rfl ?_
    refine g_iadd (q := 139) X dX4_paperLine_138 rfl ?_
    refine g_cv (q := 142) [aI 6, aI (w32 (6 + a2))] 4 X (ce_X4_newName hK  h) kV_X4_97 rfl (by decide) rfl (hK.n (by decide)) rfl rfl (Nat.le_of_ble_eq_true rfl) (by decide) dX4_paperLine_139 rfl (fun r n_ iv_ rv_ hf => ?_)
    obtain ⟨en_, er_, r68, rfl, br68, h⟩ := hf; subst n_; subst rv_
    generalize iv_ = iv69 at h ⊢
    refine g_if_eq (q := 145) 219 X dX4_paperLine_142 (by decide) rfl (fun c70 => ?_) (fun c70 => ?_)
    · have h := h.1 c70
      refine g_iconst (q := 220) 0 X dX4_paperLine_219 rfl rfl ic_0 ?_
      exact g_zret (q := 0) .boolean X hR (nar_B (Or.inl rfl)) dX4_paperLine_220 rfl ⟨rfl, rfl, _, rfl, (Or.inl rfl), h⟩
    · have h := h.2 c70
      refine g_aload_n (q := 146) 0 X dX4_paperLine_145 rfl rfl rfl ?_
      refine g_ldcS (q := 148) 13 X st_X4_144 (by decide) dX4_paperLine_146 rfl ?_
      refine g_cv (q := 151) [aR (some (1000 + 13))] 4 X (ce_X4_word hK (by decide) h) kV_X4_102 rfl (by decide) rfl (hK.n (by decide)) rfl rfl (Nat.le_of_ble_eq_true rfl) (by decide) dX4_paperLine_148 rfl (fun r n_ iv_ rv_ hf => ?_)
      obtain ⟨en_, er_, r71, rfl, br71, h⟩ := hf; subst n_; subst rv_
      generalize iv_ = iv72 at h ⊢
      refine g_if_eq (q := 154) 219 X dX4_paperLine_151 (by decide) rfl (fun c73 => ?_) (fun c73 => ?_)
      · have h := h.1 c73
        refine g_iconst (q := 220) 0 X dX4_paperLine_219 rfl rfl ic_0 ?_
        exact g_zret (q := 0) .boolean X hR (nar_B (Or.inl rfl)) dX4_paperLine_220 rfl ⟨rfl, rfl, _, rfl, (Or.inl rfl), h⟩
      · have h := h.2 c73
        refine g_aload_n (q := 155) 0 X dX4_paperLine_154 rfl rfl rfl ?_
        refine g_iconst (q := 156) 0 X dX4_paperLine_155 rfl rfl ic_0 ?_
        refine g_iconst (q := 157) 0 X dX4_paperLine_156 rfl rfl ic_0 ?_
        refine g_cv (q := 160) [aI 0, aI 0] 4 X (ce_X4_use hK  h) kV_X4_106 rfl (by decide) rfl (hK.n (by decide)) rfl rfl (Nat.le_of_ble_eq_true rfl) (by decide) dX4_paperLine_157 rfl (fun r n_ iv_ rv_ hf => ?_)
        obtain ⟨en_, er_, r74, rfl, br74, h⟩ := hf; subst n_; subst rv_
        generalize iv_ = iv75 at h ⊢
        refine g_if_eq (q := 163) 219 X dX4_paperLine_160 (by decide) rfl (fun c76 => ?_) (fun c76 => ?_)
        · have h := h.1 c76
          refine g_iconst (q := 220) 0 X dX4_paperLine_219 rfl rfl ic_0 ?_
          exact g_zret (q := 0) .boolean X hR (nar_B (Or.inl rfl)) dX4_paperLine_220 rfl ⟨rfl, rfl, _, rfl, (Or.inl rfl), h⟩
        · have h := h.2 c76
          refine g_aload_n (q := 164) 0 X dX4_paperLine_163 rfl rfl rfl ?_
          refine g_ldcS (q := 166) 33 X st_X4_131 (by decide) dX4_paperLine_164 rfl ?_
          refine g_cv (q := 169) [aR (some (1000 + 33))] 4 X (ce_X4_word hK (by decide) h) kV_X4_102 rfl (by decide) rfl (hK.n (by decide)) rfl rfl (Nat.le_of_ble_eq_true rfl) (by decide) dX4_paperLine_166 rfl (fun r n_ iv_ rv_ hf => ?_)
          obtain ⟨en_, er_, r77, rfl, br77, h⟩ := hf; subst n_; subst rv_
          generalize iv_ = iv78 at h ⊢
          refine g_if_eq (q := 172) 219 X dX4_paperLine_169 (by decide) rfl (fun c79 => ?_) (fun c79 => ?_)
          · have h := h.1 c79
            refine g_iconst (q := 220) 0 X dX4_paperLine_219 rfl rfl ic_0 ?_
            exact g_zret (q := 0) .boolean X hR (nar_B (Or.inl rfl)) dX4_paperLine_220 rfl ⟨rfl, rfl, _, rfl, (Or.inl rfl), h⟩
          · have h := h.2 c79
            refine g_aload_n (q := 173) 0 X dX4_paperLine_172 rfl rfl rfl ?_
            refine g_cv (q := 176) [] 4 X (ce_X4_all hK  h) kV_X4_133 rfl (by decide) rfl (hK.n (by decide)) rfl rfl (Nat.le_of_ble_eq_true rfl) (by decide) dX4_paperLine_173 rfl (fun r n_ iv_ rv_ hf => ?_)
            obtain ⟨en_, er_, r80, rfl, br80, h⟩ := hf; subst n_; subst rv_
            generalize iv_ = iv81 at h ⊢
            refine g_if_ne (q := 179) 188 X dX4_paperLine_176 (by decide) rfl (fun c82 => ?_) (fun c82 => ?_)
            · have h := h.1 c82
              refine g_sub (L' := [aR (some 40), aJ, aI a2]) ⟨Or.inr rfl, Or.inl rfl, Or.inr rfl, trivial⟩ ?_
              exact cb_X4_paperLine_188 X hR hK   h
            · have h := h.2 c82
              refine g_aload_n (q := 180) 0 X dX4_paperLine_179 rfl rfl rfl ?_
              refine g_iconst (q := 181) 1 X dX4_paperLine_180 rfl rfl ic_1 ?_
              refine g_iconst (q := 182) 1 X dX4_paperLine_181 rfl rfl ic_1 ?_
              refine g_cv (q := 185) [aI 1, aI 1] 4 X (ce_X4_use hK  h) kV_X4_106 rfl (by decide) rfl (hK.n (by decide)) rfl rfl (Nat.le_of_ble_eq_true rfl) (by decide) dX4_paperLine_182 rfl (fun r n_ iv_ rv_ hf => ?_)
              obtain ⟨en_, er_, r83, rfl, br83, h⟩ := hf; subst n_; subst rv_
              generalize iv_ = iv84 at h ⊢
              refine g_if_eq (q := 188) 219 X dX4_paperLine_185 (by decide) rfl (fun c85 => ?_) (fun c85 => ?_)
              · have h := h.1 c85
                refine g_iconst (q := 220) 0 X dX4_paperLine_219 rfl rfl ic_0 ?_
                exact g_zret (q := 0) .boolean X hR (nar_B (Or.inl rfl)) dX4_paperLine_220 rfl ⟨rfl, rfl, _, rfl, (Or.inl rfl), h⟩
              · have h := h.2 c85
                refine g_sub (L' := [aR (some 40), aJ, aI a2]) ⟨Or.inr rfl, Or.inl rfl, Or.inr rfl, trivial⟩ ?_
                exact cb_X4_paperLine_188 X hR hK   h
  · have h := h.2.2.2.1 c1
    refine g_tswIn (q := 221) (off := 220) X dX4_paperLine_1 (by omega) (by omega) (by rw [c1]; rfl) (by decide) ?_
    refine g_aload_n (q := 222) 0 X dX4_paperLine_221 rfl rfl rfl ?_
    refine g_bipush (q := 224) 7 X dX4_paperLine_222 rfl bc_7 ic_7 ?_
    refine g_bipush (q := 226) 12 X dX4_paperLine_224 rfl bc_12 ic_12 ?_
    refine g_iload_n (q := 227) 2 X dX4_paperLine_226 rfl rfl rfl ?_
    refine g_iadd (q := 228) X dX4_paperLine_227 rfl ?_
    refine g_cv (q := 231) [aI 7, aI (w32 (12 + a2))] 4 X (ce_X4_newName hK  h) kV_X4_97 rfl (by decide) rfl (hK.n (by decide)) rfl rfl (Nat.le_of_ble_eq_true rfl) (by decide) dX4_paperLine_228 rfl (fun r n_ iv_ rv_ hf => ?_)
    obtain ⟨en_, er_, r86, rfl, br86, h⟩ := hf; subst n_; subst rv_
    generalize iv_ = iv87 at h ⊢
    refine g_if_eq (q := 234) 307 X dX4_paperLine_231 (by decide) rfl (fun c88 => ?_) (fun c88 => ?_)
    · have h := h.1 c88
      refine g_iconst (q := 308) 0 X dX4_paperLine_307 rfl rfl ic_0 ?_
      exact g_zret (q := 0) .boolean X hR (nar_B (Or.inl rfl)) dX4_paperLine_308 rfl ⟨rfl, rfl, _, rfl, (Or.inl rfl), h⟩
    · have h := h.2 c88
      refine g_aload_n (q := 235) 0 X dX4_paperLine_234 rfl rfl rfl ?_
      refine g_ldcS (q := 237) 13 X st_X4_144 (by decide) dX4_paperLine_235 rfl ?_
      refine g_cv (q := 240) [aR (some (1000 + 13))] 4 X (ce_X4_word hK (by decide) h) kV_X4_102 rfl (by decide) rfl (hK.n (by decide)) rfl rfl (Nat.le_of_ble_eq_true rfl) (by decide) dX4_paperLine_237 rfl (fun r n_ iv_ rv_ hf => ?_)
      obtain ⟨en_, er_, r89, rfl, br89, h⟩ := hf; subst n_; subst rv_
      generalize iv_ = iv90 at h ⊢
      refine g_if_eq (q := 243) 307 X dX4_paperLine_240 (by decide) rfl (fun c91 => ?_) (fun c91 => ?_)
      · have h := h.1 c91
        refine g_iconst (q := 308) 0 X dX4_paperLine_307 rfl rfl ic_0 ?_
        exact g_zret (q := 0) .boolean X hR (nar_B (Or.inl rfl)) dX4_paperLine_308 rfl ⟨rfl, rfl, _, rfl, (Or.inl rfl), h⟩
      · have h := h.2 c91
        refine g_aload_n (q := 244) 0 X dX4_paperLine_243 rfl rfl rfl ?_
        refine g_iconst (q := 245) 0 X dX4_paperLine_244 rfl rfl ic_0 ?_
        refine g_iconst (q := 246) 0 X dX4_paperLine_245 rfl rfl ic_0 ?_
        refine g_cv (q := 249) [aI 0, aI 0] 4 X (ce_X4_use hK  h) kV_X4_106 rfl (by decide) rfl (hK.n (by decide)) rfl rfl (Nat.le_of_ble_eq_true rfl) (by decide) dX4_paperLine_246 rfl (fun r n_ iv_ rv_ hf => ?_)
        obtain ⟨en_, er_, r92, rfl, br92, h⟩ := hf; subst n_; subst rv_
        generalize iv_ = iv93 at h ⊢
        refine g_if_eq (q := 252) 307 X dX4_paperLine_249 (by decide) rfl (fun c94 => ?_) (fun c94 => ?_)
        · have h := h.1 c94
          refine g_iconst (q := 308) 0 X dX4_paperLine_307 rfl rfl ic_0 ?_
          exact g_zret (q := 0) .boolean X hR (nar_B (Or.inl rfl)) dX4_paperLine_308 rfl ⟨rfl, rfl, _, rfl, (Or.inl rfl), h⟩
        · have h := h.2 c94
          refine g_aload_n (q := 253) 0 X dX4_paperLine_252 rfl rfl rfl ?_
          refine g_ldcS (q := 255) 21 X st_X4_151 (by decide) dX4_paperLine_253 rfl ?_
          refine g_cv (q := 258) [aR (some (1000 + 21))] 4 X (ce_X4_word hK (by decide) h) kV_X4_102 rfl (by decide) rfl (hK.n (by decide)) rfl rfl (Nat.le_of_ble_eq_true rfl) (by decide) dX4_paperLine_255 rfl (fun r n_ iv_ rv_ hf => ?_)
          obtain ⟨en_, er_, r95, rfl, br95, h⟩ := hf; subst n_; subst rv_
          generalize iv_ = iv96 at h ⊢
          refine g_if_eq (q := 261) 307 X dX4_paperLine_258 (by decide) rfl (fun c97 => ?_) (fun c97 => ?_)
          · have h := h.1 c97
            refine g_iconst (q := 308) 0 X dX4_paperLine_307 rfl rfl ic_0 ?_
            exact g_zret (q := 0) .boolean X hR (nar_B (Or.inl rfl)) dX4_paperLine_308 rfl ⟨rfl, rfl, _, rfl, (Or.inl rfl), h⟩
          · have h := h.2 c97
            refine g_aload_n (q := 262) 0 X dX4_paperLine_261 rfl rfl rfl ?_
            refine g_iconst (q := 263) 0 X dX4_paperLine_262 rfl rfl ic_0 ?_
            refine g_iconst (q := 264) 0 X dX4_paperLine_263 rfl rfl ic_0 ?_
            refine g_cv (q := 267) [aI 0, aI 0] 4 X (ce_X4_use hK  h) kV_X4_106 rfl (by decide) rfl (hK.n (by decide)) rfl rfl (Nat.le_of_ble_eq_true rfl) (by decide) dX4_paperLine_264 rfl (fun r n_ iv_ rv_ hf => ?_)
            obtain ⟨en_, er_, r98, rfl, br98, h⟩ := hf; subst n_; subst rv_
            generalize iv_ = iv99 at h ⊢
            refine g_if_eq (q := 270) 307 X dX4_paperLine_267 (by decide) rfl (fun c100 => ?_) (fun c100 => ?_)
            · have h := h.1 c100
              refine g_iconst (q := 308) 0 X dX4_paperLine_307 rfl rfl ic_0 ?_
              exact g_zret (q := 0) .boolean X hR (nar_B (Or.inl rfl)) dX4_paperLine_308 rfl ⟨rfl, rfl, _, rfl, (Or.inl rfl), h⟩
            · have h := h.2 c100
              refine g_aload_n (q := 271) 0 X dX4_paperLine_270 rfl rfl rfl ?_
              refine g_cv (q := 274) [] 4 X (ce_X4_differ hK  h) kV_X4_119 rfl (by decide) rfl (hK.n (by decide)) rfl rfl (Nat.le_of_ble_eq_true rfl) (by decide) dX4_paperLine_271 rfl (fun r n_ iv_ rv_ hf => ?_)
              obtain ⟨en_, er_, r101, rfl, br101, h⟩ := hf; subst n_; subst rv_
              generalize iv_ = iv102 at h ⊢
              refine g_if_eq (q := 277) 307 X dX4_paperLine_274 (by decide) rfl (fun c103 => ?_) (fun c103 => ?_)
              · have h := h.1 c103
                refine g_iconst (q := 308) 0 X dX4_paperLine_307 rfl rfl ic_0 ?_
                exact g_zret (q := 0) .boolean X hR (nar_B (Or.inl rfl)) dX4_paperLine_308 rfl ⟨rfl, rfl, _, rfl, (Or.inl rfl), h⟩
              · have h := h.2 c103
                refine g_aload_n (q := 278) 0 X dX4_paperLine_277 rfl rfl rfl ?_
                refine g_iconst (q := 279) 0 X dX4_paperLine_278 rfl rfl ic_0 ?_
                refine g_cv (q := 282) [aI 0] 4 X (ce_X4_tell hK  h) kV_X4_153 rfl (by decide) rfl (hK.n (by decide)) rfl rfl (Nat.le_of_ble_eq_true rfl) (by decide) dX4_paperLine_279 rfl (fun r n_ iv_ rv_ hf => ?_)
                obtain ⟨en_, er_, r104, rfl, br104, h⟩ := hf; subst n_; subst rv_
                generalize iv_ = iv105 at h ⊢
                refine g_if_eq (q := 285) 307 X dX4_paperLine_282 (by decide) rfl (fun c106 => ?_) (fun c106 => ?_)
                · have h := h.1 c106
                  refine g_iconst (q := 308) 0 X dX4_paperLine_307 rfl rfl ic_0 ?_
                  exact g_zret (q := 0) .boolean X hR (nar_B (Or.inl rfl)) dX4_paperLine_308 rfl ⟨rfl, rfl, _, rfl, (Or.inl rfl), h⟩
                · have h := h.2 c106
                  refine g_aload_n (q := 286) 0 X dX4_paperLine_285 rfl rfl rfl ?_
                  refine g_cv (q := 289) [] 4 X (ce_X4_span hK  h) kV_X4_138 rfl (by decide) rfl (hK.n (by decide)) rfl rfl (Nat.le_of_ble_eq_true rfl) (by decide) dX4_paperLine_286 rfl (fun r n_ iv_ rv_ hf => ?_)
                  obtain ⟨en_, er_, r107, rfl, br107, h⟩ := hf; subst n_; subst rv_
                  generalize iv_ = iv108 at h ⊢
                  refine g_if_eq (q := 292) 307 X dX4_paperLine_289 (by decide) rfl (fun c109 => ?_) (fun c109 => ?_)
                  · have h := h.1 c109
                    refine g_iconst (q := 308) 0 X dX4_paperLine_307 rfl rfl ic_0 ?_
                    exact g_zret (q := 0) .boolean X hR (nar_B (Or.inl rfl)) dX4_paperLine_308 rfl ⟨rfl, rfl, _, rfl, (Or.inl rfl), h⟩
                  · have h := h.2 c109
                    refine g_aload_n (q := 293) 0 X dX4_paperLine_292 rfl rfl rfl ?_
                    refine g_bipush (q := 295) 12 X dX4_paperLine_293 rfl bc_12 ic_12 ?_
                    refine g_iload_n (q := 296) 2 X dX4_paperLine_295 rfl rfl rfl ?_
                    refine g_iadd (q := 297) X dX4_paperLine_296 rfl ?_
                    refine g_cv (q := 300) [aI (w32 (12 + a2))] 4 X (ce_X4_keepGrant hK  h) kV_X4_141 rfl (by decide) rfl (hK.n (by decide)) rfl rfl (Nat.le_of_ble_eq_true rfl) (by decide) dX4_paperLine_297 rfl (fun r n_ iv_ rv_ hf => ?_)
                    obtain ⟨en_, er_, r110, rfl, br110, h⟩ := hf; subst n_; subst rv_
                    generalize iv_ = iv111 at h ⊢
                    refine g_if_eq (q := 303) 307 X dX4_paperLine_300 (by decide) rfl (fun c112 => ?_) (fun c112 => ?_)
                    · have h := h.1 c112
                      refine g_iconst (q := 308) 0 X dX4_paperLine_307 rfl rfl ic_0 ?_
                      exact g_zret (q := 0) .boolean X hR (nar_B (Or.inl rfl)) dX4_paperLine_308 rfl ⟨rfl, rfl, _, rfl, (Or.inl rfl), h⟩
                    · have h := h.2 c112
                      refine g_iconst (q := 304) 1 X dX4_paperLine_303 rfl rfl ic_1 ?_
                      refine g_goto (q := 308) X dX4_paperLine_304 (by decide) ?_
                      exact g_zret (q := 0) .boolean X hR (nar_B (Or.inr rfl)) dX4_paperLine_308 rfl ⟨rfl, rfl, _, rfl, (Or.inr rfl), h⟩
  · have h := h.2.2.2.2.1 c1
    refine g_tswIn (q := 309) (off := 308) X dX4_paperLine_1 (by omega) (by omega) (by rw [c1]; rfl) (by decide) ?_
    refine g_aload_n (q := 310) 0 X dX4_paperLine_309 rfl rfl rfl ?_
    refine g_iconst (q := 311) 5 X dX4_paperLine_310 rfl rfl ic_5 ?_
    refine g_bipush (q := 313) 6 X dX4_paperLine_311 rfl bc_6 ic_6 ?_
    refine g_cv (q := 316) [aI 5, aI 6] 4 X (ce_X4_use hK  h) kV_X4_106 rfl (by decide) rfl (hK.n (by decide)) rfl rfl (Nat.le_of_ble_eq_true rfl) (by decide) dX4_paperLine_313 rfl (fun r n_ iv_ rv_ hf => ?_)
    obtain ⟨en_, er_, r113, rfl, br113, h⟩ := hf; subst n_; subst rv_
    generalize iv_ = iv114 at h ⊢
    refine g_if_eq (q := 319) 360 X dX4_paperLine_316 (by decide) rfl (fun c115 => ?_) (fun c115 => ?_)
    · have h := h.1 c115
      refine g_iconst (q := 361) 0 X dX4_paperLine_360 rfl rfl ic_0 ?_
      exact g_zret (q := 0) .boolean X hR (nar_B (Or.inl rfl)) dX4_paperLine_361 rfl ⟨rfl, rfl, _, rfl, (Or.inl rfl), h⟩
    · have h := h.2 c115
      refine g_aload_n (q := 320) 0 X dX4_paperLine_319 rfl rfl rfl ?_
      refine g_ldcS (q := 322) 45 X st_X4_156 (by decide) dX4_paperLine_320 rfl ?_
      refine g_cv (q := 325) [aR (some (1000 + 45))] 4 X (ce_X4_choice hK (by decide) h) kV_X4_148 rfl (by decide) rfl (hK.n (by decide)) rfl rfl (Nat.le_of_ble_eq_true rfl) (by decide) dX4_paperLine_322 rfl (fun r n_ iv_ rv_ hf => ?_)
      obtain ⟨en_, er_, r116, rfl, br116, h⟩ := hf; subst n_; subst rv_
      generalize iv_ = iv117 at h ⊢
      refine g_if_eq (q := 328) 360 X dX4_paperLine_325 (by decide) rfl (fun c118 => ?_) (fun c118 => ?_)
      · have h := h.1 c118
        refine g_iconst (q := 361) 0 X dX4_paperLine_360 rfl rfl ic_0 ?_
        exact g_zret (q := 0) .boolean X hR (nar_B (Or.inl rfl)) dX4_paperLine_361 rfl ⟨rfl, rfl, _, rfl, (Or.inl rfl), h⟩
      · have h := h.2 c118
        refine g_aload_n (q := 329) 0 X dX4_paperLine_328 rfl rfl rfl ?_
        refine g_ldcS (q := 331) 12 X st_X4_158 (by decide) dX4_paperLine_329 rfl ?_
        refine g_cv (q := 334) [aR (some (1000 + 12))] 4 X (ce_X4_word hK (by decide) h) kV_X4_102 rfl (by decide) rfl (hK.n (by decide)) rfl rfl (Nat.le_of_ble_eq_true rfl) (by decide) dX4_paperLine_331 rfl (fun r n_ iv_ rv_ hf => ?_)
        obtain ⟨en_, er_, r119, rfl, br119, h⟩ := hf; subst n_; subst rv_
        generalize iv_ = iv120 at h ⊢
        refine g_if_eq (q := 337) 360 X dX4_paperLine_334 (by decide) rfl (fun c121 => ?_) (fun c121 => ?_)
        · have h := h.1 c121
          refine g_iconst (q := 361) 0 X dX4_paperLine_360 rfl rfl ic_0 ?_
          exact g_zret (q := 0) .boolean X hR (nar_B (Or.inl rfl)) dX4_paperLine_361 rfl ⟨rfl, rfl, _, rfl, (Or.inl rfl), h⟩
        · have h := h.2 c121
          refine g_aload_n (q := 338) 0 X dX4_paperLine_337 rfl rfl rfl ?_
          refine g_iconst (q := 339) 0 X dX4_paperLine_338 rfl rfl ic_0 ?_
          refine g_sipush (q := 342) 999 X dX4_paperLine_339 rfl sc_999 ic_999 ?_
          refine g_cv (q := 345) [aI 0, aI 999] 4 X (ce_X4_whole hK  h) kV_X4_111 rfl (by decide) rfl (hK.n (by decide)) rfl rfl (Nat.le_of_ble_eq_true rfl) (by decide) dX4_paperLine_342 rfl (fun r n_ iv_ rv_ hf => ?_)
          obtain ⟨en_, er_, r122, rfl, br122, h⟩ := hf; subst n_; subst rv_
          generalize iv_ = iv123 at h ⊢
          refine g_if_eq (q := 348) 360 X dX4_paperLine_345 (by decide) rfl (fun c124 => ?_) (fun c124 => ?_)
          · have h := h.1 c124
            refine g_iconst (q := 361) 0 X dX4_paperLine_360 rfl rfl ic_0 ?_
            exact g_zret (q := 0) .boolean X hR (nar_B (Or.inl rfl)) dX4_paperLine_361 rfl ⟨rfl, rfl, _, rfl, (Or.inl rfl), h⟩
          · have h := h.2 c124
            refine g_aload_n (q := 349) 0 X dX4_paperLine_348 rfl rfl rfl ?_
            refine g_iload_n (q := 350) 2 X dX4_paperLine_349 rfl rfl rfl ?_
            refine g_cv (q := 353) [aI a2] 4 X (ce_X4_keepRenewal hK  h) kV_X4_160 rfl (by decide) rfl (hK.n (by decide)) rfl rfl (Nat.le_of_ble_eq_true rfl) (by decide) dX4_paperLine_350 rfl (fun r n_ iv_ rv_ hf => ?_)
            obtain ⟨en_, er_, r125, rfl, br125, h⟩ := hf; subst n_; subst rv_
            generalize iv_ = iv126 at h ⊢
            refine g_if_eq (q := 356) 360 X dX4_paperLine_353 (by decide) rfl (fun c127 => ?_) (fun c127 => ?_)
            · have h := h.1 c127
              refine g_iconst (q := 361) 0 X dX4_paperLine_360 rfl rfl ic_0 ?_
              exact g_zret (q := 0) .boolean X hR (nar_B (Or.inl rfl)) dX4_paperLine_361 rfl ⟨rfl, rfl, _, rfl, (Or.inl rfl), h⟩
            · have h := h.2 c127
              refine g_iconst (q := 357) 1 X dX4_paperLine_356 rfl rfl ic_1 ?_
              refine g_goto (q := 361) X dX4_paperLine_357 (by decide) ?_
              exact g_zret (q := 0) .boolean X hR (nar_B (Or.inr rfl)) dX4_paperLine_361 rfl ⟨rfl, rfl, _, rfl, (Or.inr rfl), h⟩
  · have h := h.2.2.2.2.2.1 c1
    refine g_tswIn (q := 362) (off := 361) X dX4_paperLine_1 (by omega) (by omega) (by rw [c1]; rfl) (by decide) ?_
    refine g_aload_n (q := 363) 0 X dX4_paperLine_362 rfl rfl rfl ?_
    refine g_iconst (q := 364) 5 X dX4_paperLine_363 rfl rfl ic_5 ?_
    refine g_bipush (q := 366) 7 X dX4_paperLine_364 rfl bc_7 ic_7 ?_
    refine g_cv (q := 369) [aI 5, aI 7] 4 X (ce_X4_use hK  h) kV_X4_106 rfl (by decide) rfl (hK.n (by decide)) rfl rfl (Nat.le_of_ble_eq_true rfl) (by decide) dX4_paperLine_366 rfl (fun r n_ iv_ rv_ hf => ?_)
    obtain ⟨en_, er_, r128, rfl, br128, h⟩ := hf; subst n_; subst rv_
    generalize iv_ = iv129 at h ⊢
    refine g_if_eq (q := 372) 389 X dX4_paperLine_369 (by decide) rfl (fun c130 => ?_) (fun c130 => ?_)
    · have h := h.1 c130
      refine g_iconst (q := 390) 0 X dX4_paperLine_389 rfl rfl ic_0 ?_
      exact g_zret (q := 0) .boolean X hR (nar_B (Or.inl rfl)) dX4_paperLine_390 rfl ⟨rfl, rfl, _, rfl, (Or.inl rfl), h⟩
    · have h := h.2 c130
      refine g_aload_n (q := 373) 0 X dX4_paperLine_372 rfl rfl rfl ?_
      refine g_aload_n (q := 374) 0 X dX4_paperLine_373 rfl rfl rfl ?_
      refine g_getR (q := 377) (r := some 45) 4 2 X (lk_40_2 hK) (lt2000 (c := 0) (by decide)) kf_X4_18 (by decide) (by decide) rfl rfl (hK.n (by decide)) dX4_paperLine_374 rfl ?_
      refine g_iconst (q := 378) 0 X dX4_paperLine_377 rfl rfl ic_0 ?_
      refine g_iald (q := 379) X rfl (hK.n (by decide)) (by decide) dX4_paperLine_378 rfl ?_
      refine g_cv (q := 382) [aI (iv129 45 0)] 4 X (ce_X4_keepLoss hK  h) kV_X4_163 rfl (by decide) rfl (hK.n (by decide)) rfl rfl (Nat.le_of_ble_eq_true rfl) (by decide) dX4_paperLine_379 rfl (fun r n_ iv_ rv_ hf => ?_)
      obtain ⟨en_, er_, r131, rfl, br131, h⟩ := hf; subst n_; subst rv_
      generalize iv_ = iv132 at h ⊢
      refine g_if_eq (q := 385) 389 X dX4_paperLine_382 (by decide) rfl (fun c133 => ?_) (fun c133 => ?_)
      · have h := h.1 c133
        refine g_iconst (q := 390) 0 X dX4_paperLine_389 rfl rfl ic_0 ?_
        exact g_zret (q := 0) .boolean X hR (nar_B (Or.inl rfl)) dX4_paperLine_390 rfl ⟨rfl, rfl, _, rfl, (Or.inl rfl), h⟩
      · have h := h.2 c133
        refine g_iconst (q := 386) 1 X dX4_paperLine_385 rfl rfl ic_1 ?_
        refine g_goto (q := 390) X dX4_paperLine_386 (by decide) ?_
        exact g_zret (q := 0) .boolean X hR (nar_B (Or.inr rfl)) dX4_paperLine_390 rfl ⟨rfl, rfl, _, rfl, (Or.inr rfl), h⟩
  · have h := h.2.2.2.2.2.2 c1
    refine g_tswIn (q := 391) (off := 390) X dX4_paperLine_1 (by omega) (by omega) (by rw [c1]; rfl) (by decide) ?_
    refine g_aload_n (q := 392) 0 X dX4_paperLine_391 rfl rfl rfl ?_
    refine g_bipush (q := 394) 10 X dX4_paperLine_392 rfl bc_10 ic_10 ?_
    refine g_iload_n (q := 395) 2 X dX4_paperLine_394 rfl rfl rfl ?_
    refine g_cv (q := 398) [aI 10, aI a2] 4 X (ce_X4_newName hK  h) kV_X4_97 rfl (by decide) rfl (hK.n (by decide)) rfl rfl (Nat.le_of_ble_eq_true rfl) (by decide) dX4_paperLine_395 rfl (fun r n_ iv_ rv_ hf => ?_)
    obtain ⟨en_, er_, r134, rfl, br134, h⟩ := hf; subst n_; subst rv_
    generalize iv_ = iv135 at h ⊢
    refine g_if_eq (q := 401) 449 X dX4_paperLine_398 (by decide) rfl (fun c136 => ?_) (fun c136 => ?_)
    · have h := h.1 c136
      refine g_iconst (q := 450) 0 X dX4_paperLine_449 rfl rfl ic_0 ?_
      exact g_zret (q := 0) .boolean X hR (nar_B (Or.inl rfl)) dX4_paperLine_450 rfl ⟨rfl, rfl, _, rfl, (Or.inl rfl), h⟩
    · have h := h.2 c136
      refine g_aload_n (q := 402) 0 X dX4_paperLine_401 rfl rfl rfl ?_
      refine g_ldcS (q := 404) 32 X st_X4_166 (by decide) dX4_paperLine_402 rfl ?_
      refine g_cv (q := 407) [aR (some (1000 + 32))] 4 X (ce_X4_choice hK (by decide) h) kV_X4_148 rfl (by decide) rfl (hK.n (by decide)) rfl rfl (Nat.le_of_ble_eq_true rfl) (by decide) dX4_paperLine_404 rfl (fun r n_ iv_ rv_ hf => ?_)
      obtain ⟨en_, er_, r137, rfl, br137, h⟩ := hf; subst n_; subst rv_
      generalize iv_ = iv138 at h ⊢
      refine g_if_eq (q := 410) 449 X dX4_paperLine_407 (by decide) rfl (fun c139 => ?_) (fun c139 => ?_)
      · have h := h.1 c139
        refine g_iconst (q := 450) 0 X dX4_paperLine_449 rfl rfl ic_0 ?_
        exact g_zret (q := 0) .boolean X hR (nar_B (Or.inl rfl)) dX4_paperLine_450 rfl ⟨rfl, rfl, _, rfl, (Or.inl rfl), h⟩
      · have h := h.2 c139
        refine g_aload_n (q := 411) 0 X dX4_paperLine_410 rfl rfl rfl ?_
        refine g_ldcS (q := 413) 35 X st_X4_168 (by decide) dX4_paperLine_411 rfl ?_
        refine g_cv (q := 416) [aR (some (1000 + 35))] 4 X (ce_X4_choice hK (by decide) h) kV_X4_148 rfl (by decide) rfl (hK.n (by decide)) rfl rfl (Nat.le_of_ble_eq_true rfl) (by decide) dX4_paperLine_413 rfl (fun r n_ iv_ rv_ hf => ?_)
        obtain ⟨en_, er_, r140, rfl, br140, h⟩ := hf; subst n_; subst rv_
        generalize iv_ = iv141 at h ⊢
        refine g_if_eq (q := 419) 449 X dX4_paperLine_416 (by decide) rfl (fun c142 => ?_) (fun c142 => ?_)
        · have h := h.1 c142
          refine g_iconst (q := 450) 0 X dX4_paperLine_449 rfl rfl ic_0 ?_
          exact g_zret (q := 0) .boolean X hR (nar_B (Or.inl rfl)) dX4_paperLine_450 rfl ⟨rfl, rfl, _, rfl, (Or.inl rfl), h⟩
        · have h := h.2 c142
          refine g_aload_n (q := 420) 0 X dX4_paperLine_419 rfl rfl rfl ?_
          refine g_ldcS (q := 422) 28 X st_X4_170 (by decide) dX4_paperLine_420 rfl ?_
          refine g_cv (q := 425) [aR (some (1000 + 28))] 4 X (ce_X4_choice hK (by decide) h) kV_X4_148 rfl (by decide) rfl (hK.n (by decide)) rfl rfl (Nat.le_of_ble_eq_true rfl) (by decide) dX4_paperLine_422 rfl (fun r n_ iv_ rv_ hf => ?_)
          obtain ⟨en_, er_, r143, rfl, br143, h⟩ := hf; subst n_; subst rv_
          generalize iv_ = iv144 at h ⊢
          refine g_if_eq (q := 428) 449 X dX4_paperLine_425 (by decide) rfl (fun c145 => ?_) (fun c145 => ?_)
          · have h := h.1 c145
            refine g_iconst (q := 450) 0 X dX4_paperLine_449 rfl rfl ic_0 ?_
            exact g_zret (q := 0) .boolean X hR (nar_B (Or.inl rfl)) dX4_paperLine_450 rfl ⟨rfl, rfl, _, rfl, (Or.inl rfl), h⟩
          · have h := h.2 c145
            refine g_aload_n (q := 429) 0 X dX4_paperLine_428 rfl rfl rfl ?_
            refine g_ldcS (q := 431) 11 X st_X4_172 (by decide) dX4_paperLine_429 rfl ?_
            refine g_cv (q := 434) [aR (some (1000 + 11))] 4 X (ce_X4_choice hK (by decide) h) kV_X4_148 rfl (by decide) rfl (hK.n (by decide)) rfl rfl (Nat.le_of_ble_eq_true rfl) (by decide) dX4_paperLine_431 rfl (fun r n_ iv_ rv_ hf => ?_)
            obtain ⟨en_, er_, r146, rfl, br146, h⟩ := hf; subst n_; subst rv_
            generalize iv_ = iv147 at h ⊢
            refine g_if_eq (q := 437) 449 X dX4_paperLine_434 (by decide) rfl (fun c148 => ?_) (fun c148 => ?_)
            · have h := h.1 c148
              refine g_iconst (q := 450) 0 X dX4_paperLine_449 rfl rfl ic_0 ?_
              exact g_zret (q := 0) .boolean X hR (nar_B (Or.inl rfl)) dX4_paperLine_450 rfl ⟨rfl, rfl, _, rfl, (Or.inl rfl), h⟩
            · have h := h.2 c148
              refine g_aload_n (q := 438) 0 X dX4_paperLine_437 rfl rfl rfl ?_
              refine g_iload_n (q := 439) 2 X dX4_paperLine_438 rfl rfl rfl ?_
              refine g_cv (q := 442) [aI a2] 4 X (ce_X4_keepLaw hK  h) kV_X4_174 rfl (by decide) rfl (hK.n (by decide)) rfl rfl (Nat.le_of_ble_eq_true rfl) (by decide) dX4_paperLine_439 rfl (fun r n_ iv_ rv_ hf => ?_)
              obtain ⟨en_, er_, r149, rfl, br149, h⟩ := hf; subst n_; subst rv_
              generalize iv_ = iv150 at h ⊢
              refine g_if_eq (q := 445) 449 X dX4_paperLine_442 (by decide) rfl (fun c151 => ?_) (fun c151 => ?_)
              · have h := h.1 c151
                refine g_iconst (q := 450) 0 X dX4_paperLine_449 rfl rfl ic_0 ?_
                exact g_zret (q := 0) .boolean X hR (nar_B (Or.inl rfl)) dX4_paperLine_450 rfl ⟨rfl, rfl, _, rfl, (Or.inl rfl), h⟩
              · have h := h.2 c151
                refine g_iconst (q := 446) 1 X dX4_paperLine_445 rfl rfl ic_1 ?_
                refine g_goto (q := 450) X dX4_paperLine_446 (by decide) ?_
                exact g_zret (q := 0) .boolean X hR (nar_B (Or.inr rfl)) dX4_paperLine_450 rfl ⟨rfl, rfl, _, rfl, (Or.inr rfl), h⟩
