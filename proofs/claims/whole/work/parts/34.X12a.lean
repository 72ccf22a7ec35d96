def wp_X12_thrown (iv : IV) (rv : RV) (K : Int → Prop) : Prop :=
  K (iv 66 0)
set_option maxRecDepth 10000 in
theorem ce_X12_thrown {n : Nat} {iv : IV} {rv : RV} {K : Int → Prop} (hK : Lk n rv)  (h : wp_X12_thrown  iv rv K) : Call 0 0 0 yX12_thrown cX12_thrown 1 (some .int) [aR (some 66)] n iv rv (fI0 n iv rv K) := by
  refine Call.by (L := [aR (some 66)]) (by decide) rfl ⟨trivial, trivial⟩ rfl (Nat.le_of_ble_eq_true rfl) (fun Γ X hR => ?_)
  unfold wp_X12_thrown at h
  refine g_aload_n (q := 1) 0 X dX12_thrown_0 rfl rfl rfl ?_
  refine g_getI (q := 4) 12 0 X kf_X12_54 (by decide) (by decide) rfl rfl (hK.n (by decide)) dX12_thrown_1 rfl ?_
  exact g_iret (q := 0) X hR dX12_thrown_4 rfl ⟨rfl, rfl, rfl, _, rfl, h⟩
def wp_X12_refused (a1 : Int) (iv : IV) (rv : RV) (K : Int → IV → Prop) : Prop :=
  ∀ iv1, iv1 = w2 iv 66 1 a1 → ∀ iv2, iv2 = w2 iv1 66 2 (-1) → K (-1) iv2
set_option maxRecDepth 10000 in
theorem ce_X12_refused {n : Nat} {iv : IV} {rv : RV} {K : Int → IV → Prop} {a1 : Int} (hK : Lk n rv)  (h : wp_X12_refused a1 iv rv K) : Call 0 0 0 yX12_refused cX12_refused 2 (some .int) [aR (some 66), aI a1] n iv rv (fI1 n rv K) := by
  refine Call.by (L := [aR (some 66), aI a1]) (by decide) rfl ⟨trivial, trivial, trivial⟩ rfl (Nat.le_of_ble_eq_true rfl) (fun Γ X hR => ?_)
  unfold wp_X12_refused at h
  refine g_aload_n (q := 1) 0 X dX12_refused_0 rfl rfl rfl ?_
  refine g_iload_n (q := 2) 1 X dX12_refused_1 rfl rfl rfl ?_
  refine g_putI (q := 5) 12 1 X (Or.inl rfl) rfl kf_X12_57 (by decide) (by decide) rfl (hK.n (by decide)) dX12_refused_2 rfl ?_
  refine g_nmM (fun iv1 eiv1 => ?_)
  have h := h iv1 eiv1
  refine g_aload_n (q := 6) 0 X dX12_refused_5 rfl rfl rfl ?_
  refine g_iconst (q := 7) (-1) X dX12_refused_6 rfl rfl ic_m1 ?_
  refine g_putI (q := 10) 12 2 X (Or.inl rfl) rfl kf_X12_9 (by decide) (by decide) rfl (hK.n (by decide)) dX12_refused_7 rfl ?_
  refine g_nmM (fun iv2 eiv2 => ?_)
  have h := h iv2 eiv2
  refine g_iconst (q := 11) (-1) X dX12_refused_10 rfl rfl ic_m1 ?_
  exact g_iret (q := 0) X hR dX12_refused_11 rfl ⟨rfl, rfl, _, rfl, h⟩
def wp_X12_lost (a1 : Int) (iv : IV) (rv : RV) (K : Int → IV → Prop) : Prop :=
  wp_X12_refused a1 iv rv (fun r1 iv2 => K (-1000000) iv2)
set_option maxRecDepth 10000 in
theorem ce_X12_lost {n : Nat} {iv : IV} {rv : RV} {K : Int → IV → Prop} {a1 : Int} (hK : Lk n rv)  (h : wp_X12_lost a1 iv rv K) : Call 1 0 0 yX12_lost cX12_lost 2 (some .int) [aR (some 66), aI a1] n iv rv (fI1 n rv K) := by
  refine Call.by (L := [aR (some 66), aI a1]) (by decide) rfl ⟨trivial, trivial, trivial⟩ rfl (Nat.le_of_ble_eq_true rfl) (fun Γ X hR => ?_)
  unfold wp_X12_lost at h
  refine g_aload_n (q := 1) 0 X dX12_lost_0 rfl rfl rfl ?_
  refine g_iload_n (q := 2) 1 X dX12_lost_1 rfl rfl rfl ?_
  refine g_cv (q := 5) [aI a1] 12 X (ce_X12_refused hK  h) kV_X12_60 rfl (by decide) rfl (hK.n (by decide)) rfl rfl (Nat.le_of_ble_eq_true rfl) (by decide) dX12_lost_2 rfl (fun r n_ iv_ rv_ hf => ?_)
  obtain ⟨en_, er_, r1, rfl, h⟩ := hf; subst n_; subst rv_
  generalize iv_ = iv2 at h ⊢
  refine g_pop (q := 6) X dX12_lost_5 rfl rfl ?_
  refine g_ldc (q := 8) (-1000000) X kc_X12_64 dX12_lost_6 rfl ic_m1000000 ?_
  exact g_iret (q := 0) X hR dX12_lost_8 rfl ⟨rfl, rfl, _, rfl, h⟩
def wp_X12_denied (a1 : Int) (iv : IV) (rv : RV) (K : Int → IV → Prop) : Prop :=
  wp_X12_refused a1 iv rv (fun r1 iv2 => K 0 iv2)
set_option maxRecDepth 10000 in
theorem ce_X12_denied {n : Nat} {iv : IV} {rv : RV} {K : Int → IV → Prop} {a1 : Int} (hK : Lk n rv)  (h : wp_X12_denied a1 iv rv K) : Call 1 0 0 yX12_denied cX12_denied 2 (some .boolean) [aR (some 66), aI a1] n iv rv (fB1 n rv K) := by
  refine Call.by (L := [aR (some 66), aI a1]) (by decide) rfl ⟨trivial, trivial, trivial⟩ rfl (Nat.le_of_ble_eq_true rfl) (fun Γ X hR => ?_)
  unfold wp_X12_denied at h
  refine g_aload_n (q := 1) 0 X dX12_denied_0 rfl rfl rfl ?_
  refine g_iload_n (q := 2) 1 X dX12_denied_1 rfl rfl rfl ?_
  refine g_cv (q := 5) [aI a1] 12 X (ce_X12_refused hK  h) kV_X12_60 rfl (by decide) rfl (hK.n (by decide)) rfl rfl (Nat.le_of_ble_eq_true rfl) (by decide) dX12_denied_2 rfl (fun r n_ iv_ rv_ hf => ?_)
  obtain ⟨en_, er_, r1, rfl, h⟩ := hf; subst n_; subst rv_
  generalize iv_ = iv2 at h ⊢
  refine g_pop (q := 6) X dX12_denied_5 rfl rfl ?_
  refine g_iconst (q := 7) 0 X dX12_denied_6 rfl rfl ic_0 ?_
  exact g_zret (q := 0) .boolean X hR (nar_B (Or.inl rfl)) dX12_denied_7 rfl ⟨rfl, rfl, _, rfl, (Or.inl rfl), h⟩
def wp_X12_done (a1 : Int) (iv : IV) (rv : RV) (K : Int → IV → Prop) : Prop :=
  ∀ iv1, iv1 = w2 iv 66 1 0 → ∀ iv2, iv2 = w2 iv1 66 2 (-1) → K a1 iv2
set_option maxRecDepth 10000 in
theorem ce_X12_done {n : Nat} {iv : IV} {rv : RV} {K : Int → IV → Prop} {a1 : Int} (hK : Lk n rv)  (h : wp_X12_done a1 iv rv K) : Call 0 0 0 yX12_done cX12_done 2 (some .int) [aR (some 66), aI a1] n iv rv (fI1 n rv K) := by
  refine Call.by (L := [aR (some 66), aI a1]) (by decide) rfl ⟨trivial, trivial, trivial⟩ rfl (Nat.le_of_ble_eq_true rfl) (fun Γ X hR => ?_)
  unfold wp_X12_done at h
  refine g_aload_n (q := 1) 0 X dX12_done_0 rfl rfl rfl ?_
  refine g_iconst (q := 2) 0 X dX12_done_1 rfl rfl ic_0 ?_
  refine g_putI (q := 5) 12 1 X (Or.inl rfl) rfl kf_X12_57 (by decide) (by decide) rfl (hK.n (by decide)) dX12_done_2 rfl ?_
  refine g_nmM (fun iv1 eiv1 => ?_)
  have h := h iv1 eiv1
  refine g_aload_n (q := 6) 0 X dX12_done_5 rfl rfl rfl ?_
  refine g_iconst (q := 7) (-1) X dX12_done_6 rfl rfl ic_m1 ?_
  refine g_putI (q := 10) 12 2 X (Or.inl rfl) rfl kf_X12_9 (by decide) (by decide) rfl (hK.n (by decide)) dX12_done_7 rfl ?_
  refine g_nmM (fun iv2 eiv2 => ?_)
  have h := h iv2 eiv2
  refine g_iload_n (q := 11) 1 X dX12_done_10 rfl rfl rfl ?_
  exact g_iret (q := 0) X hR dX12_done_11 rfl ⟨rfl, rfl, _, rfl, h⟩
def wp_X12_granted (iv : IV) (rv : RV) (K : Int → IV → Prop) : Prop :=
  wp_X12_done 0 iv rv (fun r1 iv2 => K 1 iv2)
set_option maxRecDepth 10000 in
theorem ce_X12_granted {n : Nat} {iv : IV} {rv : RV} {K : Int → IV → Prop} (hK : Lk n rv)  (h : wp_X12_granted  iv rv K) : Call 1 0 0 yX12_granted cX12_granted 1 (some .boolean) [aR (some 66)] n iv rv (fB1 n rv K) := by
  refine Call.by (L := [aR (some 66)]) (by decide) rfl ⟨trivial, trivial⟩ rfl (Nat.le_of_ble_eq_true rfl) (fun Γ X hR => ?_)
  unfold wp_X12_granted at h
  refine g_aload_n (q := 1) 0 X dX12_granted_0 rfl rfl rfl ?_
  refine g_iconst (q := 2) 0 X dX12_granted_1 rfl rfl ic_0 ?_
  refine g_cv (q := 5) [aI 0] 12 X (ce_X12_done hK  h) kV_X12_65 rfl (by decide) rfl (hK.n (by decide)) rfl rfl (Nat.le_of_ble_eq_true rfl) (by decide) dX12_granted_2 rfl (fun r n_ iv_ rv_ hf => ?_)
  obtain ⟨en_, er_, r1, rfl, h⟩ := hf; subst n_; subst rv_
  generalize iv_ = iv2 at h ⊢
  refine g_pop (q := 6) X dX12_granted_5 rfl rfl ?_
  refine g_iconst (q := 7) 1 X dX12_granted_6 rfl rfl ic_1 ?_
  exact g_zret (q := 0) .boolean X hR (nar_B (Or.inr rfl)) dX12_granted_7 rfl ⟨rfl, rfl, _, rfl, (Or.inr rfl), h⟩
def wp_X12_in (a0 : Int) (a1 : Int) (a2 : Int) (iv : IV) (rv : RV) (K : Int → Prop) : Prop :=
  ((a0 < a1) → (K 0)) ∧ ((¬ (a0 < a1)) → (((a2 < a0) → (K 0)) ∧ ((¬ (a2 < a0)) → (K 1))))
set_option maxRecDepth 10000 in
theorem ce_X12_in {n : Nat} {iv : IV} {rv : RV} {K : Int → Prop} {a0 : Int} {a1 : Int} {a2 : Int} (hK : Lk n rv)  (h : wp_X12_in a0 a1 a2 iv rv K) : Call 0 0 0 yX12_in cX12_in 3 (some .boolean) [aI a0, aI a1, aI a2] n iv rv (fB0 n iv rv K) := by
  refine Call.by (L := [aI a0, aI a1, aI a2]) (by decide) rfl ⟨trivial, trivial, trivial, trivial⟩ rfl (Nat.le_of_ble_eq_true rfl) (fun Γ X hR => ?_)
  unfold wp_X12_in at h
  refine g_iload_n (q := 1) 0 X dX12_in_0 rfl rfl rfl ?_
  refine g_iload_n (q := 2) 1 X dX12_in_1 rfl rfl rfl ?_
  refine g_icmp_lt (q := 5) 14 X dX12_in_2 (by decide) rfl (fun c1 => ?_) (fun c1 => ?_)
  · have h := h.1 c1
    refine g_iconst (q := 15) 0 X dX12_in_14 rfl rfl ic_0 ?_
    exact g_zret (q := 0) .boolean X hR (nar_B (Or.inl rfl)) dX12_in_15 rfl ⟨rfl, rfl, rfl, _, rfl, (Or.inl rfl), h⟩
  · have h := h.2 c1
    refine g_iload_n (q := 6) 0 X dX12_in_5 rfl rfl rfl ?_
    refine g_iload_n (q := 7) 2 X dX12_in_6 rfl rfl rfl ?_
    refine g_icmp_gt (q := 10) 14 X dX12_in_7 (by decide) rfl (fun c2 => ?_) (fun c2 => ?_)
    · have h := h.1 c2
      refine g_iconst (q := 15) 0 X dX12_in_14 rfl rfl ic_0 ?_
      exact g_zret (q := 0) .boolean X hR (nar_B (Or.inl rfl)) dX12_in_15 rfl ⟨rfl, rfl, rfl, _, rfl, (Or.inl rfl), h⟩
    · have h := h.2 c2
      refine g_iconst (q := 11) 1 X dX12_in_10 rfl rfl ic_1 ?_
      refine g_goto (q := 15) X dX12_in_11 (by decide) ?_
      exact g_zret (q := 0) .boolean X hR (nar_B (Or.inr rfl)) dX12_in_15 rfl ⟨rfl, rfl, rfl, _, rfl, (Or.inr rfl), h⟩
def wp_X12_byteAt (a1 : Int) (iv : IV) (rv : RV) (K : Int → Prop) : Prop :=
  (((iv 66 7) ≤ a1) → (K (-1))) ∧ ((¬ ((iv 66 7) ≤ a1)) → ((0 ≤ a1 ∧ a1 < 900) ∧ K ((Int32.ofInt (iv 67 a1.toNat) &&& Int32.ofInt 255).toInt)))
set_option maxRecDepth 10000 in
theorem ce_X12_byteAt {n : Nat} {iv : IV} {rv : RV} {K : Int → Prop} {a1 : Int} (hK : Lk n rv)  (h : wp_X12_byteAt a1 iv rv K) : Call 0 0 0 yX12_byteAt cX12_byteAt 2 (some .int) [aR (some 66), aI a1] n iv rv (fI0 n iv rv K) := by
  refine Call.by (L := [aR (some 66), aI a1]) (by decide) rfl ⟨trivial, trivial, trivial⟩ rfl (Nat.le_of_ble_eq_true rfl) (fun Γ X hR => ?_)
  unfold wp_X12_byteAt at h
  refine g_iload_n (q := 1) 1 X dX12_byteAt_0 rfl rfl rfl ?_
  refine g_aload_n (q := 2) 0 X dX12_byteAt_1 rfl rfl rfl ?_
  refine g_getI (q := 5) 12 7 X kf_X12_68 (by decide) (by decide) rfl rfl (hK.n (by decide)) dX12_byteAt_2 rfl ?_
  refine g_icmp_ge (q := 8) 21 X dX12_byteAt_5 (by decide) rfl (fun c1 => ?_) (fun c1 => ?_)
  · have h := h.1 c1
    refine g_iconst (q := 22) (-1) X dX12_byteAt_21 rfl rfl ic_m1 ?_
    exact g_iret (q := 0) X hR dX12_byteAt_22 rfl ⟨rfl, rfl, rfl, _, rfl, h⟩
  · have h := h.2 c1
    refine g_aload_n (q := 9) 0 X dX12_byteAt_8 rfl rfl rfl ?_
    refine g_getR (q := 12) (r := some 67) 12 5 X (lk_66_5 hK) (lt2000 (c := 0) (by decide)) kf_X12_13 (by decide) (by decide) rfl rfl (hK.n (by decide)) dX12_byteAt_9 rfl ?_
    refine g_iload_n (q := 13) 1 X dX12_byteAt_12 rfl rfl rfl ?_
    obtain ⟨s2, h⟩ := h
    refine g_bald (q := 14) X rfl (hK.n (by decide)) s2 dX12_byteAt_13 rfl ?_
    refine g_sipush (q := 17) 255 X dX12_byteAt_14 rfl sc_255 ic_255 ?_
    refine g_iand (q := 18) X dX12_byteAt_17 rfl ?_
    refine g_goto (q := 22) X dX12_byteAt_18 (by decide) ?_
    exact g_iret (q := 0) X hR dX12_byteAt_22 rfl ⟨rfl, rfl, rfl, _, rfl, h⟩
def wp_X12_isLetter (a0 : Int) (iv : IV) (rv : RV) (K : Int → Prop) : Prop :=
  ((a0 < 97) → (K 0)) ∧ ((¬ (a0 < 97)) → (((122 < a0) → (K 0)) ∧ ((¬ (122 < a0)) → (K 1))))
set_option maxRecDepth 10000 in
theorem ce_X12_isLetter {n : Nat} {iv : IV} {rv : RV} {K : Int → Prop} {a0 : Int} (hK : Lk n rv)  (h : wp_X12_isLetter a0 iv rv K) : Call 0 0 0 yX12_isLetter cX12_isLetter 1 (some .boolean) [aI a0] n iv rv (fB0 n iv rv K) := by
  refine Call.by (L := [aI a0]) (by decide) rfl ⟨trivial, trivial⟩ rfl (Nat.le_of_ble_eq_true rfl) (fun Γ X hR => ?_)
  unfold wp_X12_isLetter at h
  refine g_iload_n (q := 1) 0 X dX12_isLetter_0 rfl rfl rfl ?_
  refine g_bipush (q := 3) 97 X dX12_isLetter_1 rfl bc_97 ic_97 ?_
  refine g_icmp_lt (q := 6) 16 X dX12_isLetter_3 (by decide) rfl (fun c1 => ?_) (fun c1 => ?_)
  · have h := h.1 c1
    refine g_iconst (q := 17) 0 X dX12_isLetter_16 rfl rfl ic_0 ?_
    exact g_zret (q := 0) .boolean X hR (nar_B (Or.inl rfl)) dX12_isLetter_17 rfl ⟨rfl, rfl, rfl, _, rfl, (Or.inl rfl), h⟩
  · have h := h.2 c1
    refine g_iload_n (q := 7) 0 X dX12_isLetter_6 rfl rfl rfl ?_
    refine g_bipush (q := 9) 122 X dX12_isLetter_7 rfl bc_122 ic_122 ?_
    refine g_icmp_gt (q := 12) 16 X dX12_isLetter_9 (by decide) rfl (fun c2 => ?_) (fun c2 => ?_)
    · have h := h.1 c2
      refine g_iconst (q := 17) 0 X dX12_isLetter_16 rfl rfl ic_0 ?_
      exact g_zret (q := 0) .boolean X hR (nar_B (Or.inl rfl)) dX12_isLetter_17 rfl ⟨rfl, rfl, rfl, _, rfl, (Or.inl rfl), h⟩
    · have h := h.2 c2
      refine g_iconst (q := 13) 1 X dX12_isLetter_12 rfl rfl ic_1 ?_
      refine g_goto (q := 17) X dX12_isLetter_13 (by decide) ?_
      exact g_zret (q := 0) .boolean X hR (nar_B (Or.inr rfl)) dX12_isLetter_17 rfl ⟨rfl, rfl, rfl, _, rfl, (Or.inr rfl), h⟩
def wp_X12_isDigit (a0 : Int) (iv : IV) (rv : RV) (K : Int → Prop) : Prop :=
  ((a0 < 48) → (K 0)) ∧ ((¬ (a0 < 48)) → (((57 < a0) → (K 0)) ∧ ((¬ (57 < a0)) → (K 1))))
set_option maxRecDepth 10000 in
theorem ce_X12_isDigit {n : Nat} {iv : IV} {rv : RV} {K : Int → Prop} {a0 : Int} (hK : Lk n rv)  (h : wp_X12_isDigit a0 iv rv K) : Call 0 0 0 yX12_isDigit cX12_isDigit 1 (some .boolean) [aI a0] n iv rv (fB0 n iv rv K) := by
  refine Call.by (L := [aI a0]) (by decide) rfl ⟨trivial, trivial⟩ rfl (Nat.le_of_ble_eq_true rfl) (fun Γ X hR => ?_)
  unfold wp_X12_isDigit at h
  refine g_iload_n (q := 1) 0 X dX12_isDigit_0 rfl rfl rfl ?_
  refine g_bipush (q := 3) 48 X dX12_isDigit_1 rfl bc_48 ic_48 ?_
  refine g_icmp_lt (q := 6) 16 X dX12_isDigit_3 (by decide) rfl (fun c1 => ?_) (fun c1 => ?_)
  · have h := h.1 c1
    refine g_iconst (q := 17) 0 X dX12_isDigit_16 rfl rfl ic_0 ?_
    exact g_zret (q := 0) .boolean X hR (nar_B (Or.inl rfl)) dX12_isDigit_17 rfl ⟨rfl, rfl, rfl, _, rfl, (Or.inl rfl), h⟩
  · have h := h.2 c1
    refine g_iload_n (q := 7) 0 X dX12_isDigit_6 rfl rfl rfl ?_
    refine g_bipush (q := 9) 57 X dX12_isDigit_7 rfl bc_57 ic_57 ?_
    refine g_icmp_gt (q := 12) 16 X dX12_isDigit_9 (by decide) rfl (fun c2 => ?_) (fun c2 => ?_)
    · have h := h.1 c2
      refine g_iconst (q := 17) 0 X dX12_isDigit_16 rfl rfl ic_0 ?_
      exact g_zret (q := 0) .boolean X hR (nar_B (Or.inl rfl)) dX12_isDigit_17 rfl ⟨rfl, rfl, rfl, _, rfl, (Or.inl rfl), h⟩
    · have h := h.2 c2
      refine g_iconst (q := 13) 1 X dX12_isDigit_12 rfl rfl ic_1 ?_
      refine g_goto (q := 17) X dX12_isDigit_13 (by decide) ?_
      exact g_zret (q := 0) .boolean X hR (nar_B (Or.inr rfl)) dX12_isDigit_17 rfl ⟨rfl, rfl, rfl, _, rfl, (Or.inr rfl), h⟩
def bd_X12_wordOf_4 (w0 : Nat) (P4 : Int → Int → Prop) (l1 l3 : Int) (iv : IV) (rv : RV) (K : Int → Prop) : Prop :=
  ∀ r1, r1 = ((sLen.getD w0 0 : Nat) : Int) → ((r1 ≤ l3) → (K l1)) ∧ ((¬ (r1 ≤ l3)) → ((0 ≤ l3 ∧ l3 < ((sLen.getD w0 0 : Nat) : Int)) ∧ ∀ r3, r3 = sAt w0 l3.toNat → ∀ x5, x5 = w64 ((w64 (32 * l1)) + (w32 ((w32 (r3 - 97)) + 1))) → P4 x5 (w32 (l3 + 1))))
set_option maxRecDepth 10000 in
theorem cb_X12_wordOf_4 {Γ : GX} {n : Nat} {iv : IV} {rv : RV} {K : Int → Prop} {w0 : Nat} {P4 : Int → Int → Prop} {l1 l3 : Int} (X : Cx Γ RX12 cX12_wordOf 4 4) (hR : Rt Γ (some .long) 0 0 (fL0 n iv rv K)) (hK : Lk n rv) (hw_w0 : w0 < 51) (hP4 : ∀ (l1' l3' : Int), P4 l1' l3' → G Γ 4 4 [aR (some (1000 + w0)), aL (l1'), aJ, aI (l3')] [] n iv rv 0 0) (h : bd_X12_wordOf_4 w0 P4 l1 l3 iv rv K) : G Γ 4 4 [aR (some (1000 + w0)), aL l1, aJ, aI l3] [] n iv rv 0 0 := by
  unfold bd_X12_wordOf_4 at h
  refine g_iload_n (q := 5) 3 X dX12_wordOf_4 rfl rfl rfl ?_
  refine g_aload_n (q := 6) 0 X dX12_wordOf_5 rfl rfl rfl ?_
  refine g_cstr (q := 9) [] X (ce_slen n iv rv hw_w0) kQ_X12_71 hw_w0 rfl rfl (Nat.le_of_ble_eq_true rfl) (by decide) dX12_wordOf_6 rfl (fun r n_ iv_ rv_ hf => ?_)
  obtain ⟨en_, ei_, er_, r1, rfl, er1⟩ := hf; subst n_; subst iv_; subst rv_
  have h := h r1 er1
  refine g_icmp_ge (q := 12) 36 X dX12_wordOf_9 (by decide) rfl (fun c2 => ?_) (fun c2 => ?_)
  · have h := h.1 c2
    refine g_lload_n (q := 37) 1 X dX12_wordOf_36 rfl rfl rfl ?_
    exact g_lret (q := 0) X hR dX12_wordOf_37 rfl ⟨rfl, rfl, rfl, _, rfl, h⟩
  · have h := h.2 c2
    refine g_ldc2 (q := 15) 32 X kl_X12_77 dX12_wordOf_12 rfl (by unfold inL; omega) ?_
    refine g_lload_n (q := 16) 1 X dX12_wordOf_15 rfl rfl rfl ?_
    refine g_lmul (q := 17) X dX12_wordOf_16 rfl ?_
    refine g_aload_n (q := 18) 0 X dX12_wordOf_17 rfl rfl rfl ?_
    refine g_iload_n (q := 19) 3 X dX12_wordOf_18 rfl rfl rfl ?_
    obtain ⟨s4, h⟩ := h
    refine g_cstr (q := 22) [aI l3] X (ce_schar n iv rv hw_w0 s4) kQ_X12_79 hw_w0 rfl rfl (Nat.le_of_ble_eq_true rfl) (by decide) dX12_wordOf_19 rfl (fun r n_ iv_ rv_ hf => ?_)
    obtain ⟨en_, ei_, er_, r3, rfl, er3⟩ := hf; subst n_; subst iv_; subst rv_
    have h := h r3 er3
    refine g_bipush (q := 24) 97 X dX12_wordOf_22 rfl bc_97 ic_97 ?_
    refine g_isub (q := 25) X dX12_wordOf_24 rfl ?_
    refine g_iconst (q := 26) 1 X dX12_wordOf_25 rfl rfl ic_1 ?_
    refine g_iadd (q := 27) X dX12_wordOf_26 rfl ?_
    refine g_i2l (q := 28) X dX12_wordOf_27 rfl ?_
    refine g_ladd (q := 29) X dX12_wordOf_28 rfl ?_
    refine g_nmJ (fun x5 ex5 => ?_)
    have h := h x5 ex5
    refine g_lstore_n (q := 30) 1 (L' := [aR (some (1000 + w0)), aL x5, aJ, aI l3]) X dX12_wordOf_29 rfl rfl (by decide) rfl rfl ?_
    refine g_iinc (q := 33) 3 (L' := [aR (some (1000 + w0)), aL x5, aJ, aI (w32 (l3 + 1))]) X dX12_wordOf_30 rfl (by decide) rfl rfl rfl ?_
    refine g_goto (q := 4) X dX12_wordOf_33 (by decide) ?_
    exact hP4 _ _ h
def wl_X12_wordOf_4 (w0 : Nat) (l1 l3 : Int) (iv : IV) (rv : RV) (K : Int → Prop) : Prop :=
  ∀ P : Int → Int → Prop, (∀ (l1' l3' : Int), bd_X12_wordOf_4 w0 P l1' l3' iv rv K → P l1' l3') → P l1 l3
theorem cl_X12_wordOf_4 {Γ : GX} {n : Nat} {iv : IV} {rv : RV} {K : Int → Prop} {w0 : Nat} {l1 l3 : Int} (X : Cx Γ RX12 cX12_wordOf 4 4) (hR : Rt Γ (some .long) 0 0 (fL0 n iv rv K)) (hK : Lk n rv) (hw_w0 : w0 < 51) (h : wl_X12_wordOf_4 w0 l1 l3 iv rv K) : G Γ 4 4 [aR (some (1000 + w0)), aL l1, aJ, aI l3] [] n iv rv 0 0 := by
  exact h (fun l1' l3' =>  G Γ 4 4 [aR (some (1000 + w0)), aL (l1'), aJ, aI (l3')] [] n iv rv 0 0) (fun l1' l3' hb => cb_X12_wordOf_4 X hR hK hw_w0  (fun l1' l3' hp => hp) hb)
def wp_X12_wordOf (w0 : Nat) (iv : IV) (rv : RV) (K : Int → Prop) : Prop :=
  wl_X12_wordOf_4 w0 0 0 iv rv K
set_option maxRecDepth 10000 in
theorem ce_X12_wordOf {n : Nat} {iv : IV} {rv : RV} {K : Int → Prop} {w0 : Nat} (hK : Lk n rv) (hw_w0 : w0 < 51) (h : wp_X12_wordOf w0 iv rv K) : Call 4 0 0 yX12_wordOf cX12_wordOf 4 (some .long) [aR (some (1000 + w0))] n iv rv (fL0 n iv rv K) := by
  refine Call.by (L := [aR (some (1000 + w0)), aJ, aJ, aJ]) (by decide) rfl ⟨trivial, trivial⟩ rfl (Nat.le_of_ble_eq_true rfl) (fun Γ X hR => ?_)
  unfold wp_X12_wordOf at h
  refine g_lconst (q := 1) 0 X dX12_wordOf_0 rfl rfl (by unfold inL; omega) ?_
  refine g_lstore_n (q := 2) 1 (L' := [aR (some (1000 + w0)), aL 0, aJ, aJ]) X dX12_wordOf_1 rfl rfl (by decide) rfl rfl ?_
  refine g_iconst (q := 3) 0 X dX12_wordOf_2 rfl rfl ic_0 ?_
  refine g_istore_n (q := 4) 3 (L' := [aR (some (1000 + w0)), aL 0, aJ, aI 0]) X dX12_wordOf_3 rfl rfl (by decide) rfl rfl ?_
  exact cl_X12_wordOf_4 X hR hK hw_w0  h
def bd_X12_goesOn_215 (P173 : Int → IV → Prop) (l2 : Int) (iv : IV) (rv : RV) (K : IV → Prop) : Prop :=
  ∀ iv1, iv1 = w2 iv 66 8 (w32 ((iv 66 8) + 1)) → P173 (w32 (l2 + 1)) iv1
set_option maxRecDepth 10000 in
theorem cb_X12_goesOn_215 {Γ : GX} {n : Nat} {iv : IV} {rv : RV} {K : IV → Prop} {P173 : Int → IV → Prop} {l2 : Int} (X : Cx Γ RX12 cX12_goesOn 3 1) (hR : Rt Γ none 0 0 (fV1 n rv K)) (hK : Lk n rv)  (hP173 : ∀ (l2' : Int) (iv' : IV), P173 l2' iv' → G Γ 3 173 [aR (some 66), aJ, aI (l2')] [] n iv' rv 0 0) (h : bd_X12_goesOn_215 P173 l2 iv rv K) : G Γ 3 215 [aR (some 66), aJ, aI l2] [] n iv rv 0 0 := by
  unfold bd_X12_goesOn_215 at h
  refine g_iinc (q := 218) 2 (L' := [aR (some 66), aJ, aI (w32 (l2 + 1))]) X dX12_goesOn_215 rfl (by decide) rfl rfl rfl ?_
  refine g_aload_n (q := 219) 0 X dX12_goesOn_218 rfl rfl rfl ?_
  refine g_dup (q := 220) X dX12_goesOn_219 rfl rfl ?_
  refine g_getI (q := 223) 12 8 X kf_X12_86 (by decide) (by decide) rfl rfl (hK.n (by decide)) dX12_goesOn_220 rfl ?_
  refine g_iconst (q := 224) 1 X dX12_goesOn_223 rfl rfl ic_1 ?_
  refine g_iadd (q := 225) X dX12_goesOn_224 rfl ?_
  refine g_putI (q := 228) 12 8 X (Or.inl rfl) rfl kf_X12_86 (by decide) (by decide) rfl (hK.n (by decide)) dX12_goesOn_225 rfl ?_
  refine g_nmM (fun iv1 eiv1 => ?_)
  have h := h iv1 eiv1
  refine g_goto (q := 173) X dX12_goesOn_228 (by decide) ?_
  exact hP173 _ _ h
def bd_X12_goesOn_173 (P173 : Int → IV → Prop) (l2 : Int) (iv : IV) (rv : RV) (K : IV → Prop) : Prop :=
  wp_X12_byteAt (iv 66 8) iv rv (fun r1 => wp_X12_isDigit r1 iv rv (fun r2 => ((r2 = 0) → (((3 < l2) → (K iv)) ∧ ((¬ (3 < l2)) → (∀ iv5, iv5 = w2 iv 66 9 3 → K iv5)))) ∧ ((¬ (r2 = 0)) → (((3 ≤ l2) → (bd_X12_goesOn_215 P173 l2 iv rv K)) ∧ ((¬ (3 ≤ l2)) → (wp_X12_byteAt (iv 66 8) iv rv (fun r7 => ∀ iv8, iv8 = w2 iv 66 11 (w32 ((w32 ((w32 (10 * (iv 66 11))) + r7)) - 48)) → bd_X12_goesOn_215 P173 l2 iv8 rv K)))))))
set_option maxRecDepth 10000 in
theorem cb_X12_goesOn_173 {Γ : GX} {n : Nat} {iv : IV} {rv : RV} {K : IV → Prop} {P173 : Int → IV → Prop} {l2 : Int} (X : Cx Γ RX12 cX12_goesOn 3 1) (hR : Rt Γ none 0 0 (fV1 n rv K)) (hK : Lk n rv)  (hP173 : ∀ (l2' : Int) (iv' : IV), P173 l2' iv' → G Γ 3 173 [aR (some 66), aJ, aI (l2')] [] n iv' rv 0 0) (h : bd_X12_goesOn_173 P173 l2 iv rv K) : G Γ 3 173 [aR (some 66), aJ, aI l2] [] n iv rv 0 0 := by
  unfold bd_X12_goesOn_173 at h
  refine g_aload_n (q := 174) 0 X dX12_goesOn_173 rfl rfl rfl ?_
  refine g_aload_n (q := 175) 0 X dX12_goesOn_174 rfl rfl rfl ?_
  refine g_getI (q := 178) 12 8 X kf_X12_86 (by decide) (by decide) rfl rfl (hK.n (by decide)) dX12_goesOn_175 rfl ?_
  refine g_cv (q := 181) [aI (iv 66 8)] 12 X (ce_X12_byteAt hK  h) kV_X12_89 rfl (by decide) rfl (hK.n (by decide)) rfl rfl (Nat.le_of_ble_eq_true rfl) (by decide) dX12_goesOn_178 rfl (fun r n_ iv_ rv_ hf => ?_)
  obtain ⟨en_, ei_, er_, r1, rfl, h⟩ := hf; subst n_; subst iv_; subst rv_
  refine g_cs (q := 184) [aI r1] X (ce_X12_isDigit hK  h) kS_X12_103 rfl rfl (Nat.le_of_ble_eq_true rfl) (by decide) dX12_goesOn_181 rfl (fun r n_ iv_ rv_ hf => ?_)
  obtain ⟨en_, ei_, er_, r2, rfl, br2, h⟩ := hf; subst n_; subst iv_; subst rv_
  refine g_if_eq (q := 187) 231 X dX12_goesOn_184 (by decide) rfl (fun c3 => ?_) (fun c3 => ?_)
  · have h := h.1 c3
    refine g_iload_n (q := 232) 2 X dX12_goesOn_231 rfl rfl rfl ?_
    refine g_iconst (q := 233) 3 X dX12_goesOn_232 rfl rfl ic_3 ?_
    refine g_icmp_gt (q := 236) 265 X dX12_goesOn_233 (by decide) rfl (fun c4 => ?_) (fun c4 => ?_)
    · have h := h.1 c4
      exact g_vret (q := 0) X hR dX12_goesOn_265 rfl ⟨rfl, rfl, rfl, h⟩
    · have h := h.2 c4
      refine g_aload_n (q := 237) 0 X dX12_goesOn_236 rfl rfl rfl ?_
      refine g_iconst (q := 238) 3 X dX12_goesOn_237 rfl rfl ic_3 ?_
      refine g_putI (q := 241) 12 9 X (Or.inl rfl) rfl kf_X12_83 (by decide) (by decide) rfl (hK.n (by decide)) dX12_goesOn_238 rfl ?_
      refine g_nmM (fun iv5 eiv5 => ?_)
      have h := h iv5 eiv5
      refine g_goto (q := 265) X dX12_goesOn_241 (by decide) ?_
      exact g_vret (q := 0) X hR dX12_goesOn_265 rfl ⟨rfl, rfl, rfl, h⟩
  · have h := h.2 c3
    refine g_iload_n (q := 188) 2 X dX12_goesOn_187 rfl rfl rfl ?_
    refine g_iconst (q := 189) 3 X dX12_goesOn_188 rfl rfl ic_3 ?_
    refine g_icmp_ge (q := 192) 215 X dX12_goesOn_189 (by decide) rfl (fun c6 => ?_) (fun c6 => ?_)
    · have h := h.1 c6
      exact cb_X12_goesOn_215 X hR hK  hP173 h
    · have h := h.2 c6
      refine g_aload_n (q := 193) 0 X dX12_goesOn_192 rfl rfl rfl ?_
      refine g_bipush (q := 195) 10 X dX12_goesOn_193 rfl bc_10 ic_10 ?_
      refine g_aload_n (q := 196) 0 X dX12_goesOn_195 rfl rfl rfl ?_
      refine g_getI (q := 199) 12 11 X kf_X12_106 (by decide) (by decide) rfl rfl (hK.n (by decide)) dX12_goesOn_196 rfl ?_
      refine g_imul (q := 200) X dX12_goesOn_199 rfl ?_
      refine g_aload_n (q := 201) 0 X dX12_goesOn_200 rfl rfl rfl ?_
      refine g_aload_n (q := 202) 0 X dX12_goesOn_201 rfl rfl rfl ?_
      refine g_getI (q := 205) 12 8 X kf_X12_86 (by decide) (by decide) rfl rfl (hK.n (by decide)) dX12_goesOn_202 rfl ?_
      refine g_cv (q := 208) [aI (iv 66 8)] 12 X (ce_X12_byteAt hK  h) kV_X12_89 rfl (by decide) rfl (hK.n (by decide)) rfl rfl (Nat.le_of_ble_eq_true rfl) (by decide) dX12_goesOn_205 rfl (fun r n_ iv_ rv_ hf => ?_)
      obtain ⟨en_, ei_, er_, r7, rfl, h⟩ := hf; subst n_; subst iv_; subst rv_
      refine g_iadd (q := 209) X dX12_goesOn_208 rfl ?_
      refine g_bipush (q := 211) 48 X dX12_goesOn_209 rfl bc_48 ic_48 ?_
      refine g_isub (q := 212) X dX12_goesOn_211 rfl ?_
      refine g_putI (q := 215) 12 11 X (Or.inl rfl) rfl kf_X12_106 (by decide) (by decide) rfl (hK.n (by decide)) dX12_goesOn_212 rfl ?_
      refine g_nmM (fun iv8 eiv8 => ?_)
      have h := h iv8 eiv8
      exact cb_X12_goesOn_215 X hR hK  hP173 h
def wl_X12_goesOn_173 (l2 : Int) (iv : IV) (rv : RV) (K : IV → Prop) : Prop :=
  ∀ P : Int → IV → Prop, (∀ (l2' : Int) (iv' : IV), bd_X12_goesOn_173  P l2' iv' rv K → P l2' iv') → P l2 iv
theorem cl_X12_goesOn_173 {Γ : GX} {n : Nat} {iv : IV} {rv : RV} {K : IV → Prop} {l2 : Int} (X : Cx Γ RX12 cX12_goesOn 3 1) (hR : Rt Γ none 0 0 (fV1 n rv K)) (hK : Lk n rv)  (h : wl_X12_goesOn_173 l2 iv rv K) : G Γ 3 173 [aR (some 66), aJ, aI l2] [] n iv rv 0 0 := by
  exact h (fun l2' iv' =>  G Γ 3 173 [aR (some 66), aJ, aI (l2')] [] n iv' rv 0 0) (fun l2' iv' hb => cb_X12_goesOn_173 X hR hK   (fun l2' iv' hp => hp) hb)
def bd_X12_goesOn_131 (P84 : Int → IV → Prop) (l2 : Int) (iv : IV) (rv : RV) (K : IV → Prop) : Prop :=
  ∀ iv1, iv1 = w2 iv 66 8 (w32 ((iv 66 8) + 1)) → P84 (w32 (l2 + 1)) iv1
set_option maxRecDepth 10000 in
theorem cb_X12_goesOn_131 {Γ : GX} {n : Nat} {iv : IV} {rv : RV} {K : IV → Prop} {P84 : Int → IV → Prop} {l2 : Int} (X : Cx Γ RX12 cX12_goesOn 3 1) (hR : Rt Γ none 0 0 (fV1 n rv K)) (hK : Lk n rv)  (hP84 : ∀ (l2' : Int) (iv' : IV), P84 l2' iv' → G Γ 3 84 [aR (some 66), aJ, aI (l2')] [] n iv' rv 0 0) (h : bd_X12_goesOn_131 P84 l2 iv rv K) : G Γ 3 131 [aR (some 66), aJ, aI l2] [] n iv rv 0 0 := by
  unfold bd_X12_goesOn_131 at h
  refine g_iinc (q := 134) 2 (L' := [aR (some 66), aJ, aI (w32 (l2 + 1))]) X dX12_goesOn_131 rfl (by decide) rfl rfl rfl ?_
  refine g_aload_n (q := 135) 0 X dX12_goesOn_134 rfl rfl rfl ?_
  refine g_dup (q := 136) X dX12_goesOn_135 rfl rfl ?_
  refine g_getI (q := 139) 12 8 X kf_X12_86 (by decide) (by decide) rfl rfl (hK.n (by decide)) dX12_goesOn_136 rfl ?_
  refine g_iconst (q := 140) 1 X dX12_goesOn_139 rfl rfl ic_1 ?_
  refine g_iadd (q := 141) X dX12_goesOn_140 rfl ?_
  refine g_putI (q := 144) 12 8 X (Or.inl rfl) rfl kf_X12_86 (by decide) (by decide) rfl (hK.n (by decide)) dX12_goesOn_141 rfl ?_
  refine g_nmM (fun iv1 eiv1 => ?_)
  have h := h iv1 eiv1
  refine g_goto (q := 84) X dX12_goesOn_144 (by decide) ?_
  exact hP84 _ _ h
def bd_X12_goesOn_84 (P84 : Int → IV → Prop) (l2 : Int) (iv : IV) (rv : RV) (K : IV → Prop) : Prop :=
  wp_X12_byteAt (iv 66 8) iv rv (fun r1 => wp_X12_isLetter r1 iv rv (fun r2 => ((r2 = 0) → (((8 < l2) → (K iv)) ∧ ((¬ (8 < l2)) → (∀ iv5, iv5 = w2 iv 66 9 2 → K iv5)))) ∧ ((¬ (r2 = 0)) → (((8 ≤ l2) → (bd_X12_goesOn_131 P84 l2 iv rv K)) ∧ ((¬ (8 ≤ l2)) → (wp_X12_byteAt (iv 66 8) iv rv (fun r7 => ∀ iv8, iv8 = w2 iv 66 14 (w64 ((w64 (32 * (iv 66 14))) + (w32 ((w32 (r7 - 97)) + 1)))) → bd_X12_goesOn_131 P84 l2 iv8 rv K)))))))
set_option maxRecDepth 10000 in
theorem cb_X12_goesOn_84 {Γ : GX} {n : Nat} {iv : IV} {rv : RV} {K : IV → Prop} {P84 : Int → IV → Prop} {l2 : Int} (X : Cx Γ RX12 cX12_goesOn 3 1) (hR : Rt Γ none 0 0 (fV1 n rv K)) (hK : Lk n rv)  (hP84 : ∀ (l2' : Int) (iv' : IV), P84 l2' iv' → G Γ 3 84 [aR (some 66), aJ, aI (l2')] [] n iv' rv 0 0) (h : bd_X12_goesOn_84 P84 l2 iv rv K) : G Γ 3 84 [aR (some 66), aJ, aI l2] [] n iv rv 0 0 := by
  unfold bd_X12_goesOn_84 at h
  refine g_aload_n (q := 85) 0 X dX12_goesOn_84 rfl rfl rfl ?_
  refine g_aload_n (q := 86) 0 X dX12_goesOn_85 rfl rfl rfl ?_
  refine g_getI (q := 89) 12 8 X kf_X12_86 (by decide) (by decide) rfl rfl (hK.n (by decide)) dX12_goesOn_86 rfl ?_
  refine g_cv (q := 92) [aI (iv 66 8)] 12 X (ce_X12_byteAt hK  h) kV_X12_89 rfl (by decide) rfl (hK.n (by decide)) rfl rfl (Nat.le_of_ble_eq_true rfl) (by decide) dX12_goesOn_89 rfl (fun r n_ iv_ rv_ hf => ?_)
  obtain ⟨en_, ei_, er_, r1, rfl, h⟩ := hf; subst n_; subst iv_; subst rv_
  refine g_cs (q := 95) [aI r1] X (ce_X12_isLetter hK  h) kS_X12_95 rfl rfl (Nat.le_of_ble_eq_true rfl) (by decide) dX12_goesOn_92 rfl (fun r n_ iv_ rv_ hf => ?_)
  obtain ⟨en_, ei_, er_, r2, rfl, br2, h⟩ := hf; subst n_; subst iv_; subst rv_
  refine g_if_eq (q := 98) 147 X dX12_goesOn_95 (by decide) rfl (fun c3 => ?_) (fun c3 => ?_)
  · have h := h.1 c3
    refine g_iload_n (q := 148) 2 X dX12_goesOn_147 rfl rfl rfl ?_
    refine g_bipush (q := 150) 8 X dX12_goesOn_148 rfl bc_8 ic_8 ?_
    refine g_icmp_gt (q := 153) 265 X dX12_goesOn_150 (by decide) rfl (fun c4 => ?_) (fun c4 => ?_)
    · have h := h.1 c4
      exact g_vret (q := 0) X hR dX12_goesOn_265 rfl ⟨rfl, rfl, rfl, h⟩
    · have h := h.2 c4
      refine g_aload_n (q := 154) 0 X dX12_goesOn_153 rfl rfl rfl ?_
      refine g_iconst (q := 155) 2 X dX12_goesOn_154 rfl rfl ic_2 ?_
      refine g_putI (q := 158) 12 9 X (Or.inl rfl) rfl kf_X12_83 (by decide) (by decide) rfl (hK.n (by decide)) dX12_goesOn_155 rfl ?_
      refine g_nmM (fun iv5 eiv5 => ?_)
      have h := h iv5 eiv5
      refine g_goto (q := 265) X dX12_goesOn_158 (by decide) ?_
      exact g_vret (q := 0) X hR dX12_goesOn_265 rfl ⟨rfl, rfl, rfl, h⟩
  · have h := h.2 c3
    refine g_iload_n (q := 99) 2 X dX12_goesOn_98 rfl rfl rfl ?_
    refine g_bipush (q := 101) 8 X dX12_goesOn_99 rfl bc_8 ic_8 ?_
    refine g_icmp_ge (q := 104) 131 X dX12_goesOn_101 (by decide) rfl (fun c6 => ?_) (fun c6 => ?_)
    · have h := h.1 c6
      exact cb_X12_goesOn_131 X hR hK  hP84 h
    · have h := h.2 c6
      refine g_aload_n (q := 105) 0 X dX12_goesOn_104 rfl rfl rfl ?_
      refine g_ldc2 (q := 108) 32 X kl_X12_77 dX12_goesOn_105 rfl (by unfold inL; omega) ?_
      refine g_aload_n (q := 109) 0 X dX12_goesOn_108 rfl rfl rfl ?_
      refine g_getL (q := 112) 12 14 X kf_X12_99 (by decide) (by decide) rfl rfl (hK.n (by decide)) dX12_goesOn_109 rfl ?_
      refine g_lmul (q := 113) X dX12_goesOn_112 rfl ?_
      refine g_aload_n (q := 114) 0 X dX12_goesOn_113 rfl rfl rfl ?_
      refine g_aload_n (q := 115) 0 X dX12_goesOn_114 rfl rfl rfl ?_
      refine g_getI (q := 118) 12 8 X kf_X12_86 (by decide) (by decide) rfl rfl (hK.n (by decide)) dX12_goesOn_115 rfl ?_
      refine g_cv (q := 121) [aI (iv 66 8)] 12 X (ce_X12_byteAt hK  h) kV_X12_89 rfl (by decide) rfl (hK.n (by decide)) rfl rfl (Nat.le_of_ble_eq_true rfl) (by decide) dX12_goesOn_118 rfl (fun r n_ iv_ rv_ hf => ?_)
      obtain ⟨en_, ei_, er_, r7, rfl, h⟩ := hf; subst n_; subst iv_; subst rv_
      refine g_bipush (q := 123) 97 X dX12_goesOn_121 rfl bc_97 ic_97 ?_
      refine g_isub (q := 124) X dX12_goesOn_123 rfl ?_
      refine g_iconst (q := 125) 1 X dX12_goesOn_124 rfl rfl ic_1 ?_
      refine g_iadd (q := 126) X dX12_goesOn_125 rfl ?_
      refine g_i2l (q := 127) X dX12_goesOn_126 rfl ?_
      refine g_ladd (q := 128) X dX12_goesOn_127 rfl ?_
      refine g_putL (q := 131) 12 14 X rfl rfl kf_X12_99 (by decide) (by decide) rfl (hK.n (by decide)) dX12_goesOn_128 rfl ?_
      refine g_nmM (fun iv8 eiv8 => ?_)
      have h := h iv8 eiv8
      exact cb_X12_goesOn_131 X hR hK  hP84 h
def wl_X12_goesOn_84 (l2 : Int) (iv : IV) (rv : RV) (K : IV → Prop) : Prop :=
  ∀ P : Int → IV → Prop, (∀ (l2' : Int) (iv' : IV), bd_X12_goesOn_84  P l2' iv' rv K → P l2' iv') → P l2 iv
theorem cl_X12_goesOn_84 {Γ : GX} {n : Nat} {iv : IV} {rv : RV} {K : IV → Prop} {l2 : Int} (X : Cx Γ RX12 cX12_goesOn 3 1) (hR : Rt Γ none 0 0 (fV1 n rv K)) (hK : Lk n rv)  (h : wl_X12_goesOn_84 l2 iv rv K) : G Γ 3 84 [aR (some 66), aJ, aI l2] [] n iv rv 0 0 := by
  exact h (fun l2' iv' =>  G Γ 3 84 [aR (some 66), aJ, aI (l2')] [] n iv' rv 0 0) (fun l2' iv' hb => cb_X12_goesOn_84 X hR hK   (fun l2' iv' hp => hp) hb)
def bd_X12_goesOn_9 (P9 : IV → Prop) (iv : IV) (rv : RV) (K : IV → Prop) : Prop :=
  wp_X12_byteAt (iv 66 8) iv rv (fun r1 => ((r1 ≠ 32) → (∀ iv3, iv3 = w2 iv 66 10 (iv 66 8) → ∀ iv4, iv4 = w2 iv3 66 9 0 → wp_X12_byteAt (iv4 66 8) iv4 rv (fun r5 => ((r5 ≠ (-1)) → (wp_X12_isLetter r5 iv4 rv (fun r7 => ((r7 = 0) → (wp_X12_isDigit r5 iv4 rv (fun r9 => ((r9 = 0) → (((r5 ≠ 59) → (K iv4)) ∧ ((r5 = 59) → (∀ iv12, iv12 = w2 iv4 66 9 4 → ∀ iv13, iv13 = w2 iv12 66 8 (w32 ((iv12 66 8) + 1)) → K iv13)))) ∧ ((¬ (r9 = 0)) → (∀ iv14, iv14 = w2 iv4 66 11 0 → wl_X12_goesOn_173 0 iv14 rv K))))) ∧ ((¬ (r7 = 0)) → (∀ iv15, iv15 = w2 iv4 66 14 0 → wl_X12_goesOn_84 0 iv15 rv K))))) ∧ ((r5 = (-1)) → (∀ iv16, iv16 = w2 iv4 66 9 1 → K iv16))))) ∧ ((r1 = 32) → (∀ iv17, iv17 = w2 iv 66 8 (w32 ((iv 66 8) + 1)) → P9 iv17)))
set_option maxRecDepth 10000 in
theorem cb_X12_goesOn_9 {Γ : GX} {n : Nat} {iv : IV} {rv : RV} {K : IV → Prop} {P9 : IV → Prop} (X : Cx Γ RX12 cX12_goesOn 3 1) (hR : Rt Γ none 0 0 (fV1 n rv K)) (hK : Lk n rv)  (hP9 : ∀ (iv' : IV), P9 iv' → G Γ 3 9 [aR (some 66), aJ, aJ] [] n iv' rv 0 0) (h : bd_X12_goesOn_9 P9 iv rv K) : G Γ 3 9 [aR (some 66), aJ, aJ] [] n iv rv 0 0 := by
  unfold bd_X12_goesOn_9 at h
  refine g_aload_n (q := 10) 0 X dX12_goesOn_9 rfl rfl rfl ?_
  refine g_aload_n (q := 11) 0 X dX12_goesOn_10 rfl rfl rfl ?_
  refine g_getI (q := 14) 12 8 X kf_X12_86 (by decide) (by decide) rfl rfl (hK.n (by decide)) dX12_goesOn_11 rfl ?_
  refine g_cv (q := 17) [aI (iv 66 8)] 12 X (ce_X12_byteAt hK  h) kV_X12_89 rfl (by decide) rfl (hK.n (by decide)) rfl rfl (Nat.le_of_ble_eq_true rfl) (by decide) dX12_goesOn_14 rfl (fun r n_ iv_ rv_ hf => ?_)
  obtain ⟨en_, ei_, er_, r1, rfl, h⟩ := hf; subst n_; subst iv_; subst rv_
  refine g_bipush (q := 19) 32 X dX12_goesOn_17 rfl bc_32 ic_32 ?_
  refine g_icmp_ne (q := 22) 35 X dX12_goesOn_19 (by decide) rfl (fun c2 => ?_) (fun c2 => ?_)
  · have h := h.1 c2
    refine g_aload_n (q := 36) 0 X dX12_goesOn_35 rfl rfl rfl ?_
    refine g_aload_n (q := 37) 0 X dX12_goesOn_36 rfl rfl rfl ?_
    refine g_getI (q := 40) 12 8 X kf_X12_86 (by decide) (by decide) rfl rfl (hK.n (by decide)) dX12_goesOn_37 rfl ?_
    refine g_putI (q := 43) 12 10 X (Or.inl rfl) rfl kf_X12_92 (by decide) (by decide) rfl (hK.n (by decide)) dX12_goesOn_40 rfl ?_
    refine g_nmM (fun iv3 eiv3 => ?_)
    have h := h iv3 eiv3
    refine g_aload_n (q := 44) 0 X dX12_goesOn_43 rfl rfl rfl ?_
    refine g_iconst (q := 45) 0 X dX12_goesOn_44 rfl rfl ic_0 ?_
    refine g_putI (q := 48) 12 9 X (Or.inl rfl) rfl kf_X12_83 (by decide) (by decide) rfl (hK.n (by decide)) dX12_goesOn_45 rfl ?_
    refine g_nmM (fun iv4 eiv4 => ?_)
    have h := h iv4 eiv4
    refine g_aload_n (q := 49) 0 X dX12_goesOn_48 rfl rfl rfl ?_
    refine g_aload_n (q := 50) 0 X dX12_goesOn_49 rfl rfl rfl ?_
    refine g_getI (q := 53) 12 8 X kf_X12_86 (by decide) (by decide) rfl rfl (hK.n (by decide)) dX12_goesOn_50 rfl ?_
    refine g_cv (q := 56) [aI (iv4 66 8)] 12 X (ce_X12_byteAt hK  h) kV_X12_89 rfl (by decide) rfl (hK.n (by decide)) rfl rfl (Nat.le_of_ble_eq_true rfl) (by decide) dX12_goesOn_53 rfl (fun r n_ iv_ rv_ hf => ?_)
    obtain ⟨en_, ei_, er_, r5, rfl, h⟩ := hf; subst n_; subst iv_; subst rv_
    refine g_istore_n (q := 57) 1 (L' := [aR (some 66), aI r5, aJ]) X dX12_goesOn_56 rfl rfl (by decide) rfl rfl ?_
    refine g_iconst (q := 58) 0 X dX12_goesOn_57 rfl rfl ic_0 ?_
    refine g_istore_n (q := 59) 2 (L' := [aR (some 66), aI r5, aI 0]) X dX12_goesOn_58 rfl rfl (by decide) rfl rfl ?_
    refine g_iload_n (q := 60) 1 X dX12_goesOn_59 rfl rfl rfl ?_
    refine g_iconst (q := 61) (-1) X dX12_goesOn_60 rfl rfl ic_m1 ?_
    refine g_icmp_ne (q := 64) 72 X dX12_goesOn_61 (by decide) rfl (fun c6 => ?_) (fun c6 => ?_)
    · have h := h.1 c6
      refine g_iload_n (q := 73) 1 X dX12_goesOn_72 rfl rfl rfl ?_
      refine g_cs (q := 76) [aI r5] X (ce_X12_isLetter hK  h) kS_X12_95 rfl rfl (Nat.le_of_ble_eq_true rfl) (by decide) dX12_goesOn_73 rfl (fun r n_ iv_ rv_ hf => ?_)
      obtain ⟨en_, ei_, er_, r7, rfl, br7, h⟩ := hf; subst n_; subst iv_; subst rv_
      refine g_if_eq (q := 79) 161 X dX12_goesOn_76 (by decide) rfl (fun c8 => ?_) (fun c8 => ?_)
      · have h := h.1 c8
        refine g_iload_n (q := 162) 1 X dX12_goesOn_161 rfl rfl rfl ?_
        refine g_cs (q := 165) [aI r5] X (ce_X12_isDigit hK  h) kS_X12_103 rfl rfl (Nat.le_of_ble_eq_true rfl) (by decide) dX12_goesOn_162 rfl (fun r n_ iv_ rv_ hf => ?_)
        obtain ⟨en_, ei_, er_, r9, rfl, br9, h⟩ := hf; subst n_; subst iv_; subst rv_
        refine g_if_eq (q := 168) 244 X dX12_goesOn_165 (by decide) rfl (fun c10 => ?_) (fun c10 => ?_)
        · have h := h.1 c10
          refine g_iload_n (q := 245) 1 X dX12_goesOn_244 rfl rfl rfl ?_
          refine g_bipush (q := 247) 59 X dX12_goesOn_245 rfl bc_59 ic_59 ?_
          refine g_icmp_ne (q := 250) 265 X dX12_goesOn_247 (by decide) rfl (fun c11 => ?_) (fun c11 => ?_)
          · have h := h.1 c11
            exact g_vret (q := 0) X hR dX12_goesOn_265 rfl ⟨rfl, rfl, rfl, h⟩
          · have h := h.2 c11
            refine g_aload_n (q := 251) 0 X dX12_goesOn_250 rfl rfl rfl ?_
            refine g_iconst (q := 252) 4 X dX12_goesOn_251 rfl rfl ic_4 ?_
            refine g_putI (q := 255) 12 9 X (Or.inl rfl) rfl kf_X12_83 (by decide) (by decide) rfl (hK.n (by decide)) dX12_goesOn_252 rfl ?_
            refine g_nmM (fun iv12 eiv12 => ?_)
            have h := h iv12 eiv12
            refine g_aload_n (q := 256) 0 X dX12_goesOn_255 rfl rfl rfl ?_
            refine g_dup (q := 257) X dX12_goesOn_256 rfl rfl ?_
            refine g_getI (q := 260) 12 8 X kf_X12_86 (by decide) (by decide) rfl rfl (hK.n (by decide)) dX12_goesOn_257 rfl ?_
            refine g_iconst (q := 261) 1 X dX12_goesOn_260 rfl rfl ic_1 ?_
            refine g_iadd (q := 262) X dX12_goesOn_261 rfl ?_
            refine g_putI (q := 265) 12 8 X (Or.inl rfl) rfl kf_X12_86 (by decide) (by decide) rfl (hK.n (by decide)) dX12_goesOn_262 rfl ?_
            refine g_nmM (fun iv13 eiv13 => ?_)
            have h := h iv13 eiv13
            exact g_vret (q := 0) X hR dX12_goesOn_265 rfl ⟨rfl, rfl, rfl, h⟩
        · have h := h.2 c10
          refine g_aload_n (q := 169) 0 X dX12_goesOn_168 rfl rfl rfl ?_
          refine g_iconst (q := 170) 0 X dX12_goesOn_169 rfl rfl ic_0 ?_
          refine g_putI (q := 173) 12 11 X (Or.inl rfl) rfl kf_X12_106 (by decide) (by decide) rfl (hK.n (by decide)) dX12_goesOn_170 rfl ?_
          refine g_nmM (fun iv14 eiv14 => ?_)
          have h := h iv14 eiv14
          refine g_sub (L' := [aR (some 66), aJ, aI 0]) ⟨Or.inr rfl, Or.inl rfl, Or.inr rfl, trivial⟩ ?_
          exact cl_X12_goesOn_173 X hR hK   h
      · have h := h.2 c8
        refine g_aload_n (q := 80) 0 X dX12_goesOn_79 rfl rfl rfl ?_
        refine g_lconst (q := 81) 0 X dX12_goesOn_80 rfl rfl (by unfold inL; omega) ?_
        refine g_putL (q := 84) 12 14 X rfl rfl kf_X12_99 (by decide) (by decide) rfl (hK.n (by decide)) dX12_goesOn_81 rfl ?_
        refine g_nmM (fun iv15 eiv15 => ?_)
        have h := h iv15 eiv15
        refine g_sub (L' := [aR (some 66), aJ, aI 0]) ⟨Or.inr rfl, Or.inl rfl, Or.inr rfl, trivial⟩ ?_
        exact cl_X12_goesOn_84 X hR hK   h
    · have h := h.2 c6
      refine g_aload_n (q := 65) 0 X dX12_goesOn_64 rfl rfl rfl ?_
      refine g_iconst (q := 66) 1 X dX12_goesOn_65 rfl rfl ic_1 ?_
      refine g_putI (q := 69) 12 9 X (Or.inl rfl) rfl kf_X12_83 (by decide) (by decide) rfl (hK.n (by decide)) dX12_goesOn_66 rfl ?_
      refine g_nmM (fun iv16 eiv16 => ?_)
      have h := h iv16 eiv16
      refine g_goto (q := 265) X dX12_goesOn_69 (by decide) ?_
      exact g_vret (q := 0) X hR dX12_goesOn_265 rfl ⟨rfl, rfl, rfl, h⟩
  · have h := h.2 c2
    refine g_aload_n (q := 23) 0 X dX12_goesOn_22 rfl rfl rfl ?_
    refine g_dup (q := 24) X dX12_goesOn_23 rfl rfl ?_
    refine g_getI (q := 27) 12 8 X kf_X12_86 (by decide) (by decide) rfl rfl (hK.n (by decide)) dX12_goesOn_24 rfl ?_
    refine g_iconst (q := 28) 1 X dX12_goesOn_27 rfl rfl ic_1 ?_
    refine g_iadd (q := 29) X dX12_goesOn_28 rfl ?_
    refine g_putI (q := 32) 12 8 X (Or.inl rfl) rfl kf_X12_86 (by decide) (by decide) rfl (hK.n (by decide)) dX12_goesOn_29 rfl ?_
    refine g_nmM (fun iv17 eiv17 => ?_)
    have h := h iv17 eiv17
    refine g_goto (q := 9) X dX12_goesOn_32 (by decide) ?_
    exact hP9 _ h
def wl_X12_goesOn_9 (iv : IV) (rv : RV) (K : IV → Prop) : Prop :=
  ∀ P : IV → Prop, (∀ (iv' : IV), bd_X12_goesOn_9  P  iv' rv K → P iv') → P iv
theorem cl_X12_goesOn_9 {Γ : GX} {n : Nat} {iv : IV} {rv : RV} {K : IV → Prop} (X : Cx Γ RX12 cX12_goesOn 3 1) (hR : Rt Γ none 0 0 (fV1 n rv K)) (hK : Lk n rv)  (h : wl_X12_goesOn_9 iv rv K) : G Γ 3 9 [aR (some 66), aJ, aJ] [] n iv rv 0 0 := by
  exact h (fun iv' =>  G Γ 3 9 [aR (some 66), aJ, aJ] [] n iv' rv 0 0) (fun iv' hb => cb_X12_goesOn_9 X hR hK   (fun iv' hp => hp) hb)
def wp_X12_goesOn (iv : IV) (rv : RV) (K : IV → Prop) : Prop :=
  (((iv 66 9) ≠ 5) → (wl_X12_goesOn_9 iv rv K)) ∧ (((iv 66 9) = 5) → (K iv))
set_option maxRecDepth 10000 in
theorem ce_X12_goesOn {n : Nat} {iv : IV} {rv : RV} {K : IV → Prop} (hK : Lk n rv)  (h : wp_X12_goesOn  iv rv K) : Call 1 0 0 yX12_goesOn cX12_goesOn 3 none [aR (some 66)] n iv rv (fV1 n rv K) := by
  refine Call.by (L := [aR (some 66), aJ, aJ]) (by decide) rfl ⟨trivial, trivial⟩ rfl (Nat.le_of_ble_eq_true rfl) (fun Γ X hR => ?_)
  unfold wp_X12_goesOn at h
  refine g_aload_n (q := 1) 0 X dX12_goesOn_0 rfl rfl rfl ?_
  refine g_getI (q := 4) 12 9 X kf_X12_83 (by decide) (by decide) rfl rfl (hK.n (by decide)) dX12_goesOn_1 rfl ?_
  refine g_iconst (q := 5) 5 X dX12_goesOn_4 rfl rfl ic_5 ?_
  refine g_icmp_ne (q := 8) 9 X dX12_goesOn_5 (by decide) rfl (fun c1 => ?_) (fun c1 => ?_)
  · have h := h.1 c1
    exact cl_X12_goesOn_9 X hR hK   h
  · have h := h.2 c1
    exact g_vret (q := 0) X hR dX12_goesOn_8 rfl ⟨rfl, rfl, rfl, h⟩
def wp_X12_wrong (a1 : Int) (iv : IV) (rv : RV) (K : IV → Prop) : Prop :=
  (((iv 66 9) ≠ 5) → (∀ iv2, iv2 = w2 iv 66 12 a1 → ∀ iv3, iv3 = w2 iv2 66 13 (iv2 66 10) → ∀ iv4, iv4 = w2 iv3 66 9 5 → K iv4)) ∧ (((iv 66 9) = 5) → (K iv))
set_option maxRecDepth 10000 in
theorem ce_X12_wrong {n : Nat} {iv : IV} {rv : RV} {K : IV → Prop} {a1 : Int} (hK : Lk n rv)  (h : wp_X12_wrong a1 iv rv K) : Call 0 0 0 yX12_wrong cX12_wrong 2 none [aR (some 66), aI a1] n iv rv (fV1 n rv K) := by
  refine Call.by (L := [aR (some 66), aI a1]) (by decide) rfl ⟨trivial, trivial, trivial⟩ rfl (Nat.le_of_ble_eq_true rfl) (fun Γ X hR => ?_)
  unfold wp_X12_wrong at h
  refine g_aload_n (q := 1) 0 X dX12_wrong_0 rfl rfl rfl ?_
  refine g_getI (q := 4) 12 9 X kf_X12_83 (by decide) (by decide) rfl rfl (hK.n (by decide)) dX12_wrong_1 rfl ?_
  refine g_iconst (q := 5) 5 X dX12_wrong_4 rfl rfl ic_5 ?_
  refine g_icmp_ne (q := 8) 9 X dX12_wrong_5 (by decide) rfl (fun c1 => ?_) (fun c1 => ?_)
  · have h := h.1 c1
    refine g_aload_n (q := 10) 0 X dX12_wrong_9 rfl rfl rfl ?_
    refine g_iload_n (q := 11) 1 X dX12_wrong_10 rfl rfl rfl ?_
    refine g_putI (q := 14) 12 12 X (Or.inl rfl) rfl kf_X12_109 (by decide) (by decide) rfl (hK.n (by decide)) dX12_wrong_11 rfl ?_
    refine g_nmM (fun iv2 eiv2 => ?_)
    have h := h iv2 eiv2
    refine g_aload_n (q := 15) 0 X dX12_wrong_14 rfl rfl rfl ?_
    refine g_aload_n (q := 16) 0 X dX12_wrong_15 rfl rfl rfl ?_
    refine g_getI (q := 19) 12 10 X kf_X12_92 (by decide) (by decide) rfl rfl (hK.n (by decide)) dX12_wrong_16 rfl ?_
    refine g_putI (q := 22) 12 13 X (Or.inl rfl) rfl kf_X12_112 (by decide) (by decide) rfl (hK.n (by decide)) dX12_wrong_19 rfl ?_
    refine g_nmM (fun iv3 eiv3 => ?_)
    have h := h iv3 eiv3
    refine g_aload_n (q := 23) 0 X dX12_wrong_22 rfl rfl rfl ?_
    refine g_iconst (q := 24) 5 X dX12_wrong_23 rfl rfl ic_5 ?_
    refine g_putI (q := 27) 12 9 X (Or.inl rfl) rfl kf_X12_83 (by decide) (by decide) rfl (hK.n (by decide)) dX12_wrong_24 rfl ?_
    refine g_nmM (fun iv4 eiv4 => ?_)
    have h := h iv4 eiv4
    exact g_vret (q := 0) X hR dX12_wrong_27 rfl ⟨rfl, rfl, rfl, h⟩
  · have h := h.2 c1
    exact g_vret (q := 0) X hR dX12_wrong_8 rfl ⟨rfl, rfl, rfl, h⟩
def wp_X12_isWord (w1 : Nat) (iv : IV) (rv : RV) (K : Int → Prop) : Prop :=
  (((iv 66 9) ≠ 2) → (K 0)) ∧ (((iv 66 9) = 2) → (wp_X12_wordOf w1 iv rv (fun r2 => (((if r2 < iv 66 14 then 1 else if iv 66 14 = r2 then 0 else -1) ≠ 0) → (K 0)) ∧ (((if r2 < iv 66 14 then 1 else if iv 66 14 = r2 then 0 else -1) = 0) → (K 1)))))
set_option maxRecDepth 10000 in
theorem ce_X12_isWord {n : Nat} {iv : IV} {rv : RV} {K : Int → Prop} {w1 : Nat} (hK : Lk n rv) (hw_w1 : w1 < 51) (h : wp_X12_isWord w1 iv rv K) : Call 5 0 0 yX12_isWord cX12_isWord 2 (some .boolean) [aR (some 66), aR (some (1000 + w1))] n iv rv (fB0 n iv rv K) := by
  refine Call.by (L := [aR (some 66), aR (some (1000 + w1))]) (by decide) rfl ⟨trivial, trivial, trivial⟩ rfl (Nat.le_of_ble_eq_true rfl) (fun Γ X hR => ?_)
  unfold wp_X12_isWord at h
  refine g_aload_n (q := 1) 0 X dX12_isWord_0 rfl rfl rfl ?_
  refine g_getI (q := 4) 12 9 X kf_X12_83 (by decide) (by decide) rfl rfl (hK.n (by decide)) dX12_isWord_1 rfl ?_
  refine g_iconst (q := 5) 2 X dX12_isWord_4 rfl rfl ic_2 ?_
  refine g_icmp_ne (q := 8) 24 X dX12_isWord_5 (by decide) rfl (fun c1 => ?_) (fun c1 => ?_)
  · have h := h.1 c1
    refine g_iconst (q := 25) 0 X dX12_isWord_24 rfl rfl ic_0 ?_
    exact g_zret (q := 0) .boolean X hR (nar_B (Or.inl rfl)) dX12_isWord_25 rfl ⟨rfl, rfl, rfl, _, rfl, (Or.inl rfl), h⟩
  · have h := h.2 c1
    refine g_aload_n (q := 9) 0 X dX12_isWord_8 rfl rfl rfl ?_
    refine g_getL (q := 12) 12 14 X kf_X12_99 (by decide) (by decide) rfl rfl (hK.n (by decide)) dX12_isWord_9 rfl ?_
    refine g_aload_n (q := 13) 1 X dX12_isWord_12 rfl rfl rfl ?_
    refine g_cs (q := 16) [aR (some (1000 + w1))] X (ce_X12_wordOf hK hw_w1 h) kS_X12_115 rfl rfl (Nat.le_of_ble_eq_true rfl) (by decide) dX12_isWord_13 rfl (fun r n_ iv_ rv_ hf => ?_)
    obtain ⟨en_, ei_, er_, r2, rfl, h⟩ := hf; subst n_; subst iv_; subst rv_
    refine g_lcmp (q := 17) X dX12_isWord_16 rfl ?_
    refine g_if_ne (q := 20) 24 X dX12_isWord_17 (by decide) rfl (fun c3 => ?_) (fun c3 => ?_)
    · have h := h.1 c3
      refine g_iconst (q := 25) 0 X dX12_isWord_24 rfl rfl ic_0 ?_
      exact g_zret (q := 0) .boolean X hR (nar_B (Or.inl rfl)) dX12_isWord_25 rfl ⟨rfl, rfl, rfl, _, rfl, (Or.inl rfl), h⟩
    · have h := h.2 c3
      refine g_iconst (q := 21) 1 X dX12_isWord_20 rfl rfl ic_1 ?_
      refine g_goto (q := 25) X dX12_isWord_21 (by decide) ?_
      exact g_zret (q := 0) .boolean X hR (nar_B (Or.inr rfl)) dX12_isWord_25 rfl ⟨rfl, rfl, rfl, _, rfl, (Or.inr rfl), h⟩
def wp_X12_eats (w1 : Nat) (iv : IV) (rv : RV) (K : Int → IV → Prop) : Prop :=
  wp_X12_isWord w1 iv rv (fun r1 => ((r1 = 0) → (K r1 iv)) ∧ ((¬ (r1 = 0)) → (wp_X12_goesOn iv rv (fun iv3 => K r1 iv3))))
set_option maxRecDepth 10000 in
theorem ce_X12_eats {n : Nat} {iv : IV} {rv : RV} {K : Int → IV → Prop} {w1 : Nat} (hK : Lk n rv) (hw_w1 : w1 < 51) (h : wp_X12_eats w1 iv rv K) : Call 6 0 0 yX12_eats cX12_eats 3 (some .boolean) [aR (some 66), aR (some (1000 + w1))] n iv rv (fB1 n rv K) := by
  refine Call.by (L := [aR (some 66), aR (some (1000 + w1)), aJ]) (by decide) rfl ⟨trivial, trivial, trivial⟩ rfl (Nat.le_of_ble_eq_true rfl) (fun Γ X hR => ?_)
  unfold wp_X12_eats at h
  refine g_aload_n (q := 1) 0 X dX12_eats_0 rfl rfl rfl ?_
  refine g_aload_n (q := 2) 1 X dX12_eats_1 rfl rfl rfl ?_
  refine g_cv (q := 5) [aR (some (1000 + w1))] 12 X (ce_X12_isWord hK hw_w1 h) kV_X12_119 rfl (by decide) rfl (hK.n (by decide)) rfl rfl (Nat.le_of_ble_eq_true rfl) (by decide) dX12_eats_2 rfl (fun r n_ iv_ rv_ hf => ?_)
  obtain ⟨en_, ei_, er_, r1, rfl, br1, h⟩ := hf; subst n_; subst iv_; subst rv_
  refine g_istore_n (q := 6) 2 (L' := [aR (some 66), aR (some (1000 + w1)), aI r1]) X dX12_eats_5 rfl rfl (by decide) rfl rfl ?_
  refine g_iload_n (q := 7) 2 X dX12_eats_6 rfl rfl rfl ?_
  refine g_if_eq (q := 10) 14 X dX12_eats_7 (by decide) rfl (fun c2 => ?_) (fun c2 => ?_)
  · have h := h.1 c2
    refine g_iload_n (q := 15) 2 X dX12_eats_14 rfl rfl rfl ?_
    exact g_zret (q := 0) .boolean X hR (nar_B br1) dX12_eats_15 rfl ⟨rfl, rfl, _, rfl, br1, h⟩
  · have h := h.2 c2
    refine g_aload_n (q := 11) 0 X dX12_eats_10 rfl rfl rfl ?_
    refine g_cv (q := 14) [] 12 X (ce_X12_goesOn hK  h) kV_X12_123 rfl (by decide) rfl (hK.n (by decide)) rfl rfl (Nat.le_of_ble_eq_true rfl) (by decide) dX12_eats_11 rfl (fun r n_ iv_ rv_ hf => ?_)
    obtain ⟨en_, er_, rfl, h⟩ := hf; subst n_; subst rv_
    generalize iv_ = iv3 at h ⊢
    refine g_iload_n (q := 15) 2 X dX12_eats_14 rfl rfl rfl ?_
    exact g_zret (q := 0) .boolean X hR (nar_B br1) dX12_eats_15 rfl ⟨rfl, rfl, _, rfl, br1, h⟩
def bd_X12_needs_13 (w1 : Nat) (iv : IV) (rv : RV) (K : IV → Prop) : Prop :=
  wp_X12_goesOn iv rv (fun iv1 => K iv1)
set_option maxRecDepth 10000 in
theorem cb_X12_needs_13 {Γ : GX} {n : Nat} {iv : IV} {rv : RV} {K : IV → Prop} {w1 : Nat} (X : Cx Γ RX12 cX12_needs 2 6) (hR : Rt Γ none 0 0 (fV1 n rv K)) (hK : Lk n rv) (hw_w1 : w1 < 51) (h : bd_X12_needs_13 w1 iv rv K) : G Γ 2 13 [aR (some 66), aJ] [] n iv rv 0 0 := by
  unfold bd_X12_needs_13 at h
  refine g_aload_n (q := 14) 0 X dX12_needs_13 rfl rfl rfl ?_
  refine g_cv (q := 17) [] 12 X (ce_X12_goesOn hK  h) kV_X12_123 rfl (by decide) rfl (hK.n (by decide)) rfl rfl (Nat.le_of_ble_eq_true rfl) (by decide) dX12_needs_14 rfl (fun r n_ iv_ rv_ hf => ?_)
  obtain ⟨en_, er_, rfl, h⟩ := hf; subst n_; subst rv_
  generalize iv_ = iv1 at h ⊢
  exact g_vret (q := 0) X hR dX12_needs_17 rfl ⟨rfl, rfl, rfl, h⟩
def wp_X12_needs (w1 : Nat) (iv : IV) (rv : RV) (K : IV → Prop) : Prop :=
  wp_X12_isWord w1 iv rv (fun r1 => ((r1 ≠ 0) → (bd_X12_needs_13 w1 iv rv K)) ∧ ((r1 = 0) → (wp_X12_wrong 1 iv rv (fun iv3 => bd_X12_needs_13 w1 iv3 rv K))))
set_option maxRecDepth 10000 in
theorem ce_X12_needs {n : Nat} {iv : IV} {rv : RV} {K : IV → Prop} {w1 : Nat} (hK : Lk n rv) (hw_w1 : w1 < 51) (h : wp_X12_needs w1 iv rv K) : Call 6 0 0 yX12_needs cX12_needs 2 none [aR (some 66), aR (some (1000 + w1))] n iv rv (fV1 n rv K) := by
  refine Call.by (L := [aR (some 66), aR (some (1000 + w1))]) (by decide) rfl ⟨trivial, trivial, trivial⟩ rfl (Nat.le_of_ble_eq_true rfl) (fun Γ X hR => ?_)
  unfold wp_X12_needs at h
  refine g_aload_n (q := 1) 0 X dX12_needs_0 rfl rfl rfl ?_
  refine g_aload_n (q := 2) 1 X dX12_needs_1 rfl rfl rfl ?_
  refine g_cv (q := 5) [aR (some (1000 + w1))] 12 X (ce_X12_isWord hK hw_w1 h) kV_X12_119 rfl (by decide) rfl (hK.n (by decide)) rfl rfl (Nat.le_of_ble_eq_true rfl) (by decide) dX12_needs_2 rfl (fun r n_ iv_ rv_ hf => ?_)
  obtain ⟨en_, ei_, er_, r1, rfl, br1, h⟩ := hf; subst n_; subst iv_; subst rv_
  refine g_if_ne (q := 8) 13 X dX12_needs_5 (by decide) rfl (fun c2 => ?_) (fun c2 => ?_)
  · have h := h.1 c2
    refine g_sub (L' := [aR (some 66), aJ]) ⟨Or.inr rfl, Or.inl rfl, trivial⟩ ?_
    exact cb_X12_needs_13 X hR hK hw_w1  h
  · have h := h.2 c2
    refine g_aload_n (q := 9) 0 X dX12_needs_8 rfl rfl rfl ?_
    refine g_iconst (q := 10) 1 X dX12_needs_9 rfl rfl ic_1 ?_
    refine g_cv (q := 13) [aI 1] 12 X (ce_X12_wrong hK  h) kV_X12_126 rfl (by decide) rfl (hK.n (by decide)) rfl rfl (Nat.le_of_ble_eq_true rfl) (by decide) dX12_needs_10 rfl (fun r n_ iv_ rv_ hf => ?_)
    obtain ⟨en_, er_, rfl, h⟩ := hf; subst n_; subst rv_
    generalize iv_ = iv3 at h ⊢
    refine g_sub (L' := [aR (some 66), aJ]) ⟨Or.inr rfl, Or.inl rfl, trivial⟩ ?_
    exact cb_X12_needs_13 X hR hK hw_w1  h
def bd_X12_readWhole_33 (iv : IV) (rv : RV) (K : Int → IV → Prop) : Prop :=
  ∀ x1, x1 = iv 66 11 → wp_X12_goesOn iv rv (fun iv2 => K x1 iv2)
set_option maxRecDepth 10000 in
theorem cb_X12_readWhole_33 {Γ : GX} {n : Nat} {iv : IV} {rv : RV} {K : Int → IV → Prop} (X : Cx Γ RX12 cX12_readWhole 4 2) (hR : Rt Γ (some .int) 0 0 (fI1 n rv K)) (hK : Lk n rv)  (h : bd_X12_readWhole_33 iv rv K) : G Γ 4 33 [aR (some 66), aJ, aJ, aJ] [] n iv rv 0 0 := by
  unfold bd_X12_readWhole_33 at h
  refine g_aload_n (q := 34) 0 X dX12_readWhole_33 rfl rfl rfl ?_
  refine g_getI (q := 37) 12 11 X kf_X12_106 (by decide) (by decide) rfl rfl (hK.n (by decide)) dX12_readWhole_34 rfl ?_
  refine g_nmI (fun x1 ex1 => ?_)
  have h := h x1 ex1
  refine g_istore_n (q := 38) 3 (L' := [aR (some 66), aJ, aJ, aI x1]) X dX12_readWhole_37 rfl rfl (by decide) rfl rfl ?_
  refine g_aload_n (q := 39) 0 X dX12_readWhole_38 rfl rfl rfl ?_
  refine g_cv (q := 42) [] 12 X (ce_X12_goesOn hK  h) kV_X12_123 rfl (by decide) rfl (hK.n (by decide)) rfl rfl (Nat.le_of_ble_eq_true rfl) (by decide) dX12_readWhole_39 rfl (fun r n_ iv_ rv_ hf => ?_)
  obtain ⟨en_, er_, rfl, h⟩ := hf; subst n_; subst rv_
  generalize iv_ = iv2 at h ⊢
  refine g_iload_n (q := 43) 3 X dX12_readWhole_42 rfl rfl rfl ?_
  exact g_iret (q := 0) X hR dX12_readWhole_43 rfl ⟨rfl, rfl, _, rfl, h⟩
def wp_X12_readWhole (a1 : Int) (a2 : Int) (iv : IV) (rv : RV) (K : Int → IV → Prop) : Prop :=
  (((iv 66 9) = 3) → (wp_X12_in (iv 66 11) a1 a2 iv rv (fun r2 => ((r2 ≠ 0) → (bd_X12_readWhole_33 iv rv K)) ∧ ((r2 = 0) → (wp_X12_wrong 4 iv rv (fun iv4 => bd_X12_readWhole_33 iv4 rv K)))))) ∧ ((¬ ((iv 66 9) = 3)) → (wp_X12_wrong 1 iv rv (fun iv5 => bd_X12_readWhole_33 iv5 rv K)))
set_option maxRecDepth 10000 in
theorem ce_X12_readWhole {n : Nat} {iv : IV} {rv : RV} {K : Int → IV → Prop} {a1 : Int} {a2 : Int} (hK : Lk n rv)  (h : wp_X12_readWhole a1 a2 iv rv K) : Call 2 0 0 yX12_readWhole cX12_readWhole 4 (some .int) [aR (some 66), aI a1, aI a2] n iv rv (fI1 n rv K) := by
  refine Call.by (L := [aR (some 66), aI a1, aI a2, aJ]) (by decide) rfl ⟨trivial, trivial, trivial, trivial⟩ rfl (Nat.le_of_ble_eq_true rfl) (fun Γ X hR => ?_)
  unfold wp_X12_readWhole at h
  refine g_aload_n (q := 1) 0 X dX12_readWhole_0 rfl rfl rfl ?_
  refine g_getI (q := 4) 12 9 X kf_X12_83 (by decide) (by decide) rfl rfl (hK.n (by decide)) dX12_readWhole_1 rfl ?_
  refine g_iconst (q := 5) 3 X dX12_readWhole_4 rfl rfl ic_3 ?_
  refine g_icmp_eq (q := 8) 16 X dX12_readWhole_5 (by decide) rfl (fun c1 => ?_) (fun c1 => ?_)
  · have h := h.1 c1
    refine g_aload_n (q := 17) 0 X dX12_readWhole_16 rfl rfl rfl ?_
    refine g_getI (q := 20) 12 11 X kf_X12_106 (by decide) (by decide) rfl rfl (hK.n (by decide)) dX12_readWhole_17 rfl ?_
    refine g_iload_n (q := 21) 1 X dX12_readWhole_20 rfl rfl rfl ?_
    refine g_iload_n (q := 22) 2 X dX12_readWhole_21 rfl rfl rfl ?_
    refine g_cs (q := 25) [aI (iv 66 11), aI a1, aI a2] X (ce_X12_in hK  h) kS_X12_130 rfl rfl (Nat.le_of_ble_eq_true rfl) (by decide) dX12_readWhole_22 rfl (fun r n_ iv_ rv_ hf => ?_)
    obtain ⟨en_, ei_, er_, r2, rfl, br2, h⟩ := hf; subst n_; subst iv_; subst rv_
    refine g_if_ne (q := 28) 33 X dX12_readWhole_25 (by decide) rfl (fun c3 => ?_) (fun c3 => ?_)
    · have h := h.1 c3
      refine g_sub (L' := [aR (some 66), aJ, aJ, aJ]) ⟨Or.inr rfl, Or.inl rfl, Or.inl rfl, Or.inl rfl, trivial⟩ ?_
      exact cb_X12_readWhole_33 X hR hK   h
    · have h := h.2 c3
      refine g_aload_n (q := 29) 0 X dX12_readWhole_28 rfl rfl rfl ?_
      refine g_iconst (q := 30) 4 X dX12_readWhole_29 rfl rfl ic_4 ?_
      refine g_cv (q := 33) [aI 4] 12 X (ce_X12_wrong hK  h) kV_X12_126 rfl (by decide) rfl (hK.n (by decide)) rfl rfl (Nat.le_of_ble_eq_true rfl) (by decide) dX12_readWhole_30 rfl (fun r n_ iv_ rv_ hf => ?_)
      obtain ⟨en_, er_, rfl, h⟩ := hf; subst n_; subst rv_
      generalize iv_ = iv4 at h ⊢
      refine g_sub (L' := [aR (some 66), aJ, aJ, aJ]) ⟨Or.inr rfl, Or.inl rfl, Or.inl rfl, Or.inl rfl, trivial⟩ ?_
      exact cb_X12_readWhole_33 X hR hK   h
  · have h := h.2 c1
    refine g_aload_n (q := 9) 0 X dX12_readWhole_8 rfl rfl rfl ?_
    refine g_iconst (q := 10) 1 X dX12_readWhole_9 rfl rfl ic_1 ?_
    refine g_cv (q := 13) [aI 1] 12 X (ce_X12_wrong hK  h) kV_X12_126 rfl (by decide) rfl (hK.n (by decide)) rfl rfl (Nat.le_of_ble_eq_true rfl) (by decide) dX12_readWhole_10 rfl (fun r n_ iv_ rv_ hf => ?_)
    obtain ⟨en_, er_, rfl, h⟩ := hf; subst n_; subst rv_
    generalize iv_ = iv5 at h ⊢
    refine g_goto (q := 33) X dX12_readWhole_13 (by decide) ?_
    refine g_sub (L' := [aR (some 66), aJ, aJ, aJ]) ⟨Or.inr rfl, Or.inl rfl, Or.inl rfl, Or.inl rfl, trivial⟩ ?_
    exact cb_X12_readWhole_33 X hR hK   h
def wp_X12_isName (iv : IV) (rv : RV) (K : Int → Prop) : Prop :=
  (((iv 66 9) = 2) → (wp_X12_isWord 39 iv rv (fun r2 => ((r2 ≠ 0) → (K 0)) ∧ ((r2 = 0) → (wp_X12_isWord 17 iv rv (fun r4 => ((r4 ≠ 0) → (K 0)) ∧ ((r4 = 0) → (wp_X12_isWord 25 iv rv (fun r6 => ((r6 ≠ 0) → (K 0)) ∧ ((r6 = 0) → (wp_X12_isWord 43 iv rv (fun r8 => ((r8 ≠ 0) → (K 0)) ∧ ((r8 = 0) → (wp_X12_isWord 5 iv rv (fun r10 => ((r10 ≠ 0) → (K 0)) ∧ ((r10 = 0) → (wp_X12_isWord 47 iv rv (fun r12 => ((r12 ≠ 0) → (K 0)) ∧ ((r12 = 0) → (wp_X12_isWord 14 iv rv (fun r14 => ((r14 = 0) → (wp_X12_isWord 2 iv rv (fun r16 => ((r16 ≠ 0) → (K 0)) ∧ ((r16 = 0) → (wp_X12_isWord 42 iv rv (fun r18 => ((r18 ≠ 0) → (K 0)) ∧ ((r18 = 0) → (wp_X12_isWord 24 iv rv (fun r20 => ((r20 ≠ 0) → (K 0)) ∧ ((r20 = 0) → (wp_X12_isWord 19 iv rv (fun r22 => ((r22 ≠ 0) → (K 0)) ∧ ((r22 = 0) → (wp_X12_isWord 7 iv rv (fun r24 => ((r24 ≠ 0) → (K 0)) ∧ ((r24 = 0) → (wp_X12_isWord 1 iv rv (fun r26 => ((r26 ≠ 0) → (K 0)) ∧ ((r26 = 0) → (wp_X12_isWord 48 iv rv (fun r28 => ((r28 ≠ 0) → (K 0)) ∧ ((r28 = 0) → (wp_X12_isWord 9 iv rv (fun r30 => ((r30 ≠ 0) → (K 0)) ∧ ((r30 = 0) → (K 1)))))))))))))))))))))))))) ∧ ((¬ (r14 = 0)) → (K 0))))))))))))))))))))))) ∧ ((¬ ((iv 66 9) = 2)) → (K 0))
set_option maxRecDepth 10000 in
theorem ce_X12_isName {n : Nat} {iv : IV} {rv : RV} {K : Int → Prop} (hK : Lk n rv)  (h : wp_X12_isName  iv rv K) : Call 6 0 0 yX12_isName cX12_isName 1 (some .boolean) [aR (some 66)] n iv rv (fB0 n iv rv K) := by
  refine Call.by (L := [aR (some 66)]) (by decide) rfl ⟨trivial, trivial⟩ rfl (Nat.le_of_ble_eq_true rfl) (fun Γ X hR => ?_)
  unfold wp_X12_isName at h
  refine g_aload_n (q := 1) 0 X dX12_isName_0 rfl rfl rfl ?_
  refine g_getI (q := 4) 12 9 X kf_X12_83 (by decide) (by decide) rfl rfl (hK.n (by decide)) dX12_isName_1 rfl ?_
  refine g_iconst (q := 5) 2 X dX12_isName_4 rfl rfl ic_2 ?_
  refine g_icmp_eq (q := 8) 10 X dX12_isName_5 (by decide) rfl (fun c1 => ?_) (fun c1 => ?_)
  · have h := h.1 c1
    refine g_aload_n (q := 11) 0 X dX12_isName_10 rfl rfl rfl ?_
    refine g_ldcS (q := 13) 39 X st_X12_134 (by decide) dX12_isName_11 rfl ?_
    refine g_cv (q := 16) [aR (some (1000 + 39))] 12 X (ce_X12_isWord hK (by decide) h) kV_X12_119 rfl (by decide) rfl (hK.n (by decide)) rfl rfl (Nat.le_of_ble_eq_true rfl) (by decide) dX12_isName_13 rfl (fun r n_ iv_ rv_ hf => ?_)
    obtain ⟨en_, ei_, er_, r2, rfl, br2, h⟩ := hf; subst n_; subst iv_; subst rv_
    refine g_if_ne (q := 19) 73 X dX12_isName_16 (by decide) rfl (fun c3 => ?_) (fun c3 => ?_)
    · have h := h.1 c3
      refine g_iconst (q := 74) 0 X dX12_isName_73 rfl rfl ic_0 ?_
      exact g_zret (q := 0) .boolean X hR (nar_B (Or.inl rfl)) dX12_isName_74 rfl ⟨rfl, rfl, rfl, _, rfl, (Or.inl rfl), h⟩
    · have h := h.2 c3
      refine g_aload_n (q := 20) 0 X dX12_isName_19 rfl rfl rfl ?_
      refine g_ldcS (q := 22) 17 X st_X12_135 (by decide) dX12_isName_20 rfl ?_
      refine g_cv (q := 25) [aR (some (1000 + 17))] 12 X (ce_X12_isWord hK (by decide) h) kV_X12_119 rfl (by decide) rfl (hK.n (by decide)) rfl rfl (Nat.le_of_ble_eq_true rfl) (by decide) dX12_isName_22 rfl (fun r n_ iv_ rv_ hf => ?_)
      obtain ⟨en_, ei_, er_, r4, rfl, br4, h⟩ := hf; subst n_; subst iv_; subst rv_
      refine g_if_ne (q := 28) 73 X dX12_isName_25 (by decide) rfl (fun c5 => ?_) (fun c5 => ?_)
      · have h := h.1 c5
        refine g_iconst (q := 74) 0 X dX12_isName_73 rfl rfl ic_0 ?_
        exact g_zret (q := 0) .boolean X hR (nar_B (Or.inl rfl)) dX12_isName_74 rfl ⟨rfl, rfl, rfl, _, rfl, (Or.inl rfl), h⟩
      · have h := h.2 c5
        refine g_aload_n (q := 29) 0 X dX12_isName_28 rfl rfl rfl ?_
        refine g_ldcS (q := 31) 25 X st_X12_137 (by decide) dX12_isName_29 rfl ?_
        refine g_cv (q := 34) [aR (some (1000 + 25))] 12 X (ce_X12_isWord hK (by decide) h) kV_X12_119 rfl (by decide) rfl (hK.n (by decide)) rfl rfl (Nat.le_of_ble_eq_true rfl) (by decide) dX12_isName_31 rfl (fun r n_ iv_ rv_ hf => ?_)
        obtain ⟨en_, ei_, er_, r6, rfl, br6, h⟩ := hf; subst n_; subst iv_; subst rv_
        refine g_if_ne (q := 37) 73 X dX12_isName_34 (by decide) rfl (fun c7 => ?_) (fun c7 => ?_)
        · have h := h.1 c7
          refine g_iconst (q := 74) 0 X dX12_isName_73 rfl rfl ic_0 ?_
          exact g_zret (q := 0) .boolean X hR (nar_B (Or.inl rfl)) dX12_isName_74 rfl ⟨rfl, rfl, rfl, _, rfl, (Or.inl rfl), h⟩
        · have h := h.2 c7
          refine g_aload_n (q := 38) 0 X dX12_isName_37 rfl rfl rfl ?_
          refine g_ldcS (q := 40) 43 X st_X12_139 (by decide) dX12_isName_38 rfl ?_
          refine g_cv (q := 43) [aR (some (1000 + 43))] 12 X (ce_X12_isWord hK (by decide) h) kV_X12_119 rfl (by decide) rfl (hK.n (by decide)) rfl rfl (Nat.le_of_ble_eq_true rfl) (by decide) dX12_isName_40 rfl (fun r n_ iv_ rv_ hf => ?_)
          obtain ⟨en_, ei_, er_, r8, rfl, br8, h⟩ := hf; subst n_; subst iv_; subst rv_
          refine g_if_ne (q := 46) 73 X dX12_isName_43 (by decide) rfl (fun c9 => ?_) (fun c9 => ?_)
          · have h := h.1 c9
            refine g_iconst (q := 74) 0 X dX12_isName_73 rfl rfl ic_0 ?_
            exact g_zret (q := 0) .boolean X hR (nar_B (Or.inl rfl)) dX12_isName_74 rfl ⟨rfl, rfl, rfl, _, rfl, (Or.inl rfl), h⟩
          · have h := h.2 c9
            refine g_aload_n (q := 47) 0 X dX12_isName_46 rfl rfl rfl ?_
            refine g_ldcS (q := 49) 5 X st_X12_141 (by decide) dX12_isName_47 rfl ?_
            refine g_cv (q := 52) [aR (some (1000 + 5))] 12 X (ce_X12_isWord hK (by decide) h) kV_X12_119 rfl (by decide) rfl (hK.n (by decide)) rfl rfl (Nat.le_of_ble_eq_true rfl) (by decide) dX12_isName_49 rfl (fun r n_ iv_ rv_ hf => ?_)
            obtain ⟨en_, ei_, er_, r10, rfl, br10, h⟩ := hf; subst n_; subst iv_; subst rv_
            refine g_if_ne (q := 55) 73 X dX12_isName_52 (by decide) rfl (fun c11 => ?_) (fun c11 => ?_)
            · have h := h.1 c11
              refine g_iconst (q := 74) 0 X dX12_isName_73 rfl rfl ic_0 ?_
              exact g_zret (q := 0) .boolean X hR (nar_B (Or.inl rfl)) dX12_isName_74 rfl ⟨rfl, rfl, rfl, _, rfl, (Or.inl rfl), h⟩
            · have h := h.2 c11
              refine g_aload_n (q := 56) 0 X dX12_isName_55 rfl rfl rfl ?_
              refine g_ldcS (q := 58) 47 X st_X12_143 (by decide) dX12_isName_56 rfl ?_
              refine g_cv (q := 61) [aR (some (1000 + 47))] 12 X (ce_X12_isWord hK (by decide) h) kV_X12_119 rfl (by decide) rfl (hK.n (by decide)) rfl rfl (Nat.le_of_ble_eq_true rfl) (by decide) dX12_isName_58 rfl (fun r n_ iv_ rv_ hf => ?_)
              obtain ⟨en_, ei_, er_, r12, rfl, br12, h⟩ := hf; subst n_; subst iv_; subst rv_
              refine g_if_ne (q := 64) 73 X dX12_isName_61 (by decide) rfl (fun c13 => ?_) (fun c13 => ?_)
              · have h := h.1 c13
                refine g_iconst (q := 74) 0 X dX12_isName_73 rfl rfl ic_0 ?_
                exact g_zret (q := 0) .boolean X hR (nar_B (Or.inl rfl)) dX12_isName_74 rfl ⟨rfl, rfl, rfl, _, rfl, (Or.inl rfl), h⟩
              · have h := h.2 c13
                refine g_aload_n (q := 65) 0 X dX12_isName_64 rfl rfl rfl ?_
                refine g_ldcS (q := 67) 14 X st_X12_145 (by decide) dX12_isName_65 rfl ?_
                refine g_cv (q := 70) [aR (some (1000 + 14))] 12 X (ce_X12_isWord hK (by decide) h) kV_X12_119 rfl (by decide) rfl (hK.n (by decide)) rfl rfl (Nat.le_of_ble_eq_true rfl) (by decide) dX12_isName_67 rfl (fun r n_ iv_ rv_ hf => ?_)
                obtain ⟨en_, ei_, er_, r14, rfl, br14, h⟩ := hf; subst n_; subst iv_; subst rv_
                refine g_if_eq (q := 73) 75 X dX12_isName_70 (by decide) rfl (fun c15 => ?_) (fun c15 => ?_)
                · have h := h.1 c15
                  refine g_aload_n (q := 76) 0 X dX12_isName_75 rfl rfl rfl ?_
                  refine g_ldcS (q := 78) 2 X st_X12_147 (by decide) dX12_isName_76 rfl ?_
                  refine g_cv (q := 81) [aR (some (1000 + 2))] 12 X (ce_X12_isWord hK (by decide) h) kV_X12_119 rfl (by decide) rfl (hK.n (by decide)) rfl rfl (Nat.le_of_ble_eq_true rfl) (by decide) dX12_isName_78 rfl (fun r n_ iv_ rv_ hf => ?_)
                  obtain ⟨en_, ei_, er_, r16, rfl, br16, h⟩ := hf; subst n_; subst iv_; subst rv_
                  refine g_if_ne (q := 84) 151 X dX12_isName_81 (by decide) rfl (fun c17 => ?_) (fun c17 => ?_)
                  · have h := h.1 c17
                    refine g_iconst (q := 152) 0 X dX12_isName_151 rfl rfl ic_0 ?_
                    exact g_zret (q := 0) .boolean X hR (nar_B (Or.inl rfl)) dX12_isName_152 rfl ⟨rfl, rfl, rfl, _, rfl, (Or.inl rfl), h⟩
                  · have h := h.2 c17
                    refine g_aload_n (q := 85) 0 X dX12_isName_84 rfl rfl rfl ?_
                    refine g_ldcS (q := 87) 42 X st_X12_149 (by decide) dX12_isName_85 rfl ?_
                    refine g_cv (q := 90) [aR (some (1000 + 42))] 12 X (ce_X12_isWord hK (by decide) h) kV_X12_119 rfl (by decide) rfl (hK.n (by decide)) rfl rfl (Nat.le_of_ble_eq_true rfl) (by decide) dX12_isName_87 rfl (fun r n_ iv_ rv_ hf => ?_)
                    obtain ⟨en_, ei_, er_, r18, rfl, br18, h⟩ := hf; subst n_; subst iv_; subst rv_
                    refine g_if_ne (q := 93) 151 X dX12_isName_90 (by decide) rfl (fun c19 => ?_) (fun c19 => ?_)
                    · have h := h.1 c19
                      refine g_iconst (q := 152) 0 X dX12_isName_151 rfl rfl ic_0 ?_
                      exact g_zret (q := 0) .boolean X hR (nar_B (Or.inl rfl)) dX12_isName_152 rfl ⟨rfl, rfl, rfl, _, rfl, (Or.inl rfl), h⟩
                    · have h := h.2 c19
                      refine g_aload_n (q := 94) 0 X dX12_isName_93 rfl rfl rfl ?_
                      refine g_ldcS (q := 96) 24 X st_X12_151 (by decide) dX12_isName_94 rfl ?_
                      refine g_cv (q := 99) [aR (some (1000 + 24))] 12 X (ce_X12_isWord hK (by decide) h) kV_X12_119 rfl (by decide) rfl (hK.n (by decide)) rfl rfl (Nat.le_of_ble_eq_true rfl) (by decide) dX12_isName_96 rfl (fun r n_ iv_ rv_ hf => ?_)
                      obtain ⟨en_, ei_, er_, r20, rfl, br20, h⟩ := hf; subst n_; subst iv_; subst rv_
                      refine g_if_ne (q := 102) 151 X dX12_isName_99 (by decide) rfl (fun c21 => ?_) (fun c21 => ?_)
                      · have h := h.1 c21
                        refine g_iconst (q := 152) 0 X dX12_isName_151 rfl rfl ic_0 ?_
                        exact g_zret (q := 0) .boolean X hR (nar_B (Or.inl rfl)) dX12_isName_152 rfl ⟨rfl, rfl, rfl, _, rfl, (Or.inl rfl), h⟩
                      · have h := h.2 c21
                        refine g_aload_n (q := 103) 0 X dX12_isName_102 rfl rfl rfl ?_
                        refine g_ldcS (q := 105) 19 X st_X12_153 (by decide) dX12_isName_103 rfl ?_
                        refine g_cv (q := 108) [aR (some (1000 + 19))] 12 X (ce_X12_isWord hK (by decide) h) kV_X12_119 rfl (by decide) rfl (hK.n (by decide)) rfl rfl (Nat.le_of_ble_eq_true rfl) (by decide) dX12_isName_105 rfl (fun r n_ iv_ rv_ hf => ?_)
                        obtain ⟨en_, ei_, er_, r22, rfl, br22, h⟩ := hf; subst n_; subst iv_; subst rv_
                        refine g_if_ne (q := 111) 151 X dX12_isName_108 (by decide) rfl (fun c23 => ?_) (fun c23 => ?_)
                        · have h := h.1 c23
                          refine g_iconst (q := 152) 0 X dX12_isName_151 rfl rfl ic_0 ?_
                          exact g_zret (q := 0) .boolean X hR (nar_B (Or.inl rfl)) dX12_isName_152 rfl ⟨rfl, rfl, rfl, _, rfl, (Or.inl rfl), h⟩
                        · have h := h.2 c23
                          refine g_aload_n (q := 112) 0 X dX12_isName_111 rfl rfl rfl ?_
                          refine g_ldcS (q := 114) 7 X st_X12_155 (by decide) dX12_isName_112 rfl ?_
                          refine g_cv (q := 117) [aR (some (1000 + 7))] 12 X (ce_X12_isWord hK (by decide) h) kV_X12_119 rfl (by decide) rfl (hK.n (by decide)) rfl rfl (Nat.le_of_ble_eq_true rfl) (by decide) dX12_isName_114 rfl (fun r n_ iv_ rv_ hf => ?_)
                          obtain ⟨en_, ei_, er_, r24, rfl, br24, h⟩ := hf; subst n_; subst iv_; subst rv_
                          refine g_if_ne (q := 120) 151 X dX12_isName_117 (by decide) rfl (fun c25 => ?_) (fun c25 => ?_)
                          · have h := h.1 c25
                            refine g_iconst (q := 152) 0 X dX12_isName_151 rfl rfl ic_0 ?_
                            exact g_zret (q := 0) .boolean X hR (nar_B (Or.inl rfl)) dX12_isName_152 rfl ⟨rfl, rfl, rfl, _, rfl, (Or.inl rfl), h⟩
                          · have h := h.2 c25
                            refine g_aload_n (q := 121) 0 X dX12_isName_120 rfl rfl rfl ?_
                            refine g_ldcS (q := 123) 1 X st_X12_157 (by decide) dX12_isName_121 rfl ?_
                            refine g_cv (q := 126) [aR (some (1000 + 1))] 12 X (ce_X12_isWord hK (by decide) h) kV_X12_119 rfl (by decide) rfl (hK.n (by decide)) rfl rfl (Nat.le_of_ble_eq_true rfl) (by decide) dX12_isName_123 rfl (fun r n_ iv_ rv_ hf => ?_)
                            obtain ⟨en_, ei_, er_, r26, rfl, br26, h⟩ := hf; subst n_; subst iv_; subst rv_
                            refine g_if_ne (q := 129) 151 X dX12_isName_126 (by decide) rfl (fun c27 => ?_) (fun c27 => ?_)
                            · have h := h.1 c27
                              refine g_iconst (q := 152) 0 X dX12_isName_151 rfl rfl ic_0 ?_
                              exact g_zret (q := 0) .boolean X hR (nar_B (Or.inl rfl)) dX12_isName_152 rfl ⟨rfl, rfl, rfl, _, rfl, (Or.inl rfl), h⟩
                            · have h := h.2 c27
                              refine g_aload_n (q := 130) 0 X dX12_isName_129 rfl rfl rfl ?_
                              refine g_ldcS (q := 132) 48 X st_X12_159 (by decide) dX12_isName_130 rfl ?_
                              refine g_cv (q := 135) [aR (some (1000 + 48))] 12 X (ce_X12_isWord hK (by decide) h) kV_X12_119 rfl (by decide) rfl (hK.n (by decide)) rfl rfl (Nat.le_of_ble_eq_true rfl) (by decide) dX12_isName_132 rfl (fun r n_ iv_ rv_ hf => ?_)
                              obtain ⟨en_, ei_, er_, r28, rfl, br28, h⟩ := hf; subst n_; subst iv_; subst rv_
                              refine g_if_ne (q := 138) 151 X dX12_isName_135 (by decide) rfl (fun c29 => ?_) (fun c29 => ?_)
                              · have h := h.1 c29
                                refine g_iconst (q := 152) 0 X dX12_isName_151 rfl rfl ic_0 ?_
                                exact g_zret (q := 0) .boolean X hR (nar_B (Or.inl rfl)) dX12_isName_152 rfl ⟨rfl, rfl, rfl, _, rfl, (Or.inl rfl), h⟩
                              · have h := h.2 c29
                                refine g_aload_n (q := 139) 0 X dX12_isName_138 rfl rfl rfl ?_
                                refine g_ldcS (q := 141) 9 X st_X12_161 (by decide) dX12_isName_139 rfl ?_
                                refine g_cv (q := 144) [aR (some (1000 + 9))] 12 X (ce_X12_isWord hK (by decide) h) kV_X12_119 rfl (by decide) rfl (hK.n (by decide)) rfl rfl (Nat.le_of_ble_eq_true rfl) (by decide) dX12_isName_141 rfl (fun r n_ iv_ rv_ hf => ?_)
                                obtain ⟨en_, ei_, er_, r30, rfl, br30, h⟩ := hf; subst n_; subst iv_; subst rv_
                                refine g_if_ne (q := 147) 151 X dX12_isName_144 (by decide) rfl (fun c31 => ?_) (fun c31 => ?_)
                                · have h := h.1 c31
                                  refine g_iconst (q := 152) 0 X dX12_isName_151 rfl rfl ic_0 ?_
                                  exact g_zret (q := 0) .boolean X hR (nar_B (Or.inl rfl)) dX12_isName_152 rfl ⟨rfl, rfl, rfl, _, rfl, (Or.inl rfl), h⟩
                                · have h := h.2 c31
                                  refine g_iconst (q := 148) 1 X dX12_isName_147 rfl rfl ic_1 ?_
                                  refine g_goto (q := 152) X dX12_isName_148 (by decide) ?_
                                  exact g_zret (q := 0) .boolean X hR (nar_B (Or.inr rfl)) dX12_isName_152 rfl ⟨rfl, rfl, rfl, _, rfl, (Or.inr rfl), h⟩
                · have h := h.2 c15
                  refine g_iconst (q := 74) 0 X dX12_isName_73 rfl rfl ic_0 ?_
                  exact g_zret (q := 0) .boolean X hR (nar_B (Or.inl rfl)) dX12_isName_74 rfl ⟨rfl, rfl, rfl, _, rfl, (Or.inl rfl), h⟩
  · have h := h.2 c1
    refine g_iconst (q := 9) 0 X dX12_isName_8 rfl rfl ic_0 ?_
    exact g_zret (q := 0) .boolean X hR (nar_B (Or.inl rfl)) dX12_isName_9 rfl ⟨rfl, rfl, rfl, _, rfl, (Or.inl rfl), h⟩
def bd_X12_readFresh_32 (l1 l2 : Int) (iv : IV) (rv : RV) (K : IV → Prop) : Prop :=
  (((iv 66 9) ≠ 5) → ((hMm rv 66 4) ∧ (0 ≤ iv (gR rv 66 4) 12 ∧ iv (gR rv 66 4) 12 < 51) ∧ ∀ iv3, iv3 = w2 iv (gR rv 66 4 + 27) (iv (gR rv 66 4) 12).toNat (iv 66 14) → (0 ≤ iv3 (gR rv 66 4) 12 ∧ iv3 (gR rv 66 4) 12 < 51) ∧ ∀ iv5, iv5 = w2 iv3 (gR rv 66 4 + 28) (iv3 (gR rv 66 4) 12).toNat l1 → (0 ≤ iv5 (gR rv 66 4) 12 ∧ iv5 (gR rv 66 4) 12 < 51) ∧ ∀ iv7, iv7 = w2 iv5 (gR rv 66 4 + 29) (iv5 (gR rv 66 4) 12).toNat l2 → ∀ iv8, iv8 = w2 iv7 (gR rv 66 4) 12 (w32 ((iv7 (gR rv 66 4) 12) + 1)) → wp_X12_goesOn iv8 rv (fun iv9 => K iv9))) ∧ (((iv 66 9) = 5) → (K iv))
set_option maxRecDepth 10000 in
theorem cb_X12_readFresh_32 {Γ : GX} {n : Nat} {iv : IV} {rv : RV} {K : IV → Prop} {l1 l2 : Int} (X : Cx Γ RX12 cX12_readFresh 3 7) (hR : Rt Γ none 0 0 (fV1 n rv K)) (hK : Lk n rv)  (h : bd_X12_readFresh_32 l1 l2 iv rv K) : G Γ 3 32 [aR (some 66), aI l1, aI l2] [] n iv rv 0 0 := by
  unfold bd_X12_readFresh_32 at h
  refine g_aload_n (q := 33) 0 X dX12_readFresh_32 rfl rfl rfl ?_
  refine g_getI (q := 36) 12 9 X kf_X12_83 (by decide) (by decide) rfl rfl (hK.n (by decide)) dX12_readFresh_33 rfl ?_
  refine g_iconst (q := 37) 5 X dX12_readFresh_36 rfl rfl ic_5 ?_
  refine g_icmp_ne (q := 40) 41 X dX12_readFresh_37 (by decide) rfl (fun c1 => ?_) (fun c1 => ?_)
  · have h := h.1 c1
    refine g_aload_n (q := 42) 0 X dX12_readFresh_41 rfl rfl rfl ?_
    obtain ⟨hM_4, h⟩ := h
    refine g_getR (q := 45) (r := some (gR rv 66 4)) 12 4 X hM_4.1 (lt2000 (c := 0) (isM_lt0 hM_4.2)) kf_X12_167 (by decide) (by decide) rfl rfl (hK.n (by decide)) dX12_readFresh_42 rfl ?_
    refine g_getR (q := 48) (r := some (gR rv 66 4 + 27)) 11 40 X (lkM_40 hK hM_4.2 (hK.2.2.2.2.2.2.2 _ hM_4.1 hM_4.2)) (lt2000 (c := 0) (isM_lt hM_4.2 (by decide))) kf_X12_177 (by decide) (by decide) rfl (shM_0 hM_4.2) (isM_n0 (hK.2.2.2.2.2.2.2 _ hM_4.1 hM_4.2)) dX12_readFresh_45 rfl ?_
    refine g_aload_n (q := 49) 0 X dX12_readFresh_48 rfl rfl rfl ?_
    refine g_getR (q := 52) (r := some (gR rv 66 4)) 12 4 X hM_4.1 (lt2000 (c := 0) (isM_lt0 hM_4.2)) kf_X12_167 (by decide) (by decide) rfl rfl (hK.n (by decide)) dX12_readFresh_49 rfl ?_
    refine g_getI (q := 55) 11 12 X kf_X12_181 (by decide) (by decide) rfl (shM_0 hM_4.2) (isM_n0 (hK.2.2.2.2.2.2.2 _ hM_4.1 hM_4.2)) dX12_readFresh_52 rfl ?_
    refine g_aload_n (q := 56) 0 X dX12_readFresh_55 rfl rfl rfl ?_
    refine g_getL (q := 59) 12 14 X kf_X12_99 (by decide) (by decide) rfl rfl (hK.n (by decide)) dX12_readFresh_56 rfl ?_
    obtain ⟨s2, h⟩ := h
    refine g_last (q := 60) X (shM_27 hM_4.2) (isM_n (hK.2.2.2.2.2.2.2 _ hM_4.1 hM_4.2) (by decide)) s2 dX12_readFresh_59 rfl ?_
    refine g_nmM (fun iv3 eiv3 => ?_)
    have h := h iv3 eiv3
    refine g_aload_n (q := 61) 0 X dX12_readFresh_60 rfl rfl rfl ?_
    refine g_getR (q := 64) (r := some (gR rv 66 4)) 12 4 X hM_4.1 (lt2000 (c := 0) (isM_lt0 hM_4.2)) kf_X12_167 (by decide) (by decide) rfl rfl (hK.n (by decide)) dX12_readFresh_61 rfl ?_
    refine g_getR (q := 67) (r := some (gR rv 66 4 + 28)) 11 41 X (lkM_41 hK hM_4.2 (hK.2.2.2.2.2.2.2 _ hM_4.1 hM_4.2)) (lt2000 (c := 0) (isM_lt hM_4.2 (by decide))) kf_X12_184 (by decide) (by decide) rfl (shM_0 hM_4.2) (isM_n0 (hK.2.2.2.2.2.2.2 _ hM_4.1 hM_4.2)) dX12_readFresh_64 rfl ?_
    refine g_aload_n (q := 68) 0 X dX12_readFresh_67 rfl rfl rfl ?_
    refine g_getR (q := 71) (r := some (gR rv 66 4)) 12 4 X hM_4.1 (lt2000 (c := 0) (isM_lt0 hM_4.2)) kf_X12_167 (by decide) (by decide) rfl rfl (hK.n (by decide)) dX12_readFresh_68 rfl ?_
    refine g_getI (q := 74) 11 12 X kf_X12_181 (by decide) (by decide) rfl (shM_0 hM_4.2) (isM_n0 (hK.2.2.2.2.2.2.2 _ hM_4.1 hM_4.2)) dX12_readFresh_71 rfl ?_
    refine g_iload_n (q := 75) 1 X dX12_readFresh_74 rfl rfl rfl ?_
    obtain ⟨s4, h⟩ := h
    refine g_iast (q := 76) X (shM_28 hM_4.2) (isM_n (hK.2.2.2.2.2.2.2 _ hM_4.1 hM_4.2) (by decide)) s4 dX12_readFresh_75 rfl ?_
    refine g_nmM (fun iv5 eiv5 => ?_)
    have h := h iv5 eiv5
    refine g_aload_n (q := 77) 0 X dX12_readFresh_76 rfl rfl rfl ?_
    refine g_getR (q := 80) (r := some (gR rv 66 4)) 12 4 X hM_4.1 (lt2000 (c := 0) (isM_lt0 hM_4.2)) kf_X12_167 (by decide) (by decide) rfl rfl (hK.n (by decide)) dX12_readFresh_77 rfl ?_
    refine g_getR (q := 83) (r := some (gR rv 66 4 + 29)) 11 42 X (lkM_42 hK hM_4.2 (hK.2.2.2.2.2.2.2 _ hM_4.1 hM_4.2)) (lt2000 (c := 0) (isM_lt hM_4.2 (by decide))) kf_X12_187 (by decide) (by decide) rfl (shM_0 hM_4.2) (isM_n0 (hK.2.2.2.2.2.2.2 _ hM_4.1 hM_4.2)) dX12_readFresh_80 rfl ?_
    refine g_aload_n (q := 84) 0 X dX12_readFresh_83 rfl rfl rfl ?_
    refine g_getR (q := 87) (r := some (gR rv 66 4)) 12 4 X hM_4.1 (lt2000 (c := 0) (isM_lt0 hM_4.2)) kf_X12_167 (by decide) (by decide) rfl rfl (hK.n (by decide)) dX12_readFresh_84 rfl ?_
    refine g_getI (q := 90) 11 12 X kf_X12_181 (by decide) (by decide) rfl (shM_0 hM_4.2) (isM_n0 (hK.2.2.2.2.2.2.2 _ hM_4.1 hM_4.2)) dX12_readFresh_87 rfl ?_
    refine g_iload_n (q := 91) 2 X dX12_readFresh_90 rfl rfl rfl ?_
    obtain ⟨s6, h⟩ := h
    refine g_iast (q := 92) X (shM_29 hM_4.2) (isM_n (hK.2.2.2.2.2.2.2 _ hM_4.1 hM_4.2) (by decide)) s6 dX12_readFresh_91 rfl ?_
    refine g_nmM (fun iv7 eiv7 => ?_)
    have h := h iv7 eiv7
    refine g_aload_n (q := 93) 0 X dX12_readFresh_92 rfl rfl rfl ?_
    refine g_getR (q := 96) (r := some (gR rv 66 4)) 12 4 X hM_4.1 (lt2000 (c := 0) (isM_lt0 hM_4.2)) kf_X12_167 (by decide) (by decide) rfl rfl (hK.n (by decide)) dX12_readFresh_93 rfl ?_
    refine g_dup (q := 97) X dX12_readFresh_96 rfl rfl ?_
    refine g_getI (q := 100) 11 12 X kf_X12_181 (by decide) (by decide) rfl (shM_0 hM_4.2) (isM_n0 (hK.2.2.2.2.2.2.2 _ hM_4.1 hM_4.2)) dX12_readFresh_97 rfl ?_
    refine g_iconst (q := 101) 1 X dX12_readFresh_100 rfl rfl ic_1 ?_
    refine g_iadd (q := 102) X dX12_readFresh_101 rfl ?_
    refine g_putI (q := 105) 11 12 X (Or.inl rfl) rfl kf_X12_181 (by decide) (by decide) (shM_0 hM_4.2) (isM_n0 (hK.2.2.2.2.2.2.2 _ hM_4.1 hM_4.2)) dX12_readFresh_102 rfl ?_
    refine g_nmM (fun iv8 eiv8 => ?_)
    have h := h iv8 eiv8
    refine g_aload_n (q := 106) 0 X dX12_readFresh_105 rfl rfl rfl ?_
    refine g_cv (q := 109) [] 12 X (ce_X12_goesOn hK  h) kV_X12_123 rfl (by decide) rfl (hK.n (by decide)) rfl rfl (Nat.le_of_ble_eq_true rfl) (by decide) dX12_readFresh_106 rfl (fun r n_ iv_ rv_ hf => ?_)
    obtain ⟨en_, er_, rfl, h⟩ := hf; subst n_; subst rv_
    generalize iv_ = iv9 at h ⊢
    exact g_vret (q := 0) X hR dX12_readFresh_109 rfl ⟨rfl, rfl, rfl, h⟩
  · have h := h.2 c1
    exact g_vret (q := 0) X hR dX12_readFresh_40 rfl ⟨rfl, rfl, rfl, h⟩
def bd_X12_readFresh_12 (l1 l2 : Int) (iv : IV) (rv : RV) (K : IV → Prop) : Prop :=
  (hMm rv 66 4) ∧ wp_X11_find (gR rv 66 4) (iv 66 14) iv rv (fun r1 => ((r1 = (-1)) → (bd_X12_readFresh_32 l1 l2 iv rv K)) ∧ ((¬ (r1 = (-1))) → (wp_X12_wrong 3 iv rv (fun iv3 => bd_X12_readFresh_32 l1 l2 iv3 rv K))))
set_option maxRecDepth 10000 in
theorem cb_X12_readFresh_12 {Γ : GX} {n : Nat} {iv : IV} {rv : RV} {K : IV → Prop} {l1 l2 : Int} (X : Cx Γ RX12 cX12_readFresh 3 7) (hR : Rt Γ none 0 0 (fV1 n rv K)) (hK : Lk n rv)  (h : bd_X12_readFresh_12 l1 l2 iv rv K) : G Γ 3 12 [aR (some 66), aI l1, aI l2] [] n iv rv 0 0 := by
  unfold bd_X12_readFresh_12 at h
  refine g_aload_n (q := 13) 0 X dX12_readFresh_12 rfl rfl rfl ?_
  obtain ⟨hM_4, h⟩ := h
  refine g_getR (q := 16) (r := some (gR rv 66 4)) 12 4 X hM_4.1 (lt2000 (c := 0) (isM_lt0 hM_4.2)) kf_X12_167 (by decide) (by decide) rfl rfl (hK.n (by decide)) dX12_readFresh_13 rfl ?_
  refine g_aload_n (q := 17) 0 X dX12_readFresh_16 rfl rfl rfl ?_
  refine g_getL (q := 20) 12 14 X kf_X12_99 (by decide) (by decide) rfl rfl (hK.n (by decide)) dX12_readFresh_17 rfl ?_
  refine g_cv (q := 23) [aL (iv 66 14)] 11 X (ce_X11_find hK hM_4.2 (hK.2.2.2.2.2.2.2 _ hM_4.1 hM_4.2) h) kV_X12_171 rfl (by decide) (shM_0 hM_4.2) (isM_n0 (hK.2.2.2.2.2.2.2 _ hM_4.1 hM_4.2)) rfl rfl (Nat.le_of_ble_eq_true rfl) (by decide) dX12_readFresh_20 rfl (fun r n_ iv_ rv_ hf => ?_)
  obtain ⟨en_, ei_, er_, r1, rfl, h⟩ := hf; subst n_; subst iv_; subst rv_
  refine g_iconst (q := 24) (-1) X dX12_readFresh_23 rfl rfl ic_m1 ?_
  refine g_icmp_eq (q := 27) 32 X dX12_readFresh_24 (by decide) rfl (fun c2 => ?_) (fun c2 => ?_)
  · have h := h.1 c2
    exact cb_X12_readFresh_32 X hR hK   h
  · have h := h.2 c2
    refine g_aload_n (q := 28) 0 X dX12_readFresh_27 rfl rfl rfl ?_
    refine g_iconst (q := 29) 3 X dX12_readFresh_28 rfl rfl ic_3 ?_
    refine g_cv (q := 32) [aI 3] 12 X (ce_X12_wrong hK  h) kV_X12_126 rfl (by decide) rfl (hK.n (by decide)) rfl rfl (Nat.le_of_ble_eq_true rfl) (by decide) dX12_readFresh_29 rfl (fun r n_ iv_ rv_ hf => ?_)
    obtain ⟨en_, er_, rfl, h⟩ := hf; subst n_; subst rv_
    generalize iv_ = iv3 at h ⊢
    exact cb_X12_readFresh_32 X hR hK   h
def wp_X12_readFresh (a1 : Int) (a2 : Int) (iv : IV) (rv : RV) (K : IV → Prop) : Prop :=
  wp_X12_isName iv rv (fun r1 => ((r1 ≠ 0) → (bd_X12_readFresh_12 a1 a2 iv rv K)) ∧ ((r1 = 0) → (wp_X12_wrong 1 iv rv (fun iv3 => bd_X12_readFresh_12 a1 a2 iv3 rv K))))
set_option maxRecDepth 10000 in
theorem ce_X12_readFresh {n : Nat} {iv : IV} {rv : RV} {K : IV → Prop} {a1 : Int} {a2 : Int} (hK : Lk n rv)  (h : wp_X12_readFresh a1 a2 iv rv K) : Call 7 0 0 yX12_readFresh cX12_readFresh 3 none [aR (some 66), aI a1, aI a2] n iv rv (fV1 n rv K) := by
  refine Call.by (L := [aR (some 66), aI a1, aI a2]) (by decide) rfl ⟨trivial, trivial, trivial, trivial⟩ rfl (Nat.le_of_ble_eq_true rfl) (fun Γ X hR => ?_)
  unfold wp_X12_readFresh at h
  refine g_aload_n (q := 1) 0 X dX12_readFresh_0 rfl rfl rfl ?_
  refine g_cv (q := 4) [] 12 X (ce_X12_isName hK  h) kV_X12_163 rfl (by decide) rfl (hK.n (by decide)) rfl rfl (Nat.le_of_ble_eq_true rfl) (by decide) dX12_readFresh_1 rfl (fun r n_ iv_ rv_ hf => ?_)
  obtain ⟨en_, ei_, er_, r1, rfl, br1, h⟩ := hf; subst n_; subst iv_; subst rv_
  refine g_if_ne (q := 7) 12 X dX12_readFresh_4 (by decide) rfl (fun c2 => ?_) (fun c2 => ?_)
  · have h := h.1 c2
    exact cb_X12_readFresh_12 X hR hK   h
  · have h := h.2 c2
    refine g_aload_n (q := 8) 0 X dX12_readFresh_7 rfl rfl rfl ?_
    refine g_iconst (q := 9) 1 X dX12_readFresh_8 rfl rfl ic_1 ?_
    refine g_cv (q := 12) [aI 1] 12 X (ce_X12_wrong hK  h) kV_X12_126 rfl (by decide) rfl (hK.n (by decide)) rfl rfl (Nat.le_of_ble_eq_true rfl) (by decide) dX12_readFresh_9 rfl (fun r n_ iv_ rv_ hf => ?_)
    obtain ⟨en_, er_, rfl, h⟩ := hf; subst n_; subst rv_
    generalize iv_ = iv3 at h ⊢
    exact cb_X12_readFresh_12 X hR hK   h
def bd_X12_known_47 (l2 : Int) (iv : IV) (rv : RV) (K : Int → IV → Prop) : Prop :=
  (((iv 66 9) ≠ 5) → ((hMm rv 66 4) ∧ (0 ≤ l2 ∧ l2 < 51) ∧ K (iv (gR rv 66 4 + 29) l2.toNat) iv)) ∧ (((iv 66 9) = 5) → (K 0 iv))
set_option maxRecDepth 10000 in
theorem cb_X12_known_47 {Γ : GX} {n : Nat} {iv : IV} {rv : RV} {K : Int → IV → Prop} {l2 : Int} (X : Cx Γ RX12 cX12_known 3 7) (hR : Rt Γ (some .int) 0 0 (fI1 n rv K)) (hK : Lk n rv)  (h : bd_X12_known_47 l2 iv rv K) : G Γ 3 47 [aR (some 66), aJ, aI l2] [] n iv rv 0 0 := by
  unfold bd_X12_known_47 at h
  refine g_aload_n (q := 48) 0 X dX12_known_47 rfl rfl rfl ?_
  refine g_getI (q := 51) 12 9 X kf_X12_83 (by decide) (by decide) rfl rfl (hK.n (by decide)) dX12_known_48 rfl ?_
  refine g_iconst (q := 52) 5 X dX12_known_51 rfl rfl ic_5 ?_
  refine g_icmp_ne (q := 55) 59 X dX12_known_52 (by decide) rfl (fun c1 => ?_) (fun c1 => ?_)
  · have h := h.1 c1
    refine g_aload_n (q := 60) 0 X dX12_known_59 rfl rfl rfl ?_
    obtain ⟨hM_4, h⟩ := h
    refine g_getR (q := 63) (r := some (gR rv 66 4)) 12 4 X hM_4.1 (lt2000 (c := 0) (isM_lt0 hM_4.2)) kf_X12_167 (by decide) (by decide) rfl rfl (hK.n (by decide)) dX12_known_60 rfl ?_
    refine g_getR (q := 66) (r := some (gR rv 66 4 + 29)) 11 42 X (lkM_42 hK hM_4.2 (hK.2.2.2.2.2.2.2 _ hM_4.1 hM_4.2)) (lt2000 (c := 0) (isM_lt hM_4.2 (by decide))) kf_X12_187 (by decide) (by decide) rfl (shM_0 hM_4.2) (isM_n0 (hK.2.2.2.2.2.2.2 _ hM_4.1 hM_4.2)) dX12_known_63 rfl ?_
    refine g_iload_n (q := 67) 2 X dX12_known_66 rfl rfl rfl ?_
    obtain ⟨s2, h⟩ := h
    refine g_iald (q := 68) X (shM_29 hM_4.2) (isM_n (hK.2.2.2.2.2.2.2 _ hM_4.1 hM_4.2) (by decide)) s2 dX12_known_67 rfl ?_
    exact g_iret (q := 0) X hR dX12_known_68 rfl ⟨rfl, rfl, _, rfl, h⟩
  · have h := h.2 c1
    refine g_iconst (q := 56) 0 X dX12_known_55 rfl rfl ic_0 ?_
    refine g_goto (q := 68) X dX12_known_56 (by decide) ?_
    exact g_iret (q := 0) X hR dX12_known_68 rfl ⟨rfl, rfl, _, rfl, h⟩
def bd_X12_known_42 (l2 : Int) (iv : IV) (rv : RV) (K : Int → IV → Prop) : Prop :=
  wp_X12_wrong 2 iv rv (fun iv1 => bd_X12_known_47 l2 iv1 rv K)
set_option maxRecDepth 10000 in
theorem cb_X12_known_42 {Γ : GX} {n : Nat} {iv : IV} {rv : RV} {K : Int → IV → Prop} {l2 : Int} (X : Cx Γ RX12 cX12_known 3 7) (hR : Rt Γ (some .int) 0 0 (fI1 n rv K)) (hK : Lk n rv)  (h : bd_X12_known_42 l2 iv rv K) : G Γ 3 42 [aR (some 66), aJ, aI l2] [] n iv rv 0 0 := by
  unfold bd_X12_known_42 at h
  refine g_aload_n (q := 43) 0 X dX12_known_42 rfl rfl rfl ?_
  refine g_iconst (q := 44) 2 X dX12_known_43 rfl rfl ic_2 ?_
  refine g_cv (q := 47) [aI 2] 12 X (ce_X12_wrong hK  h) kV_X12_126 rfl (by decide) rfl (hK.n (by decide)) rfl rfl (Nat.le_of_ble_eq_true rfl) (by decide) dX12_known_44 rfl (fun r n_ iv_ rv_ hf => ?_)
  obtain ⟨en_, er_, rfl, h⟩ := hf; subst n_; subst rv_
  generalize iv_ = iv1 at h ⊢
  exact cb_X12_known_47 X hR hK   h
def bd_X12_known_12 (l1 : Int) (iv : IV) (rv : RV) (K : Int → IV → Prop) : Prop :=
  (hMm rv 66 4) ∧ wp_X11_find (gR rv 66 4) (iv 66 14) iv rv (fun r1 => ((r1 = (-1)) → (bd_X12_known_42 r1 iv rv K)) ∧ ((¬ (r1 = (-1))) → ((0 ≤ r1 ∧ r1 < 51) ∧ (((iv (gR rv 66 4 + 28) r1.toNat) = l1) → (bd_X12_known_47 r1 iv rv K)) ∧ ((¬ ((iv (gR rv 66 4 + 28) r1.toNat) = l1)) → (bd_X12_known_42 r1 iv rv K)))))
set_option maxRecDepth 10000 in
theorem cb_X12_known_12 {Γ : GX} {n : Nat} {iv : IV} {rv : RV} {K : Int → IV → Prop} {l1 : Int} (X : Cx Γ RX12 cX12_known 3 7) (hR : Rt Γ (some .int) 0 0 (fI1 n rv K)) (hK : Lk n rv)  (h : bd_X12_known_12 l1 iv rv K) : G Γ 3 12 [aR (some 66), aI l1, aJ] [] n iv rv 0 0 := by
  unfold bd_X12_known_12 at h
  refine g_aload_n (q := 13) 0 X dX12_known_12 rfl rfl rfl ?_
  obtain ⟨hM_4, h⟩ := h
  refine g_getR (q := 16) (r := some (gR rv 66 4)) 12 4 X hM_4.1 (lt2000 (c := 0) (isM_lt0 hM_4.2)) kf_X12_167 (by decide) (by decide) rfl rfl (hK.n (by decide)) dX12_known_13 rfl ?_
  refine g_aload_n (q := 17) 0 X dX12_known_16 rfl rfl rfl ?_
  refine g_getL (q := 20) 12 14 X kf_X12_99 (by decide) (by decide) rfl rfl (hK.n (by decide)) dX12_known_17 rfl ?_
  refine g_cv (q := 23) [aL (iv 66 14)] 11 X (ce_X11_find hK hM_4.2 (hK.2.2.2.2.2.2.2 _ hM_4.1 hM_4.2) h) kV_X12_171 rfl (by decide) (shM_0 hM_4.2) (isM_n0 (hK.2.2.2.2.2.2.2 _ hM_4.1 hM_4.2)) rfl rfl (Nat.le_of_ble_eq_true rfl) (by decide) dX12_known_20 rfl (fun r n_ iv_ rv_ hf => ?_)
  obtain ⟨en_, ei_, er_, r1, rfl, h⟩ := hf; subst n_; subst iv_; subst rv_
  refine g_istore_n (q := 24) 2 (L' := [aR (some 66), aI l1, aI r1]) X dX12_known_23 rfl rfl (by decide) rfl rfl ?_
  refine g_iload_n (q := 25) 2 X dX12_known_24 rfl rfl rfl ?_
  refine g_iconst (q := 26) (-1) X dX12_known_25 rfl rfl ic_m1 ?_
  refine g_icmp_eq (q := 29) 42 X dX12_known_26 (by decide) rfl (fun c2 => ?_) (fun c2 => ?_)
  · have h := h.1 c2
    refine g_sub (L' := [aR (some 66), aJ, aI r1]) ⟨Or.inr rfl, Or.inl rfl, Or.inr rfl, trivial⟩ ?_
    exact cb_X12_known_42 X hR hK   h
  · have h := h.2 c2
    refine g_aload_n (q := 30) 0 X dX12_known_29 rfl rfl rfl ?_
    refine g_getR (q := 33) (r := some (gR rv 66 4)) 12 4 X hM_4.1 (lt2000 (c := 0) (isM_lt0 hM_4.2)) kf_X12_167 (by decide) (by decide) rfl rfl (hK.n (by decide)) dX12_known_30 rfl ?_
    refine g_getR (q := 36) (r := some (gR rv 66 4 + 28)) 11 41 X (lkM_41 hK hM_4.2 (hK.2.2.2.2.2.2.2 _ hM_4.1 hM_4.2)) (lt2000 (c := 0) (isM_lt hM_4.2 (by decide))) kf_X12_184 (by decide) (by decide) rfl (shM_0 hM_4.2) (isM_n0 (hK.2.2.2.2.2.2.2 _ hM_4.1 hM_4.2)) dX12_known_33 rfl ?_
    refine g_iload_n (q := 37) 2 X dX12_known_36 rfl rfl rfl ?_
    obtain ⟨s3, h⟩ := h
    refine g_iald (q := 38) X (shM_28 hM_4.2) (isM_n (hK.2.2.2.2.2.2.2 _ hM_4.1 hM_4.2) (by decide)) s3 dX12_known_37 rfl ?_
    refine g_iload_n (q := 39) 1 X dX12_known_38 rfl rfl rfl ?_
    refine g_icmp_eq (q := 42) 47 X dX12_known_39 (by decide) rfl (fun c4 => ?_) (fun c4 => ?_)
    · have h := h.1 c4
      refine g_sub (L' := [aR (some 66), aJ, aI r1]) ⟨Or.inr rfl, Or.inl rfl, Or.inr rfl, trivial⟩ ?_
      exact cb_X12_known_47 X hR hK   h
    · have h := h.2 c4
      refine g_sub (L' := [aR (some 66), aJ, aI r1]) ⟨Or.inr rfl, Or.inl rfl, Or.inr rfl, trivial⟩ ?_
      exact cb_X12_known_42 X hR hK   h
def wp_X12_known (a1 : Int) (iv : IV) (rv : RV) (K : Int → IV → Prop) : Prop :=
  wp_X12_isName iv rv (fun r1 => ((r1 ≠ 0) → (bd_X12_known_12 a1 iv rv K)) ∧ ((r1 = 0) → (wp_X12_wrong 1 iv rv (fun iv3 => bd_X12_known_12 a1 iv3 rv K))))
set_option maxRecDepth 10000 in
theorem ce_X12_known {n : Nat} {iv : IV} {rv : RV} {K : Int → IV → Prop} {a1 : Int} (hK : Lk n rv)  (h : wp_X12_known a1 iv rv K) : Call 7 0 0 yX12_known cX12_known 3 (some .int) [aR (some 66), aI a1] n iv rv (fI1 n rv K) := by
  refine Call.by (L := [aR (some 66), aI a1, aJ]) (by decide) rfl ⟨trivial, trivial, trivial⟩ rfl (Nat.le_of_ble_eq_true rfl) (fun Γ X hR => ?_)
  unfold wp_X12_known at h
  refine g_aload_n (q := 1) 0 X dX12_known_0 rfl rfl rfl ?_
  refine g_cv (q := 4) [] 12 X (ce_X12_isName hK  h) kV_X12_163 rfl (by decide) rfl (hK.n (by decide)) rfl rfl (Nat.le_of_ble_eq_true rfl) (by decide) dX12_known_1 rfl (fun r n_ iv_ rv_ hf => ?_)
  obtain ⟨en_, ei_, er_, r1, rfl, br1, h⟩ := hf; subst n_; subst iv_; subst rv_
  refine g_if_ne (q := 7) 12 X dX12_known_4 (by decide) rfl (fun c2 => ?_) (fun c2 => ?_)
  · have h := h.1 c2
    exact cb_X12_known_12 X hR hK   h
  · have h := h.2 c2
    refine g_aload_n (q := 8) 0 X dX12_known_7 rfl rfl rfl ?_
    refine g_iconst (q := 9) 1 X dX12_known_8 rfl rfl ic_1 ?_
    refine g_cv (q := 12) [aI 1] 12 X (ce_X12_wrong hK  h) kV_X12_126 rfl (by decide) rfl (hK.n (by decide)) rfl rfl (Nat.le_of_ble_eq_true rfl) (by decide) dX12_known_9 rfl (fun r n_ iv_ rv_ hf => ?_)
    obtain ⟨en_, er_, rfl, h⟩ := hf; subst n_; subst rv_
    generalize iv_ = iv3 at h ⊢
    exact cb_X12_known_12 X hR hK   h
def wp_X12_readKnown (a1 : Int) (iv : IV) (rv : RV) (K : Int → IV → Prop) : Prop :=
  wp_X12_known a1 iv rv (fun r1 iv2 => wp_X12_goesOn iv2 rv (fun iv3 => K r1 iv3))
set_option maxRecDepth 10000 in
theorem ce_X12_readKnown {n : Nat} {iv : IV} {rv : RV} {K : Int → IV → Prop} {a1 : Int} (hK : Lk n rv)  (h : wp_X12_readKnown a1 iv rv K) : Call 8 0 0 yX12_readKnown cX12_readKnown 3 (some .int) [aR (some 66), aI a1] n iv rv (fI1 n rv K) := by
  refine Call.by (L := [aR (some 66), aI a1, aJ]) (by decide) rfl ⟨trivial, trivial, trivial⟩ rfl (Nat.le_of_ble_eq_true rfl) (fun Γ X hR => ?_)
  unfold wp_X12_readKnown at h
  refine g_aload_n (q := 1) 0 X dX12_readKnown_0 rfl rfl rfl ?_
  refine g_iload_n (q := 2) 1 X dX12_readKnown_1 rfl rfl rfl ?_
  refine g_cv (q := 5) [aI a1] 12 X (ce_X12_known hK  h) kV_X12_190 rfl (by decide) rfl (hK.n (by decide)) rfl rfl (Nat.le_of_ble_eq_true rfl) (by decide) dX12_readKnown_2 rfl (fun r n_ iv_ rv_ hf => ?_)
  obtain ⟨en_, er_, r1, rfl, h⟩ := hf; subst n_; subst rv_
  generalize iv_ = iv2 at h ⊢
  refine g_istore_n (q := 6) 2 (L' := [aR (some 66), aI a1, aI r1]) X dX12_readKnown_5 rfl rfl (by decide) rfl rfl ?_
  refine g_aload_n (q := 7) 0 X dX12_readKnown_6 rfl rfl rfl ?_
  refine g_cv (q := 10) [] 12 X (ce_X12_goesOn hK  h) kV_X12_123 rfl (by decide) rfl (hK.n (by decide)) rfl rfl (Nat.le_of_ble_eq_true rfl) (by decide) dX12_readKnown_7 rfl (fun r n_ iv_ rv_ hf => ?_)
  obtain ⟨en_, er_, rfl, h⟩ := hf; subst n_; subst rv_
  generalize iv_ = iv3 at h ⊢
  refine g_iload_n (q := 11) 2 X dX12_readKnown_10 rfl rfl rfl ?_
  exact g_iret (q := 0) X hR dX12_readKnown_11 rfl ⟨rfl, rfl, _, rfl, h⟩
def bd_X12_readOther_16 (l2 : Int) (iv : IV) (rv : RV) (K : Int → IV → Prop) : Prop :=
  wp_X12_goesOn iv rv (fun iv1 => K l2 iv1)
set_option maxRecDepth 10000 in
theorem cb_X12_readOther_16 {Γ : GX} {n : Nat} {iv : IV} {rv : RV} {K : Int → IV → Prop} {l2 : Int} (X : Cx Γ RX12 cX12_readOther 3 8) (hR : Rt Γ (some .int) 0 0 (fI1 n rv K)) (hK : Lk n rv)  (h : bd_X12_readOther_16 l2 iv rv K) : G Γ 3 16 [aR (some 66), aJ, aI l2] [] n iv rv 0 0 := by
  unfold bd_X12_readOther_16 at h
  refine g_aload_n (q := 17) 0 X dX12_readOther_16 rfl rfl rfl ?_
  refine g_cv (q := 20) [] 12 X (ce_X12_goesOn hK  h) kV_X12_123 rfl (by decide) rfl (hK.n (by decide)) rfl rfl (Nat.le_of_ble_eq_true rfl) (by decide) dX12_readOther_17 rfl (fun r n_ iv_ rv_ hf => ?_)
  obtain ⟨en_, er_, rfl, h⟩ := hf; subst n_; subst rv_
  generalize iv_ = iv1 at h ⊢
  refine g_iload_n (q := 21) 2 X dX12_readOther_20 rfl rfl rfl ?_
  exact g_iret (q := 0) X hR dX12_readOther_21 rfl ⟨rfl, rfl, _, rfl, h⟩
def wp_X12_readOther (a1 : Int) (iv : IV) (rv : RV) (K : Int → IV → Prop) : Prop :=
  wp_X12_known 0 iv rv (fun r1 iv2 => ((r1 ≠ a1) → (bd_X12_readOther_16 r1 iv2 rv K)) ∧ ((r1 = a1) → (wp_X12_wrong 3 iv2 rv (fun iv4 => bd_X12_readOther_16 r1 iv4 rv K))))
set_option maxRecDepth 10000 in
theorem ce_X12_readOther {n : Nat} {iv : IV} {rv : RV} {K : Int → IV → Prop} {a1 : Int} (hK : Lk n rv)  (h : wp_X12_readOther a1 iv rv K) : Call 8 0 0 yX12_readOther cX12_readOther 3 (some .int) [aR (some 66), aI a1] n iv rv (fI1 n rv K) := by
  refine Call.by (L := [aR (some 66), aI a1, aJ]) (by decide) rfl ⟨trivial, trivial, trivial⟩ rfl (Nat.le_of_ble_eq_true rfl) (fun Γ X hR => ?_)
  unfold wp_X12_readOther at h
  refine g_aload_n (q := 1) 0 X dX12_readOther_0 rfl rfl rfl ?_
  refine g_iconst (q := 2) 0 X dX12_readOther_1 rfl rfl ic_0 ?_
  refine g_cv (q := 5) [aI 0] 12 X (ce_X12_known hK  h) kV_X12_190 rfl (by decide) rfl (hK.n (by decide)) rfl rfl (Nat.le_of_ble_eq_true rfl) (by decide) dX12_readOther_2 rfl (fun r n_ iv_ rv_ hf => ?_)
  obtain ⟨en_, er_, r1, rfl, h⟩ := hf; subst n_; subst rv_
  generalize iv_ = iv2 at h ⊢
  refine g_istore_n (q := 6) 2 (L' := [aR (some 66), aI a1, aI r1]) X dX12_readOther_5 rfl rfl (by decide) rfl rfl ?_
  refine g_iload_n (q := 7) 2 X dX12_readOther_6 rfl rfl rfl ?_
  refine g_iload_n (q := 8) 1 X dX12_readOther_7 rfl rfl rfl ?_
  refine g_icmp_ne (q := 11) 16 X dX12_readOther_8 (by decide) rfl (fun c3 => ?_) (fun c3 => ?_)
  · have h := h.1 c3
    refine g_sub (L' := [aR (some 66), aJ, aI r1]) ⟨Or.inr rfl, Or.inl rfl, Or.inr rfl, trivial⟩ ?_
    exact cb_X12_readOther_16 X hR hK   h
  · have h := h.2 c3
    refine g_aload_n (q := 12) 0 X dX12_readOther_11 rfl rfl rfl ?_
    refine g_iconst (q := 13) 3 X dX12_readOther_12 rfl rfl ic_3 ?_
    refine g_cv (q := 16) [aI 3] 12 X (ce_X12_wrong hK  h) kV_X12_126 rfl (by decide) rfl (hK.n (by decide)) rfl rfl (Nat.le_of_ble_eq_true rfl) (by decide) dX12_readOther_13 rfl (fun r n_ iv_ rv_ hf => ?_)
    obtain ⟨en_, er_, rfl, h⟩ := hf; subst n_; subst rv_
    generalize iv_ = iv4 at h ⊢
    refine g_sub (L' := [aR (some 66), aJ, aI r1]) ⟨Or.inr rfl, Or.inl rfl, Or.inr rfl, trivial⟩ ?_
    exact cb_X12_readOther_16 X hR hK   h
def bd_X12_readEither_23 (w1 : Nat) (w2 : Nat) (l3 : Int) (iv : IV) (rv : RV) (K : Int → IV → Prop) : Prop :=
  wp_X12_goesOn iv rv (fun iv1 => (l3 = 0 ∨ l3 = 1) ∧ K l3 iv1)
set_option maxRecDepth 10000 in
theorem cb_X12_readEither_23 {Γ : GX} {n : Nat} {iv : IV} {rv : RV} {K : Int → IV → Prop} {w1 : Nat} {w2 : Nat} {l3 : Int} (X : Cx Γ RX12 cX12_readEither 4 6) (hR : Rt Γ (some .boolean) 0 0 (fB1 n rv K)) (hK : Lk n rv) (hw_w1 : w1 < 51) (hw_w2 : w2 < 51) (h : bd_X12_readEither_23 w1 w2 l3 iv rv K) : G Γ 4 23 [aR (some 66), aJ, aJ, aI l3] [] n iv rv 0 0 := by
  unfold bd_X12_readEither_23 at h
  refine g_aload_n (q := 24) 0 X dX12_readEither_23 rfl rfl rfl ?_
  refine g_cv (q := 27) [] 12 X (ce_X12_goesOn hK  h) kV_X12_123 rfl (by decide) rfl (hK.n (by decide)) rfl rfl (Nat.le_of_ble_eq_true rfl) (by decide) dX12_readEither_24 rfl (fun r n_ iv_ rv_ hf => ?_)
  obtain ⟨en_, er_, rfl, h⟩ := hf; subst n_; subst rv_
  generalize iv_ = iv1 at h ⊢
  refine g_iload_n (q := 28) 3 X dX12_readEither_27 rfl rfl rfl ?_
  obtain ⟨s2, h⟩ := h
  exact g_zret (q := 0) .boolean X hR (nar_B s2) dX12_readEither_28 rfl ⟨rfl, rfl, _, rfl, s2, h⟩
def wp_X12_readEither (w1 : Nat) (w2 : Nat) (iv : IV) (rv : RV) (K : Int → IV → Prop) : Prop :=
  wp_X12_isWord w2 iv rv (fun r1 => ((r1 ≠ 0) → (bd_X12_readEither_23 w1 w2 r1 iv rv K)) ∧ ((r1 = 0) → (wp_X12_isWord w1 iv rv (fun r3 => ((r3 ≠ 0) → (bd_X12_readEither_23 w1 w2 r1 iv rv K)) ∧ ((r3 = 0) → (wp_X12_wrong 1 iv rv (fun iv5 => bd_X12_readEither_23 w1 w2 r1 iv5 rv K)))))))
set_option maxRecDepth 10000 in
theorem ce_X12_readEither {n : Nat} {iv : IV} {rv : RV} {K : Int → IV → Prop} {w1 : Nat} {w2 : Nat} (hK : Lk n rv) (hw_w1 : w1 < 51) (hw_w2 : w2 < 51) (h : wp_X12_readEither w1 w2 iv rv K) : Call 6 0 0 yX12_readEither cX12_readEither 4 (some .boolean) [aR (some 66), aR (some (1000 + w1)), aR (some (1000 + w2))] n iv rv (fB1 n rv K) := by
  refine Call.by (L := [aR (some 66), aR (some (1000 + w1)), aR (some (1000 + w2)), aJ]) (by decide) rfl ⟨trivial, trivial, trivial, trivial⟩ rfl (Nat.le_of_ble_eq_true rfl) (fun Γ X hR => ?_)
  unfold wp_X12_readEither at h
  refine g_aload_n (q := 1) 0 X dX12_readEither_0 rfl rfl rfl ?_
  refine g_aload_n (q := 2) 2 X dX12_readEither_1 rfl rfl rfl ?_
  refine g_cv (q := 5) [aR (some (1000 + w2))] 12 X (ce_X12_isWord hK hw_w2 h) kV_X12_119 rfl (by decide) rfl (hK.n (by decide)) rfl rfl (Nat.le_of_ble_eq_true rfl) (by decide) dX12_readEither_2 rfl (fun r n_ iv_ rv_ hf => ?_)
  obtain ⟨en_, ei_, er_, r1, rfl, br1, h⟩ := hf; subst n_; subst iv_; subst rv_
  refine g_istore_n (q := 6) 3 (L' := [aR (some 66), aR (some (1000 + w1)), aR (some (1000 + w2)), aI r1]) X dX12_readEither_5 rfl rfl (by decide) rfl rfl ?_
  refine g_iload_n (q := 7) 3 X dX12_readEither_6 rfl rfl rfl ?_
  refine g_if_ne (q := 10) 23 X dX12_readEither_7 (by decide) rfl (fun c2 => ?_) (fun c2 => ?_)
  · have h := h.1 c2
    refine g_sub (L' := [aR (some 66), aJ, aJ, aI r1]) ⟨Or.inr rfl, Or.inl rfl, Or.inl rfl, Or.inr rfl, trivial⟩ ?_
    exact cb_X12_readEither_23 X hR hK hw_w1 hw_w2  h
  · have h := h.2 c2
    refine g_aload_n (q := 11) 0 X dX12_readEither_10 rfl rfl rfl ?_
    refine g_aload_n (q := 12) 1 X dX12_readEither_11 rfl rfl rfl ?_
    refine g_cv (q := 15) [aR (some (1000 + w1))] 12 X (ce_X12_isWord hK hw_w1 h) kV_X12_119 rfl (by decide) rfl (hK.n (by decide)) rfl rfl (Nat.le_of_ble_eq_true rfl) (by decide) dX12_readEither_12 rfl (fun r n_ iv_ rv_ hf => ?_)
    obtain ⟨en_, ei_, er_, r3, rfl, br3, h⟩ := hf; subst n_; subst iv_; subst rv_
    refine g_if_ne (q := 18) 23 X dX12_readEither_15 (by decide) rfl (fun c4 => ?_) (fun c4 => ?_)
    · have h := h.1 c4
      refine g_sub (L' := [aR (some 66), aJ, aJ, aI r1]) ⟨Or.inr rfl, Or.inl rfl, Or.inl rfl, Or.inr rfl, trivial⟩ ?_
      exact cb_X12_readEither_23 X hR hK hw_w1 hw_w2  h
    · have h := h.2 c4
      refine g_aload_n (q := 19) 0 X dX12_readEither_18 rfl rfl rfl ?_
      refine g_iconst (q := 20) 1 X dX12_readEither_19 rfl rfl ic_1 ?_
      refine g_cv (q := 23) [aI 1] 12 X (ce_X12_wrong hK  h) kV_X12_126 rfl (by decide) rfl (hK.n (by decide)) rfl rfl (Nat.le_of_ble_eq_true rfl) (by decide) dX12_readEither_20 rfl (fun r n_ iv_ rv_ hf => ?_)
      obtain ⟨en_, er_, rfl, h⟩ := hf; subst n_; subst rv_
      generalize iv_ = iv5 at h ⊢
      refine g_sub (L' := [aR (some 66), aJ, aJ, aI r1]) ⟨Or.inr rfl, Or.inl rfl, Or.inl rfl, Or.inr rfl, trivial⟩ ?_
      exact cb_X12_readEither_23 X hR hK hw_w1 hw_w2  h
def bd_X12_begins_10 (iv : IV) (rv : RV) (K : IV → Prop) : Prop :=
  wp_X12_goesOn iv rv (fun iv1 => K iv1)
set_option maxRecDepth 10000 in
theorem cb_X12_begins_10 {Γ : GX} {n : Nat} {iv : IV} {rv : RV} {K : IV → Prop} (X : Cx Γ RX12 cX12_begins 3 2) (hR : Rt Γ none 0 0 (fV1 n rv K)) (hK : Lk n rv)  (h : bd_X12_begins_10 iv rv K) : G Γ 3 10 [aR (some 66), aJ, aJ] [] n iv rv 0 0 := by
  unfold bd_X12_begins_10 at h
  refine g_aload_n (q := 11) 0 X dX12_begins_10 rfl rfl rfl ?_
  refine g_cv (q := 14) [] 12 X (ce_X12_goesOn hK  h) kV_X12_123 rfl (by decide) rfl (hK.n (by decide)) rfl rfl (Nat.le_of_ble_eq_true rfl) (by decide) dX12_begins_11 rfl (fun r n_ iv_ rv_ hf => ?_)
  obtain ⟨en_, er_, rfl, h⟩ := hf; subst n_; subst rv_
  generalize iv_ = iv1 at h ⊢
  exact g_vret (q := 0) X hR dX12_begins_14 rfl ⟨rfl, rfl, rfl, h⟩
def wp_X12_begins (a1 : Int) (a2 : Int) (iv : IV) (rv : RV) (K : IV → Prop) : Prop :=
  ((a1 ≠ a2) → (bd_X12_begins_10 iv rv K)) ∧ ((a1 = a2) → (wp_X12_wrong 5 iv rv (fun iv2 => bd_X12_begins_10 iv2 rv K)))
set_option maxRecDepth 10000 in
theorem ce_X12_begins {n : Nat} {iv : IV} {rv : RV} {K : IV → Prop} {a1 : Int} {a2 : Int} (hK : Lk n rv)  (h : wp_X12_begins a1 a2 iv rv K) : Call 2 0 0 yX12_begins cX12_begins 3 none [aR (some 66), aI a1, aI a2] n iv rv (fV1 n rv K) := by
  refine Call.by (L := [aR (some 66), aI a1, aI a2]) (by decide) rfl ⟨trivial, trivial, trivial, trivial⟩ rfl (Nat.le_of_ble_eq_true rfl) (fun Γ X hR => ?_)
  unfold wp_X12_begins at h
  refine g_iload_n (q := 1) 1 X dX12_begins_0 rfl rfl rfl ?_
  refine g_iload_n (q := 2) 2 X dX12_begins_1 rfl rfl rfl ?_
  refine g_icmp_ne (q := 5) 10 X dX12_begins_2 (by decide) rfl (fun c1 => ?_) (fun c1 => ?_)
  · have h := h.1 c1
    refine g_sub (L' := [aR (some 66), aJ, aJ]) ⟨Or.inr rfl, Or.inl rfl, Or.inl rfl, trivial⟩ ?_
    exact cb_X12_begins_10 X hR hK   h
  · have h := h.2 c1
    refine g_aload_n (q := 6) 0 X dX12_begins_5 rfl rfl rfl ?_
    refine g_iconst (q := 7) 5 X dX12_begins_6 rfl rfl ic_5 ?_
    refine g_cv (q := 10) [aI 5] 12 X (ce_X12_wrong hK  h) kV_X12_126 rfl (by decide) rfl (hK.n (by decide)) rfl rfl (Nat.le_of_ble_eq_true rfl) (by decide) dX12_begins_7 rfl (fun r n_ iv_ rv_ hf => ?_)
    obtain ⟨en_, er_, rfl, h⟩ := hf; subst n_; subst rv_
    generalize iv_ = iv2 at h ⊢
    refine g_sub (L' := [aR (some 66), aJ, aJ]) ⟨Or.inr rfl, Or.inl rfl, Or.inl rfl, trivial⟩ ?_
    exact cb_X12_begins_10 X hR hK   h
def bd_X12_readCart_181 (l4 l5 l6 l7 l8 t0 t1 : Int) (iv : IV) (rv : RV) (K : IV → Prop) : Prop :=
  (hMm rv 66 4) ∧ (0 ≤ t1 ∧ t1 < 6) ∧ ∀ iv2, iv2 = w2 iv (gR rv 66 4 + 22) t1.toNat t0 → (0 ≤ l8 ∧ l8 < 6) ∧ ∀ iv4, iv4 = w2 iv2 (gR rv 66 4 + 23) l8.toNat l4 → (0 ≤ l8 ∧ l8 < 6) ∧ ∀ iv6, iv6 = w2 iv4 (gR rv 66 4 + 24) l8.toNat l5 → (0 ≤ l8 ∧ l8 < 6) ∧ ∀ iv8, iv8 = w2 iv6 (gR rv 66 4 + 25) l8.toNat l6 → (0 ≤ l8 ∧ l8 < 6) ∧ ∀ iv10, iv10 = w2 iv8 (gR rv 66 4 + 26) l8.toNat l7 → ∀ iv11, iv11 = w2 iv10 (gR rv 66 4) 11 (w32 ((iv10 (gR rv 66 4) 11) + 1)) → K iv11
set_option maxRecDepth 10000 in
theorem cb_X12_readCart_181 {Γ : GX} {n : Nat} {iv : IV} {rv : RV} {K : IV → Prop} {l4 l5 l6 l7 l8 t0 t1 : Int} (X : Cx Γ RX12 cX12_readCart 9 9) (hR : Rt Γ none 0 0 (fV1 n rv K)) (hK : Lk n rv)  (h : bd_X12_readCart_181 l4 l5 l6 l7 l8 t0 t1 iv rv K) : G Γ 9 181 [aR (some 66), aJ, aJ, aJ, aI l4, aI l5, aI l6, aI l7, aI l8] [aI t0, aI t1, aR (some (gR rv 66 4 + 22))] n iv rv 0 0 := by
  unfold bd_X12_readCart_181 at h
  obtain ⟨hM_4, h⟩ := h
  obtain ⟨s1, h⟩ := h
  refine g_iast (q := 182) X (shM_22 hM_4.2) (isM_n (hK.2.2.2.2.2.2.2 _ hM_4.1 hM_4.2) (by decide)) s1 dX12_readCart_181 rfl ?_
  refine g_nmM (fun iv2 eiv2 => ?_)
  have h := h iv2 eiv2
  refine g_aload_n (q := 183) 0 X dX12_readCart_182 rfl rfl rfl ?_
  refine g_getR (q := 186) (r := some (gR rv 66 4)) 12 4 X hM_4.1 (lt2000 (c := 0) (isM_lt0 hM_4.2)) kf_X12_167 (by decide) (by decide) rfl rfl (hK.n (by decide)) dX12_readCart_183 rfl ?_
  refine g_getR (q := 189) (r := some (gR rv 66 4 + 23)) 11 36 X (lkM_36 hK hM_4.2 (hK.2.2.2.2.2.2.2 _ hM_4.1 hM_4.2)) (lt2000 (c := 0) (isM_lt hM_4.2 (by decide))) kf_X12_423 (by decide) (by decide) rfl (shM_0 hM_4.2) (isM_n0 (hK.2.2.2.2.2.2.2 _ hM_4.1 hM_4.2)) dX12_readCart_186 rfl ?_
  refine g_iload (q := 191) 8 X dX12_readCart_189 rfl rfl ?_
  refine g_iload (q := 193) 4 X dX12_readCart_191 rfl rfl ?_
  obtain ⟨s3, h⟩ := h
  refine g_iast (q := 194) X (shM_23 hM_4.2) (isM_n (hK.2.2.2.2.2.2.2 _ hM_4.1 hM_4.2) (by decide)) s3 dX12_readCart_193 rfl ?_
  refine g_nmM (fun iv4 eiv4 => ?_)
  have h := h iv4 eiv4
  refine g_aload_n (q := 195) 0 X dX12_readCart_194 rfl rfl rfl ?_
  refine g_getR (q := 198) (r := some (gR rv 66 4)) 12 4 X hM_4.1 (lt2000 (c := 0) (isM_lt0 hM_4.2)) kf_X12_167 (by decide) (by decide) rfl rfl (hK.n (by decide)) dX12_readCart_195 rfl ?_
  refine g_getR (q := 201) (r := some (gR rv 66 4 + 24)) 11 37 X (lkM_37 hK hM_4.2 (hK.2.2.2.2.2.2.2 _ hM_4.1 hM_4.2)) (lt2000 (c := 0) (isM_lt hM_4.2 (by decide))) kf_X12_426 (by decide) (by decide) rfl (shM_0 hM_4.2) (isM_n0 (hK.2.2.2.2.2.2.2 _ hM_4.1 hM_4.2)) dX12_readCart_198 rfl ?_
  refine g_iload (q := 203) 8 X dX12_readCart_201 rfl rfl ?_
  refine g_iload (q := 205) 5 X dX12_readCart_203 rfl rfl ?_
  obtain ⟨s5, h⟩ := h
  refine g_iast (q := 206) X (shM_24 hM_4.2) (isM_n (hK.2.2.2.2.2.2.2 _ hM_4.1 hM_4.2) (by decide)) s5 dX12_readCart_205 rfl ?_
  refine g_nmM (fun iv6 eiv6 => ?_)
  have h := h iv6 eiv6
  refine g_aload_n (q := 207) 0 X dX12_readCart_206 rfl rfl rfl ?_
  refine g_getR (q := 210) (r := some (gR rv 66 4)) 12 4 X hM_4.1 (lt2000 (c := 0) (isM_lt0 hM_4.2)) kf_X12_167 (by decide) (by decide) rfl rfl (hK.n (by decide)) dX12_readCart_207 rfl ?_
  refine g_getR (q := 213) (r := some (gR rv 66 4 + 25)) 11 38 X (lkM_38 hK hM_4.2 (hK.2.2.2.2.2.2.2 _ hM_4.1 hM_4.2)) (lt2000 (c := 0) (isM_lt hM_4.2 (by decide))) kf_X12_429 (by decide) (by decide) rfl (shM_0 hM_4.2) (isM_n0 (hK.2.2.2.2.2.2.2 _ hM_4.1 hM_4.2)) dX12_readCart_210 rfl ?_
  refine g_iload (q := 215) 8 X dX12_readCart_213 rfl rfl ?_
  refine g_iload (q := 217) 6 X dX12_readCart_215 rfl rfl ?_
  obtain ⟨s7, h⟩ := h
  refine g_iast (q := 218) X (shM_25 hM_4.2) (isM_n (hK.2.2.2.2.2.2.2 _ hM_4.1 hM_4.2) (by decide)) s7 dX12_readCart_217 rfl ?_
  refine g_nmM (fun iv8 eiv8 => ?_)
  have h := h iv8 eiv8
  refine g_aload_n (q := 219) 0 X dX12_readCart_218 rfl rfl rfl ?_
  refine g_getR (q := 222) (r := some (gR rv 66 4)) 12 4 X hM_4.1 (lt2000 (c := 0) (isM_lt0 hM_4.2)) kf_X12_167 (by decide) (by decide) rfl rfl (hK.n (by decide)) dX12_readCart_219 rfl ?_
  refine g_getR (q := 225) (r := some (gR rv 66 4 + 26)) 11 39 X (lkM_39 hK hM_4.2 (hK.2.2.2.2.2.2.2 _ hM_4.1 hM_4.2)) (lt2000 (c := 0) (isM_lt hM_4.2 (by decide))) kf_X12_432 (by decide) (by decide) rfl (shM_0 hM_4.2) (isM_n0 (hK.2.2.2.2.2.2.2 _ hM_4.1 hM_4.2)) dX12_readCart_222 rfl ?_
  refine g_iload (q := 227) 8 X dX12_readCart_225 rfl rfl ?_
  refine g_iload (q := 229) 7 X dX12_readCart_227 rfl rfl ?_
  obtain ⟨s9, h⟩ := h
  refine g_iast (q := 230) X (shM_26 hM_4.2) (isM_n (hK.2.2.2.2.2.2.2 _ hM_4.1 hM_4.2) (by decide)) s9 dX12_readCart_229 rfl ?_
  refine g_nmM (fun iv10 eiv10 => ?_)
  have h := h iv10 eiv10
  refine g_aload_n (q := 231) 0 X dX12_readCart_230 rfl rfl rfl ?_
  refine g_getR (q := 234) (r := some (gR rv 66 4)) 12 4 X hM_4.1 (lt2000 (c := 0) (isM_lt0 hM_4.2)) kf_X12_167 (by decide) (by decide) rfl rfl (hK.n (by decide)) dX12_readCart_231 rfl ?_
  refine g_dup (q := 235) X dX12_readCart_234 rfl rfl ?_
  refine g_getI (q := 238) 11 11 X kf_X12_405 (by decide) (by decide) rfl (shM_0 hM_4.2) (isM_n0 (hK.2.2.2.2.2.2.2 _ hM_4.1 hM_4.2)) dX12_readCart_235 rfl ?_
  refine g_iconst (q := 239) 1 X dX12_readCart_238 rfl rfl ic_1 ?_
  refine g_iadd (q := 240) X dX12_readCart_239 rfl ?_
  refine g_putI (q := 243) 11 11 X (Or.inl rfl) rfl kf_X12_405 (by decide) (by decide) (shM_0 hM_4.2) (isM_n0 (hK.2.2.2.2.2.2.2 _ hM_4.1 hM_4.2)) dX12_readCart_240 rfl ?_
  refine g_nmM (fun iv11 eiv11 => ?_)
  have h := h iv11 eiv11
  exact g_vret (q := 0) X hR dX12_readCart_243 rfl ⟨rfl, rfl, rfl, h⟩
def wp_X12_readCart (iv : IV) (rv : RV) (K : IV → Prop) : Prop :=
  (hMm rv 66 4) ∧ wp_X12_begins (iv (gR rv 66 4) 11) 6 iv rv (fun iv1 => wp_X12_readFresh 6 (iv1 (gR rv 66 4) 11) iv1 rv (fun iv2 => wp_X12_needs 30 iv2 rv (fun iv3 => wp_X12_readKnown 2 iv3 rv (fun r4 iv5 => wp_X12_needs 50 iv5 rv (fun iv6 => wp_X12_readKnown 1 iv6 rv (fun r7 iv8 => wp_X12_readEither 34 49 iv8 rv (fun r9 iv10 => wp_X12_needs 22 iv10 rv (fun iv11 => wp_X12_readWhole 1 99 iv11 rv (fun r12 iv13 => wp_X12_needs 15 iv13 rv (fun iv14 => wp_X12_readKnown 0 iv14 rv (fun r15 iv16 => wp_X12_needs 48 iv16 rv (fun iv17 => wp_X12_readOther r15 iv17 rv (fun r18 iv19 => wp_X12_needs 12 iv19 rv (fun iv20 => wp_X12_readWhole 0 999 iv20 rv (fun r21 iv22 => (((iv22 66 9) ≠ 5) → (∀ x24, x24 = iv22 (gR rv 66 4) 11 → (0 ≤ x24 ∧ x24 < 6) ∧ ∀ iv26, iv26 = w2 iv22 (gR rv 66 4 + 20) x24.toNat r4 → (0 ≤ x24 ∧ x24 < 6) ∧ ∀ iv28, iv28 = w2 iv26 (gR rv 66 4 + 21) x24.toNat r7 → ((r9 = 0) → (bd_X12_readCart_181 r12 r15 r18 r21 x24 0 x24 iv28 rv K)) ∧ ((¬ (r9 = 0)) → (bd_X12_readCart_181 r12 r15 r18 r21 x24 1 x24 iv28 rv K)))) ∧ (((iv22 66 9) = 5) → (K iv22)))))))))))))))))
set_option maxRecDepth 10000 in
theorem ce_X12_readCart {n : Nat} {iv : IV} {rv : RV} {K : IV → Prop} (hK : Lk n rv)  (h : wp_X12_readCart  iv rv K) : Call 9 0 0 yX12_readCart cX12_readCart 9 none [aR (some 66)] n iv rv (fV1 n rv K) := by
  refine Call.by (L := [aR (some 66), aJ, aJ, aJ, aJ, aJ, aJ, aJ, aJ]) (by decide) rfl ⟨trivial, trivial⟩ rfl (Nat.le_of_ble_eq_true rfl) (fun Γ X hR => ?_)
  unfold wp_X12_readCart at h
  refine g_aload_n (q := 1) 0 X dX12_readCart_0 rfl rfl rfl ?_
  refine g_aload_n (q := 2) 0 X dX12_readCart_1 rfl rfl rfl ?_
  obtain ⟨hM_4, h⟩ := h
  refine g_getR (q := 5) (r := some (gR rv 66 4)) 12 4 X hM_4.1 (lt2000 (c := 0) (isM_lt0 hM_4.2)) kf_X12_167 (by decide) (by decide) rfl rfl (hK.n (by decide)) dX12_readCart_2 rfl ?_
  refine g_getI (q := 8) 11 11 X kf_X12_405 (by decide) (by decide) rfl (shM_0 hM_4.2) (isM_n0 (hK.2.2.2.2.2.2.2 _ hM_4.1 hM_4.2)) dX12_readCart_5 rfl ?_
  refine g_bipush (q := 10) 6 X dX12_readCart_8 rfl bc_6 ic_6 ?_
  refine g_cv (q := 13) [aI (iv (gR rv 66 4) 11), aI 6] 12 X (ce_X12_begins hK  h) kV_X12_238 rfl (by decide) rfl (hK.n (by decide)) rfl rfl (Nat.le_of_ble_eq_true rfl) (by decide) dX12_readCart_10 rfl (fun r n_ iv_ rv_ hf => ?_)
  obtain ⟨en_, er_, rfl, h⟩ := hf; subst n_; subst rv_
  generalize iv_ = iv1 at h ⊢
  refine g_aload_n (q := 14) 0 X dX12_readCart_13 rfl rfl rfl ?_
  refine g_bipush (q := 16) 6 X dX12_readCart_14 rfl bc_6 ic_6 ?_
  refine g_aload_n (q := 17) 0 X dX12_readCart_16 rfl rfl rfl ?_
  refine g_getR (q := 20) (r := some (gR rv 66 4)) 12 4 X hM_4.1 (lt2000 (c := 0) (isM_lt0 hM_4.2)) kf_X12_167 (by decide) (by decide) rfl rfl (hK.n (by decide)) dX12_readCart_17 rfl ?_
  refine g_getI (q := 23) 11 11 X kf_X12_405 (by decide) (by decide) rfl (shM_0 hM_4.2) (isM_n0 (hK.2.2.2.2.2.2.2 _ hM_4.1 hM_4.2)) dX12_readCart_20 rfl ?_
  refine g_cv (q := 26) [aI 6, aI (iv1 (gR rv 66 4) 11)] 12 X (ce_X12_readFresh hK  h) kV_X12_242 rfl (by decide) rfl (hK.n (by decide)) rfl rfl (Nat.le_of_ble_eq_true rfl) (by decide) dX12_readCart_23 rfl (fun r n_ iv_ rv_ hf => ?_)
  obtain ⟨en_, er_, rfl, h⟩ := hf; subst n_; subst rv_
  generalize iv_ = iv2 at h ⊢
  refine g_aload_n (q := 27) 0 X dX12_readCart_26 rfl rfl rfl ?_
  refine g_ldcS (q := 29) 30 X st_X12_250 (by decide) dX12_readCart_27 rfl ?_
  refine g_cv (q := 32) [aR (some (1000 + 30))] 12 X (ce_X12_needs hK (by decide) h) kV_X12_252 rfl (by decide) rfl (hK.n (by decide)) rfl rfl (Nat.le_of_ble_eq_true rfl) (by decide) dX12_readCart_29 rfl (fun r n_ iv_ rv_ hf => ?_)
  obtain ⟨en_, er_, rfl, h⟩ := hf; subst n_; subst rv_
  generalize iv_ = iv3 at h ⊢
  refine g_aload_n (q := 33) 0 X dX12_readCart_32 rfl rfl rfl ?_
  refine g_iconst (q := 34) 2 X dX12_readCart_33 rfl rfl ic_2 ?_
  refine g_cv (q := 37) [aI 2] 12 X (ce_X12_readKnown hK  h) kV_X12_256 rfl (by decide) rfl (hK.n (by decide)) rfl rfl (Nat.le_of_ble_eq_true rfl) (by decide) dX12_readCart_34 rfl (fun r n_ iv_ rv_ hf => ?_)
  obtain ⟨en_, er_, r4, rfl, h⟩ := hf; subst n_; subst rv_
  generalize iv_ = iv5 at h ⊢
  refine g_istore_n (q := 38) 1 (L' := [aR (some 66), aI r4, aJ, aJ, aJ, aJ, aJ, aJ, aJ]) X dX12_readCart_37 rfl rfl (by decide) rfl rfl ?_
  refine g_aload_n (q := 39) 0 X dX12_readCart_38 rfl rfl rfl ?_
  refine g_ldcwS (q := 42) 50 X st_X12_408 (by decide) dX12_readCart_39 rfl ?_
  refine g_cv (q := 45) [aR (some (1000 + 50))] 12 X (ce_X12_needs hK (by decide) h) kV_X12_252 rfl (by decide) rfl (hK.n (by decide)) rfl rfl (Nat.le_of_ble_eq_true rfl) (by decide) dX12_readCart_42 rfl (fun r n_ iv_ rv_ hf => ?_)
  obtain ⟨en_, er_, rfl, h⟩ := hf; subst n_; subst rv_
  generalize iv_ = iv6 at h ⊢
  refine g_aload_n (q := 46) 0 X dX12_readCart_45 rfl rfl rfl ?_
  refine g_iconst (q := 47) 1 X dX12_readCart_46 rfl rfl ic_1 ?_
  refine g_cv (q := 50) [aI 1] 12 X (ce_X12_readKnown hK  h) kV_X12_256 rfl (by decide) rfl (hK.n (by decide)) rfl rfl (Nat.le_of_ble_eq_true rfl) (by decide) dX12_readCart_47 rfl (fun r n_ iv_ rv_ hf => ?_)
  obtain ⟨en_, er_, r7, rfl, h⟩ := hf; subst n_; subst rv_
  generalize iv_ = iv8 at h ⊢
  refine g_istore_n (q := 51) 2 (L' := [aR (some 66), aI r4, aI r7, aJ, aJ, aJ, aJ, aJ, aJ]) X dX12_readCart_50 rfl rfl (by decide) rfl rfl ?_
  refine g_aload_n (q := 52) 0 X dX12_readCart_51 rfl rfl rfl ?_
  refine g_ldcwS (q := 55) 34 X st_X12_339 (by decide) dX12_readCart_52 rfl ?_
  refine g_ldcwS (q := 58) 49 X st_X12_341 (by decide) dX12_readCart_55 rfl ?_
  refine g_cv (q := 61) [aR (some (1000 + 34)), aR (some (1000 + 49))] 12 X (ce_X12_readEither hK (by decide) (by decide) h) kV_X12_378 rfl (by decide) rfl (hK.n (by decide)) rfl rfl (Nat.le_of_ble_eq_true rfl) (by decide) dX12_readCart_58 rfl (fun r n_ iv_ rv_ hf => ?_)
  obtain ⟨en_, er_, r9, rfl, br9, h⟩ := hf; subst n_; subst rv_
  generalize iv_ = iv10 at h ⊢
  refine g_istore_n (q := 62) 3 (L' := [aR (some 66), aI r4, aI r7, aI r9, aJ, aJ, aJ, aJ, aJ]) X dX12_readCart_61 rfl rfl (by decide) rfl rfl ?_
  refine g_aload_n (q := 63) 0 X dX12_readCart_62 rfl rfl rfl ?_
  refine g_ldcwS (q := 66) 22 X st_X12_410 (by decide) dX12_readCart_63 rfl ?_
  refine g_cv (q := 69) [aR (some (1000 + 22))] 12 X (ce_X12_needs hK (by decide) h) kV_X12_252 rfl (by decide) rfl (hK.n (by decide)) rfl rfl (Nat.le_of_ble_eq_true rfl) (by decide) dX12_readCart_66 rfl (fun r n_ iv_ rv_ hf => ?_)
  obtain ⟨en_, er_, rfl, h⟩ := hf; subst n_; subst rv_
  generalize iv_ = iv11 at h ⊢
  refine g_aload_n (q := 70) 0 X dX12_readCart_69 rfl rfl rfl ?_
  refine g_iconst (q := 71) 1 X dX12_readCart_70 rfl rfl ic_1 ?_
  refine g_bipush (q := 73) 99 X dX12_readCart_71 rfl bc_99 ic_99 ?_
  refine g_cv (q := 76) [aI 1, aI 99] 12 X (ce_X12_readWhole hK  h) kV_X12_261 rfl (by decide) rfl (hK.n (by decide)) rfl rfl (Nat.le_of_ble_eq_true rfl) (by decide) dX12_readCart_73 rfl (fun r n_ iv_ rv_ hf => ?_)
  obtain ⟨en_, er_, r12, rfl, h⟩ := hf; subst n_; subst rv_
  generalize iv_ = iv13 at h ⊢
  refine g_istore (q := 78) (k0 := 0) 4 (L' := [aR (some 66), aI r4, aI r7, aI r9, aI r12, aJ, aJ, aJ, aJ]) X dX12_readCart_76 rfl (by decide) rfl rfl ?_
  refine g_aload_n (q := 79) 0 X dX12_readCart_78 rfl rfl rfl ?_
  refine g_ldcwS (q := 82) 15 X st_X12_412 (by decide) dX12_readCart_79 rfl ?_
  refine g_cv (q := 85) [aR (some (1000 + 15))] 12 X (ce_X12_needs hK (by decide) h) kV_X12_252 rfl (by decide) rfl (hK.n (by decide)) rfl rfl (Nat.le_of_ble_eq_true rfl) (by decide) dX12_readCart_82 rfl (fun r n_ iv_ rv_ hf => ?_)
  obtain ⟨en_, er_, rfl, h⟩ := hf; subst n_; subst rv_
  generalize iv_ = iv14 at h ⊢
  refine g_aload_n (q := 86) 0 X dX12_readCart_85 rfl rfl rfl ?_
  refine g_iconst (q := 87) 0 X dX12_readCart_86 rfl rfl ic_0 ?_
  refine g_cv (q := 90) [aI 0] 12 X (ce_X12_readKnown hK  h) kV_X12_256 rfl (by decide) rfl (hK.n (by decide)) rfl rfl (Nat.le_of_ble_eq_true rfl) (by decide) dX12_readCart_87 rfl (fun r n_ iv_ rv_ hf => ?_)
  obtain ⟨en_, er_, r15, rfl, h⟩ := hf; subst n_; subst rv_
  generalize iv_ = iv16 at h ⊢
  refine g_istore (q := 92) (k0 := 0) 5 (L' := [aR (some 66), aI r4, aI r7, aI r9, aI r12, aI r15, aJ, aJ, aJ]) X dX12_readCart_90 rfl (by decide) rfl rfl ?_
  refine g_aload_n (q := 93) 0 X dX12_readCart_92 rfl rfl rfl ?_
  refine g_ldcS (q := 95) 48 X st_X12_159 (by decide) dX12_readCart_93 rfl ?_
  refine g_cv (q := 98) [aR (some (1000 + 48))] 12 X (ce_X12_needs hK (by decide) h) kV_X12_252 rfl (by decide) rfl (hK.n (by decide)) rfl rfl (Nat.le_of_ble_eq_true rfl) (by decide) dX12_readCart_95 rfl (fun r n_ iv_ rv_ hf => ?_)
  obtain ⟨en_, er_, rfl, h⟩ := hf; subst n_; subst rv_
  generalize iv_ = iv17 at h ⊢
  refine g_aload_n (q := 99) 0 X dX12_readCart_98 rfl rfl rfl ?_
  refine g_iload (q := 101) 5 X dX12_readCart_99 rfl rfl ?_
  refine g_cv (q := 104) [aI r15] 12 X (ce_X12_readOther hK  h) kV_X12_271 rfl (by decide) rfl (hK.n (by decide)) rfl rfl (Nat.le_of_ble_eq_true rfl) (by decide) dX12_readCart_101 rfl (fun r n_ iv_ rv_ hf => ?_)
  obtain ⟨en_, er_, r18, rfl, h⟩ := hf; subst n_; subst rv_
  generalize iv_ = iv19 at h ⊢
  refine g_istore (q := 106) (k0 := 0) 6 (L' := [aR (some 66), aI r4, aI r7, aI r9, aI r12, aI r15, aI r18, aJ, aJ]) X dX12_readCart_104 rfl (by decide) rfl rfl ?_
  refine g_aload_n (q := 107) 0 X dX12_readCart_106 rfl rfl rfl ?_
  refine g_ldcwS (q := 110) 12 X st_X12_305 (by decide) dX12_readCart_107 rfl ?_
  refine g_cv (q := 113) [aR (some (1000 + 12))] 12 X (ce_X12_needs hK (by decide) h) kV_X12_252 rfl (by decide) rfl (hK.n (by decide)) rfl rfl (Nat.le_of_ble_eq_true rfl) (by decide) dX12_readCart_110 rfl (fun r n_ iv_ rv_ hf => ?_)
  obtain ⟨en_, er_, rfl, h⟩ := hf; subst n_; subst rv_
  generalize iv_ = iv20 at h ⊢
  refine g_aload_n (q := 114) 0 X dX12_readCart_113 rfl rfl rfl ?_
  refine g_iconst (q := 115) 0 X dX12_readCart_114 rfl rfl ic_0 ?_
  refine g_sipush (q := 118) 999 X dX12_readCart_115 rfl sc_999 ic_999 ?_
  refine g_cv (q := 121) [aI 0, aI 999] 12 X (ce_X12_readWhole hK  h) kV_X12_261 rfl (by decide) rfl (hK.n (by decide)) rfl rfl (Nat.le_of_ble_eq_true rfl) (by decide) dX12_readCart_118 rfl (fun r n_ iv_ rv_ hf => ?_)
  obtain ⟨en_, er_, r21, rfl, h⟩ := hf; subst n_; subst rv_
  generalize iv_ = iv22 at h ⊢
  refine g_istore (q := 123) (k0 := 0) 7 (L' := [aR (some 66), aI r4, aI r7, aI r9, aI r12, aI r15, aI r18, aI r21, aJ]) X dX12_readCart_121 rfl (by decide) rfl rfl ?_
  refine g_aload_n (q := 124) 0 X dX12_readCart_123 rfl rfl rfl ?_
  refine g_getI (q := 127) 12 9 X kf_X12_83 (by decide) (by decide) rfl rfl (hK.n (by decide)) dX12_readCart_124 rfl ?_
  refine g_iconst (q := 128) 5 X dX12_readCart_127 rfl rfl ic_5 ?_
  refine g_icmp_ne (q := 131) 132 X dX12_readCart_128 (by decide) rfl (fun c23 => ?_) (fun c23 => ?_)
  · have h := h.1 c23
    refine g_aload_n (q := 133) 0 X dX12_readCart_132 rfl rfl rfl ?_
    refine g_getR (q := 136) (r := some (gR rv 66 4)) 12 4 X hM_4.1 (lt2000 (c := 0) (isM_lt0 hM_4.2)) kf_X12_167 (by decide) (by decide) rfl rfl (hK.n (by decide)) dX12_readCart_133 rfl ?_
    refine g_getI (q := 139) 11 11 X kf_X12_405 (by decide) (by decide) rfl (shM_0 hM_4.2) (isM_n0 (hK.2.2.2.2.2.2.2 _ hM_4.1 hM_4.2)) dX12_readCart_136 rfl ?_
    refine g_nmI (fun x24 ex24 => ?_)
    have h := h x24 ex24
    refine g_istore (q := 141) (k0 := 0) 8 (L' := [aR (some 66), aI r4, aI r7, aI r9, aI r12, aI r15, aI r18, aI r21, aI x24]) X dX12_readCart_139 rfl (by decide) rfl rfl ?_
    refine g_aload_n (q := 142) 0 X dX12_readCart_141 rfl rfl rfl ?_
    refine g_getR (q := 145) (r := some (gR rv 66 4)) 12 4 X hM_4.1 (lt2000 (c := 0) (isM_lt0 hM_4.2)) kf_X12_167 (by decide) (by decide) rfl rfl (hK.n (by decide)) dX12_readCart_142 rfl ?_
    refine g_getR (q := 148) (r := some (gR rv 66 4 + 20)) 11 33 X (lkM_33 hK hM_4.2 (hK.2.2.2.2.2.2.2 _ hM_4.1 hM_4.2)) (lt2000 (c := 0) (isM_lt hM_4.2 (by decide))) kf_X12_414 (by decide) (by decide) rfl (shM_0 hM_4.2) (isM_n0 (hK.2.2.2.2.2.2.2 _ hM_4.1 hM_4.2)) dX12_readCart_145 rfl ?_
    refine g_iload (q := 150) 8 X dX12_readCart_148 rfl rfl ?_
    refine g_iload_n (q := 151) 1 X dX12_readCart_150 rfl rfl rfl ?_
    obtain ⟨s25, h⟩ := h
    refine g_iast (q := 152) X (shM_20 hM_4.2) (isM_n (hK.2.2.2.2.2.2.2 _ hM_4.1 hM_4.2) (by decide)) s25 dX12_readCart_151 rfl ?_
    refine g_nmM (fun iv26 eiv26 => ?_)
    have h := h iv26 eiv26
    refine g_aload_n (q := 153) 0 X dX12_readCart_152 rfl rfl rfl ?_
    refine g_getR (q := 156) (r := some (gR rv 66 4)) 12 4 X hM_4.1 (lt2000 (c := 0) (isM_lt0 hM_4.2)) kf_X12_167 (by decide) (by decide) rfl rfl (hK.n (by decide)) dX12_readCart_153 rfl ?_
    refine g_getR (q := 159) (r := some (gR rv 66 4 + 21)) 11 34 X (lkM_34 hK hM_4.2 (hK.2.2.2.2.2.2.2 _ hM_4.1 hM_4.2)) (lt2000 (c := 0) (isM_lt hM_4.2 (by decide))) kf_X12_417 (by decide) (by decide) rfl (shM_0 hM_4.2) (isM_n0 (hK.2.2.2.2.2.2.2 _ hM_4.1 hM_4.2)) dX12_readCart_156 rfl ?_
    refine g_iload (q := 161) 8 X dX12_readCart_159 rfl rfl ?_
    refine g_iload_n (q := 162) 2 X dX12_readCart_161 rfl rfl rfl ?_
    obtain ⟨s27, h⟩ := h
    refine g_iast (q := 163) X (shM_21 hM_4.2) (isM_n (hK.2.2.2.2.2.2.2 _ hM_4.1 hM_4.2) (by decide)) s27 dX12_readCart_162 rfl ?_
    refine g_nmM (fun iv28 eiv28 => ?_)
    have h := h iv28 eiv28
    refine g_aload_n (q := 164) 0 X dX12_readCart_163 rfl rfl rfl ?_
    refine g_getR (q := 167) (r := some (gR rv 66 4)) 12 4 X hM_4.1 (lt2000 (c := 0) (isM_lt0 hM_4.2)) kf_X12_167 (by decide) (by decide) rfl rfl (hK.n (by decide)) dX12_readCart_164 rfl ?_
    refine g_getR (q := 170) (r := some (gR rv 66 4 + 22)) 11 35 X (lkM_35 hK hM_4.2 (hK.2.2.2.2.2.2.2 _ hM_4.1 hM_4.2)) (lt2000 (c := 0) (isM_lt hM_4.2 (by decide))) kf_X12_420 (by decide) (by decide) rfl (shM_0 hM_4.2) (isM_n0 (hK.2.2.2.2.2.2.2 _ hM_4.1 hM_4.2)) dX12_readCart_167 rfl ?_
    refine g_iload (q := 172) 8 X dX12_readCart_170 rfl rfl ?_
    refine g_iload_n (q := 173) 3 X dX12_readCart_172 rfl rfl rfl ?_
    refine g_if_eq (q := 176) 180 X dX12_readCart_173 (by decide) rfl (fun c29 => ?_) (fun c29 => ?_)
    · have h := h.1 c29
      refine g_iconst (q := 181) 0 X dX12_readCart_180 rfl rfl ic_0 ?_
      refine g_sub (L' := [aR (some 66), aJ, aJ, aJ, aI r12, aI r15, aI r18, aI r21, aI x24]) ⟨Or.inr rfl, Or.inl rfl, Or.inl rfl, Or.inl rfl, Or.inr rfl, Or.inr rfl, Or.inr rfl, Or.inr rfl, Or.inr rfl, trivial⟩ ?_
      exact cb_X12_readCart_181 X hR hK   h
    · have h := h.2 c29
      refine g_iconst (q := 177) 1 X dX12_readCart_176 rfl rfl ic_1 ?_
      refine g_goto (q := 181) X dX12_readCart_177 (by decide) ?_
      refine g_sub (L' := [aR (some 66), aJ, aJ, aJ, aI r12, aI r15, aI r18, aI r21, aI x24]) ⟨Or.inr rfl, Or.inl rfl, Or.inl rfl, Or.inl rfl, Or.inr rfl, Or.inr rfl, Or.inr rfl, Or.inr rfl, Or.inr rfl, trivial⟩ ?_
      exact cb_X12_readCart_181 X hR hK   h
  · have h := h.2 c23
    exact g_vret (q := 0) X hR dX12_readCart_131 rfl ⟨rfl, rfl, rfl, h⟩
