def wp_X9_forget (iv : IV) (rv : RV) (K : IV → Prop) : Prop :=
  ∀ iv1, iv1 = w2 iv 63 2 0 → ∀ iv2, iv2 = w2 iv1 63 3 0 → ∀ iv3, iv3 = w2 iv2 63 4 0 → K iv3
set_option maxRecDepth 10000 in
theorem ce_X9_forget {n : Nat} {iv : IV} {rv : RV} {K : IV → Prop} (hK : Lk n rv)  (h : wp_X9_forget  iv rv K) : Call 0 0 0 yX9_forget cX9_forget 1 none [aR (some 63)] n iv rv (fV1 n rv K) := by
  refine Call.by (L := [aR (some 63)]) (by decide) rfl ⟨trivial, trivial⟩ rfl (Nat.le_of_ble_eq_true rfl) (fun Γ X hR => ?_)
  unfold wp_X9_forget at h
  refine g_aload_n (q := 1) 0 X dX9_forget_0 rfl rfl rfl ?_
  refine g_iconst (q := 2) 0 X dX9_forget_1 rfl rfl ic_0 ?_
  refine g_putI (q := 5) 9 2 X (Or.inl rfl) rfl kf_X9_18 (by decide) (by decide) rfl (hK.n (by decide)) dX9_forget_2 rfl ?_
  refine g_nmM (fun iv1 eiv1 => ?_)
  have h := h iv1 eiv1
  refine g_aload_n (q := 6) 0 X dX9_forget_5 rfl rfl rfl ?_
  refine g_iconst (q := 7) 0 X dX9_forget_6 rfl rfl ic_0 ?_
  refine g_putI (q := 10) 9 3 X (Or.inl rfl) rfl kf_X9_22 (by decide) (by decide) rfl (hK.n (by decide)) dX9_forget_7 rfl ?_
  refine g_nmM (fun iv2 eiv2 => ?_)
  have h := h iv2 eiv2
  refine g_aload_n (q := 11) 0 X dX9_forget_10 rfl rfl rfl ?_
  refine g_iconst (q := 12) 0 X dX9_forget_11 rfl rfl ic_0 ?_
  refine g_putI (q := 15) 9 4 X (Or.inl rfl) rfl kf_X9_25 (by decide) (by decide) rfl (hK.n (by decide)) dX9_forget_12 rfl ?_
  refine g_nmM (fun iv3 eiv3 => ?_)
  have h := h iv3 eiv3
  exact g_vret (q := 0) X hR dX9_forget_15 rfl ⟨rfl, rfl, rfl, h⟩
def bd_X9_trace_103 (b1 : Nat) (P34 : Int → Int → IV → Prop) (l4 l5 l6 : Int) (iv : IV) (rv : RV) (K : IV → Prop) : Prop :=
  wp_X8_farEnd b1 l6 l5 iv rv (fun r1 => (0 ≤ iv 63 2 ∧ iv 63 2 < 8) ∧ ∀ iv3, iv3 = w2 iv 64 (iv 63 2).toNat r1 → ∀ iv4, iv4 = w2 iv3 63 2 (w32 ((iv3 63 2) + 1)) → P34 l4 r1 iv4)
set_option maxRecDepth 10000 in
theorem cb_X9_trace_103 {Γ : GX} {n : Nat} {iv : IV} {rv : RV} {K : IV → Prop} {b1 : Nat} {P34 : Int → Int → IV → Prop} {l4 l5 l6 : Int} (X : Cx Γ RX9 cX9_trace 7 2) (hR : Rt Γ none 0 0 (fV1 n rv K)) (hK : Lk n rv) (hb_b1 : isR b1) (hP34 : ∀ (l4' l5' : Int) (iv' : IV), P34 l4' l5' iv' → G Γ 7 34 [aR (some 63), aR (some b1), aR (some 48), aJ, aI (l4'), aI (l5'), aJ] [] n iv' rv 0 0) (h : bd_X9_trace_103 b1 P34 l4 l5 l6 iv rv K) : G Γ 7 103 [aR (some 63), aR (some b1), aR (some 48), aJ, aI l4, aI l5, aI l6] [] n iv rv 0 0 := by
  unfold bd_X9_trace_103 at h
  refine g_aload_n (q := 104) 2 X dX9_trace_103 rfl rfl rfl ?_
  refine g_aload_n (q := 105) 1 X dX9_trace_104 rfl rfl rfl ?_
  refine g_iload (q := 107) 6 X dX9_trace_105 rfl rfl ?_
  refine g_iload (q := 109) 5 X dX9_trace_107 rfl rfl ?_
  refine g_cv (q := 112) [aR (some b1), aI l6, aI l5] 8 X (ce_X8_farEnd hK hb_b1 h) kV_X9_45 rfl (by decide) rfl (hK.n (by decide)) rfl rfl (Nat.le_of_ble_eq_true rfl) (by decide) dX9_trace_109 rfl (fun r n_ iv_ rv_ hf => ?_)
  obtain ⟨en_, ei_, er_, r1, rfl, h⟩ := hf; subst n_; subst iv_; subst rv_
  refine g_istore (q := 114) (k0 := 0) 5 (L' := [aR (some 63), aR (some b1), aR (some 48), aJ, aI l4, aI r1, aI l6]) X dX9_trace_112 rfl (by decide) rfl rfl ?_
  refine g_aload_n (q := 115) 0 X dX9_trace_114 rfl rfl rfl ?_
  refine g_getR (q := 118) (r := some 64) 9 0 X (lk_63_0 hK) (lt2000 (c := 0) (by decide)) kf_X9_9 (by decide) (by decide) rfl rfl (hK.n (by decide)) dX9_trace_115 rfl ?_
  refine g_aload_n (q := 119) 0 X dX9_trace_118 rfl rfl rfl ?_
  refine g_getI (q := 122) 9 2 X kf_X9_18 (by decide) (by decide) rfl rfl (hK.n (by decide)) dX9_trace_119 rfl ?_
  refine g_iload (q := 124) 5 X dX9_trace_122 rfl rfl ?_
  obtain ⟨s2, h⟩ := h
  refine g_iast (q := 125) X rfl (hK.n (by decide)) s2 dX9_trace_124 rfl ?_
  refine g_nmM (fun iv3 eiv3 => ?_)
  have h := h iv3 eiv3
  refine g_aload_n (q := 126) 0 X dX9_trace_125 rfl rfl rfl ?_
  refine g_dup (q := 127) X dX9_trace_126 rfl rfl ?_
  refine g_getI (q := 130) 9 2 X kf_X9_18 (by decide) (by decide) rfl rfl (hK.n (by decide)) dX9_trace_127 rfl ?_
  refine g_iconst (q := 131) 1 X dX9_trace_130 rfl rfl ic_1 ?_
  refine g_iadd (q := 132) X dX9_trace_131 rfl ?_
  refine g_putI (q := 135) 9 2 X (Or.inl rfl) rfl kf_X9_18 (by decide) (by decide) rfl (hK.n (by decide)) dX9_trace_132 rfl ?_
  refine g_nmM (fun iv4 eiv4 => ?_)
  have h := h iv4 eiv4
  refine g_goto (q := 34) X dX9_trace_135 (by decide) ?_
  refine g_sub (L' := [aR (some 63), aR (some b1), aR (some 48), aJ, aI l4, aI r1, aJ]) ⟨Or.inr rfl, Or.inr rfl, Or.inr rfl, Or.inl rfl, Or.inr rfl, Or.inr rfl, Or.inl rfl, trivial⟩ ?_
  exact hP34 _ _ _ h
def bd_X9_trace_34 (b1 : Nat) (P34 : Int → Int → IV → Prop) (l4 l5 : Int) (iv : IV) (rv : RV) (K : IV → Prop) : Prop :=
  ((l5 = l4) → (K iv)) ∧ ((¬ (l5 = l4)) → (((8 ≤ (iv 63 2)) → (K iv)) ∧ ((¬ (8 ≤ (iv 63 2))) → (wp_X8_nextLink b1 l5 iv rv (fun r3 => ((0 ≤ r3) → ((0 ≤ r3 ∧ r3 < 20) ∧ (((iv (b1 + 7) r3.toNat) < 0) → (bd_X9_trace_103 b1 P34 l4 l5 r3 iv rv K)) ∧ ((¬ ((iv (b1 + 7) r3.toNat) < 0)) → ((0 ≤ r3 ∧ r3 < 20) ∧ (0 ≤ iv 63 3 ∧ iv 63 3 < 8) ∧ ∀ iv9, iv9 = w2 iv 65 (iv 63 3).toNat (iv (b1 + 7) r3.toNat) → ∀ iv10, iv10 = w2 iv9 63 3 (w32 ((iv9 63 3) + 1)) → bd_X9_trace_103 b1 P34 l4 l5 r3 iv10 rv K)))) ∧ ((¬ (0 ≤ r3)) → (K iv)))))))
set_option maxRecDepth 10000 in
theorem cb_X9_trace_34 {Γ : GX} {n : Nat} {iv : IV} {rv : RV} {K : IV → Prop} {b1 : Nat} {P34 : Int → Int → IV → Prop} {l4 l5 : Int} (X : Cx Γ RX9 cX9_trace 7 2) (hR : Rt Γ none 0 0 (fV1 n rv K)) (hK : Lk n rv) (hb_b1 : isR b1) (hP34 : ∀ (l4' l5' : Int) (iv' : IV), P34 l4' l5' iv' → G Γ 7 34 [aR (some 63), aR (some b1), aR (some 48), aJ, aI (l4'), aI (l5'), aJ] [] n iv' rv 0 0) (h : bd_X9_trace_34 b1 P34 l4 l5 iv rv K) : G Γ 7 34 [aR (some 63), aR (some b1), aR (some 48), aJ, aI l4, aI l5, aJ] [] n iv rv 0 0 := by
  unfold bd_X9_trace_34 at h
  refine g_iload (q := 36) 5 X dX9_trace_34 rfl rfl ?_
  refine g_iload (q := 38) 4 X dX9_trace_36 rfl rfl ?_
  refine g_icmp_eq (q := 41) 138 X dX9_trace_38 (by decide) rfl (fun c1 => ?_) (fun c1 => ?_)
  · have h := h.1 c1
    exact g_vret (q := 0) X hR dX9_trace_138 rfl ⟨rfl, rfl, rfl, h⟩
  · have h := h.2 c1
    refine g_aload_n (q := 42) 0 X dX9_trace_41 rfl rfl rfl ?_
    refine g_getI (q := 45) 9 2 X kf_X9_18 (by decide) (by decide) rfl rfl (hK.n (by decide)) dX9_trace_42 rfl ?_
    refine g_bipush (q := 47) 8 X dX9_trace_45 rfl bc_8 ic_8 ?_
    refine g_icmp_ge (q := 50) 138 X dX9_trace_47 (by decide) rfl (fun c2 => ?_) (fun c2 => ?_)
    · have h := h.1 c2
      exact g_vret (q := 0) X hR dX9_trace_138 rfl ⟨rfl, rfl, rfl, h⟩
    · have h := h.2 c2
      refine g_aload_n (q := 51) 2 X dX9_trace_50 rfl rfl rfl ?_
      refine g_aload_n (q := 52) 1 X dX9_trace_51 rfl rfl rfl ?_
      refine g_iload (q := 54) 5 X dX9_trace_52 rfl rfl ?_
      refine g_cv (q := 57) [aR (some b1), aI l5] 8 X (ce_X8_nextLink hK hb_b1 h) kV_X9_36 rfl (by decide) rfl (hK.n (by decide)) rfl rfl (Nat.le_of_ble_eq_true rfl) (by decide) dX9_trace_54 rfl (fun r n_ iv_ rv_ hf => ?_)
      obtain ⟨en_, ei_, er_, r3, rfl, h⟩ := hf; subst n_; subst iv_; subst rv_
      refine g_istore (q := 59) (k0 := 0) 6 (L' := [aR (some 63), aR (some b1), aR (some 48), aJ, aI l4, aI l5, aI r3]) X dX9_trace_57 rfl (by decide) rfl rfl ?_
      refine g_iload (q := 61) 6 X dX9_trace_59 rfl rfl ?_
      refine g_if_ge (q := 64) 67 X dX9_trace_61 (by decide) rfl (fun c4 => ?_) (fun c4 => ?_)
      · have h := h.1 c4
        refine g_aload_n (q := 68) 1 X dX9_trace_67 rfl rfl rfl ?_
        refine g_getR (q := 71) (r := some (b1 + 7)) 5 6 X (lkR_6 hK hb_b1) (lt2000 (c := 0) (isR_lt hb_b1 (by decide))) kf_X9_40 (by decide) (by decide) rfl (shR_0 hb_b1) (isR_n0 hK hb_b1) dX9_trace_68 rfl ?_
        refine g_iload (q := 73) 6 X dX9_trace_71 rfl rfl ?_
        obtain ⟨s5, h⟩ := h
        refine g_iald (q := 74) X (shR_7 hb_b1) (isR_n hK hb_b1 (by decide)) s5 dX9_trace_73 rfl ?_
        refine g_if_lt (q := 77) 103 X dX9_trace_74 (by decide) rfl (fun c6 => ?_) (fun c6 => ?_)
        · have h := h.1 c6
          exact cb_X9_trace_103 X hR hK hb_b1 hP34 h
        · have h := h.2 c6
          refine g_aload_n (q := 78) 0 X dX9_trace_77 rfl rfl rfl ?_
          refine g_getR (q := 81) (r := some 65) 9 1 X (lk_63_1 hK) (lt2000 (c := 0) (by decide)) kf_X9_15 (by decide) (by decide) rfl rfl (hK.n (by decide)) dX9_trace_78 rfl ?_
          refine g_aload_n (q := 82) 0 X dX9_trace_81 rfl rfl rfl ?_
          refine g_getI (q := 85) 9 3 X kf_X9_22 (by decide) (by decide) rfl rfl (hK.n (by decide)) dX9_trace_82 rfl ?_
          refine g_aload_n (q := 86) 1 X dX9_trace_85 rfl rfl rfl ?_
          refine g_getR (q := 89) (r := some (b1 + 7)) 5 6 X (lkR_6 hK hb_b1) (lt2000 (c := 0) (isR_lt hb_b1 (by decide))) kf_X9_40 (by decide) (by decide) rfl (shR_0 hb_b1) (isR_n0 hK hb_b1) dX9_trace_86 rfl ?_
          refine g_iload (q := 91) 6 X dX9_trace_89 rfl rfl ?_
          obtain ⟨s7, h⟩ := h
          refine g_iald (q := 92) X (shR_7 hb_b1) (isR_n hK hb_b1 (by decide)) s7 dX9_trace_91 rfl ?_
          obtain ⟨s8, h⟩ := h
          refine g_iast (q := 93) X rfl (hK.n (by decide)) s8 dX9_trace_92 rfl ?_
          refine g_nmM (fun iv9 eiv9 => ?_)
          have h := h iv9 eiv9
          refine g_aload_n (q := 94) 0 X dX9_trace_93 rfl rfl rfl ?_
          refine g_dup (q := 95) X dX9_trace_94 rfl rfl ?_
          refine g_getI (q := 98) 9 3 X kf_X9_22 (by decide) (by decide) rfl rfl (hK.n (by decide)) dX9_trace_95 rfl ?_
          refine g_iconst (q := 99) 1 X dX9_trace_98 rfl rfl ic_1 ?_
          refine g_iadd (q := 100) X dX9_trace_99 rfl ?_
          refine g_putI (q := 103) 9 3 X (Or.inl rfl) rfl kf_X9_22 (by decide) (by decide) rfl (hK.n (by decide)) dX9_trace_100 rfl ?_
          refine g_nmM (fun iv10 eiv10 => ?_)
          have h := h iv10 eiv10
          exact cb_X9_trace_103 X hR hK hb_b1 hP34 h
      · have h := h.2 c4
        refine g_goto (q := 138) X dX9_trace_64 (by decide) ?_
        exact g_vret (q := 0) X hR dX9_trace_138 rfl ⟨rfl, rfl, rfl, h⟩
def wl_X9_trace_34 (b1 : Nat) (l4 l5 : Int) (iv : IV) (rv : RV) (K : IV → Prop) : Prop :=
  ∀ P : Int → Int → IV → Prop, (∀ (l4' l5' : Int) (iv' : IV), bd_X9_trace_34 b1 P l4' l5' iv' rv K → P l4' l5' iv') → P l4 l5 iv
theorem cl_X9_trace_34 {Γ : GX} {n : Nat} {iv : IV} {rv : RV} {K : IV → Prop} {b1 : Nat} {l4 l5 : Int} (X : Cx Γ RX9 cX9_trace 7 2) (hR : Rt Γ none 0 0 (fV1 n rv K)) (hK : Lk n rv) (hb_b1 : isR b1) (h : wl_X9_trace_34 b1 l4 l5 iv rv K) : G Γ 7 34 [aR (some 63), aR (some b1), aR (some 48), aJ, aI l4, aI l5, aJ] [] n iv rv 0 0 := by
  exact h (fun l4' l5' iv' =>  G Γ 7 34 [aR (some 63), aR (some b1), aR (some 48), aJ, aI (l4'), aI (l5'), aJ] [] n iv' rv 0 0) (fun l4' l5' iv' hb => cb_X9_trace_34 X hR hK hb_b1  (fun l4' l5' iv' hp => hp) hb)
def wp_X9_trace (b1 : Nat) (a3 : Int) (a4 : Int) (iv : IV) (rv : RV) (K : IV → Prop) : Prop :=
  wp_X9_forget iv rv (fun iv1 => (0 ≤ a3 ∧ a3 < 8) ∧ ∀ iv3, iv3 = w2 iv1 63 4 (Int.tmod (iv1 50 a3.toNat) 1000) → ∀ iv4, iv4 = w2 iv3 64 0 a3 → ∀ iv5, iv5 = w2 iv4 63 2 1 → wl_X9_trace_34 b1 a4 a3 iv5 rv K)
set_option maxRecDepth 10000 in
theorem ce_X9_trace {n : Nat} {iv : IV} {rv : RV} {K : IV → Prop} {b1 : Nat} {a3 : Int} {a4 : Int} (hK : Lk n rv) (hb_b1 : isR b1) (h : wp_X9_trace b1 a3 a4 iv rv K) : Call 2 0 0 yX9_trace cX9_trace 7 none [aR (some 63), aR (some b1), aR (some 48), aI a3, aI a4] n iv rv (fV1 n rv K) := by
  refine Call.by (L := [aR (some 63), aR (some b1), aR (some 48), aI a3, aI a4, aJ, aJ]) (by decide) rfl ⟨trivial, trivial, trivial, trivial, trivial, trivial⟩ rfl (Nat.le_of_ble_eq_true rfl) (fun Γ X hR => ?_)
  unfold wp_X9_trace at h
  refine g_aload_n (q := 1) 0 X dX9_trace_0 rfl rfl rfl ?_
  refine g_cv (q := 4) [] 9 X (ce_X9_forget hK  h) kV_X9_28 rfl (by decide) rfl (hK.n (by decide)) rfl rfl (Nat.le_of_ble_eq_true rfl) (by decide) dX9_trace_1 rfl (fun r n_ iv_ rv_ hf => ?_)
  obtain ⟨en_, er_, rfl, h⟩ := hf; subst n_; subst rv_
  generalize iv_ = iv1 at h ⊢
  refine g_aload_n (q := 5) 0 X dX9_trace_4 rfl rfl rfl ?_
  refine g_aload_n (q := 6) 2 X dX9_trace_5 rfl rfl rfl ?_
  refine g_getR (q := 9) (r := some 50) 8 1 X (lk_48_1 hK) (lt2000 (c := 0) (by decide)) kf_X9_31 (by decide) (by decide) rfl rfl (hK.n (by decide)) dX9_trace_6 rfl ?_
  refine g_iload_n (q := 10) 3 X dX9_trace_9 rfl rfl rfl ?_
  obtain ⟨s2, h⟩ := h
  refine g_iald (q := 11) X rfl (hK.n (by decide)) s2 dX9_trace_10 rfl ?_
  refine g_sipush (q := 14) 1000 X dX9_trace_11 rfl sc_1000 ic_1000 ?_
  refine g_irem (q := 15) X (by decide) dX9_trace_14 rfl ?_
  refine g_putI (q := 18) 9 4 X (Or.inl rfl) rfl kf_X9_25 (by decide) (by decide) rfl (hK.n (by decide)) dX9_trace_15 rfl ?_
  refine g_nmM (fun iv3 eiv3 => ?_)
  have h := h iv3 eiv3
  refine g_iload_n (q := 19) 3 X dX9_trace_18 rfl rfl rfl ?_
  refine g_istore (q := 21) (k0 := 0) 5 (L' := [aR (some 63), aR (some b1), aR (some 48), aI a3, aI a4, aI a3, aJ]) X dX9_trace_19 rfl (by decide) rfl rfl ?_
  refine g_aload_n (q := 22) 0 X dX9_trace_21 rfl rfl rfl ?_
  refine g_getR (q := 25) (r := some 64) 9 0 X (lk_63_0 hK) (lt2000 (c := 0) (by decide)) kf_X9_9 (by decide) (by decide) rfl rfl (hK.n (by decide)) dX9_trace_22 rfl ?_
  refine g_iconst (q := 26) 0 X dX9_trace_25 rfl rfl ic_0 ?_
  refine g_iload (q := 28) 5 X dX9_trace_26 rfl rfl ?_
  refine g_iast (q := 29) X rfl (hK.n (by decide)) (by decide) dX9_trace_28 rfl ?_
  refine g_nmM (fun iv4 eiv4 => ?_)
  have h := h iv4 eiv4
  refine g_aload_n (q := 30) 0 X dX9_trace_29 rfl rfl rfl ?_
  refine g_iconst (q := 31) 1 X dX9_trace_30 rfl rfl ic_1 ?_
  refine g_putI (q := 34) 9 2 X (Or.inl rfl) rfl kf_X9_18 (by decide) (by decide) rfl (hK.n (by decide)) dX9_trace_31 rfl ?_
  refine g_nmM (fun iv5 eiv5 => ?_)
  have h := h iv5 eiv5
  refine g_sub (L' := [aR (some 63), aR (some b1), aR (some 48), aJ, aI a4, aI a3, aJ]) ⟨Or.inr rfl, Or.inr rfl, Or.inr rfl, Or.inl rfl, Or.inr rfl, Or.inr rfl, Or.inl rfl, trivial⟩ ?_
  exact cl_X9_trace_34 X hR hK hb_b1  h
