def bd_X11_find_2 (b : Nat) (P2 : Int → Int → Prop) (l1 l3 : Int) (iv : IV) (rv : RV) (K : Int → Prop) : Prop :=
  (((iv b 12) ≤ l3) → (K (-1))) ∧ ((¬ ((iv b 12) ≤ l3)) → ((0 ≤ l3 ∧ l3 < 51) ∧ (((if l1 < iv (b + 27) l3.toNat then 1 else if iv (b + 27) l3.toNat = l1 then 0 else -1) ≠ 0) → (P2 l1 (w32 (l3 + 1)))) ∧ (((if l1 < iv (b + 27) l3.toNat then 1 else if iv (b + 27) l3.toNat = l1 then 0 else -1) = 0) → (K l3))))
set_option maxRecDepth 10000 in
theorem cb_X11_find_2 {Γ : GX} {n : Nat} {iv : IV} {rv : RV} {K : Int → Prop} {b : Nat} {P2 : Int → Int → Prop} {l1 l3 : Int} (X : Cx Γ RX11 cX11_find 4 0) (hR : Rt Γ (some .int) 0 0 (fI0 n iv rv K)) (hK : Lk n rv) (hb_b : isM b) (hn_b : b + 30 ≤ n) (hP2 : ∀ (l1' l3' : Int), P2 l1' l3' → G Γ 4 2 [aR (some b), aL (l1'), aJ, aI (l3')] [] n iv rv 0 0) (h : bd_X11_find_2 b P2 l1 l3 iv rv K) : G Γ 4 2 [aR (some b), aL l1, aJ, aI l3] [] n iv rv 0 0 := by
  unfold bd_X11_find_2 at h
  refine g_iload_n (q := 3) 3 X dX11_find_2 rfl rfl rfl ?_
  refine g_aload_n (q := 4) 0 X dX11_find_3 rfl rfl rfl ?_
  refine g_getI (q := 7) 11 12 X kf_X11_101 (by decide) (by decide) rfl (shM_0 hb_b) (isM_n0 hn_b) dX11_find_4 rfl ?_
  refine g_icmp_ge (q := 10) 29 X dX11_find_7 (by decide) rfl (fun c1 => ?_) (fun c1 => ?_)
  · have h := h.1 c1
    refine g_iconst (q := 30) (-1) X dX11_find_29 rfl rfl ic_m1 ?_
    exact g_iret (q := 0) X hR dX11_find_30 rfl ⟨rfl, rfl, rfl, _, rfl, h⟩
  · have h := h.2 c1
    refine g_aload_n (q := 11) 0 X dX11_find_10 rfl rfl rfl ?_
    refine g_getR (q := 14) (r := some (b + 27)) 11 40 X (lkM_40 hK hb_b hn_b) (lt2000 (c := 0) (isM_lt hb_b (by decide))) kf_X11_91 (by decide) (by decide) rfl (shM_0 hb_b) (isM_n0 hn_b) dX11_find_11 rfl ?_
    refine g_iload_n (q := 15) 3 X dX11_find_14 rfl rfl rfl ?_
    obtain ⟨s2, h⟩ := h
    refine g_lald (q := 16) X (shM_27 hb_b) (isM_n hn_b (by decide)) s2 dX11_find_15 rfl ?_
    refine g_lload_n (q := 17) 1 X dX11_find_16 rfl rfl rfl ?_
    refine g_lcmp (q := 18) X dX11_find_17 rfl ?_
    refine g_if_ne (q := 21) 23 X dX11_find_18 (by decide) rfl (fun c3 => ?_) (fun c3 => ?_)
    · have h := h.1 c3
      refine g_iinc (q := 26) 3 (L' := [aR (some b), aL l1, aJ, aI (w32 (l3 + 1))]) X dX11_find_23 rfl (by decide) rfl rfl rfl ?_
      refine g_goto (q := 2) X dX11_find_26 (by decide) ?_
      exact hP2 _ _ h
    · have h := h.2 c3
      refine g_iload_n (q := 22) 3 X dX11_find_21 rfl rfl rfl ?_
      exact g_iret (q := 0) X hR dX11_find_22 rfl ⟨rfl, rfl, rfl, _, rfl, h⟩
def wl_X11_find_2 (b : Nat) (l1 l3 : Int) (iv : IV) (rv : RV) (K : Int → Prop) : Prop :=
  ∀ P : Int → Int → Prop, (∀ (l1' l3' : Int), bd_X11_find_2 b P l1' l3' iv rv K → P l1' l3') → P l1 l3
theorem cl_X11_find_2 {Γ : GX} {n : Nat} {iv : IV} {rv : RV} {K : Int → Prop} {b : Nat} {l1 l3 : Int} (X : Cx Γ RX11 cX11_find 4 0) (hR : Rt Γ (some .int) 0 0 (fI0 n iv rv K)) (hK : Lk n rv) (hb_b : isM b) (hn_b : b + 30 ≤ n) (h : wl_X11_find_2 b l1 l3 iv rv K) : G Γ 4 2 [aR (some b), aL l1, aJ, aI l3] [] n iv rv 0 0 := by
  exact h (fun l1' l3' =>  G Γ 4 2 [aR (some b), aL (l1'), aJ, aI (l3')] [] n iv rv 0 0) (fun l1' l3' hb => cb_X11_find_2 X hR hK hb_b hn_b  (fun l1' l3' hp => hp) hb)
def wp_X11_find (b : Nat) (a1 : Int) (iv : IV) (rv : RV) (K : Int → Prop) : Prop :=
  wl_X11_find_2 b a1 0 iv rv K
set_option maxRecDepth 10000 in
theorem ce_X11_find {n : Nat} {iv : IV} {rv : RV} {K : Int → Prop} {b : Nat} {a1 : Int} (hK : Lk n rv) (hb_b : isM b) (hn_b : b + 30 ≤ n) (h : wp_X11_find b a1 iv rv K) : Call 0 0 0 yX11_find cX11_find 4 (some .int) [aR (some b), aL a1] n iv rv (fI0 n iv rv K) := by
  refine Call.by (L := [aR (some b), aL a1, aJ, aJ]) (by decide) rfl ⟨trivial, trivial, trivial⟩ rfl (Nat.le_of_ble_eq_true rfl) (fun Γ X hR => ?_)
  unfold wp_X11_find at h
  refine g_iconst (q := 1) 0 X dX11_find_0 rfl rfl ic_0 ?_
  refine g_istore_n (q := 2) 3 (L' := [aR (some b), aL a1, aJ, aI 0]) X dX11_find_1 rfl rfl (by decide) rfl rfl ?_
  exact cl_X11_find_2 X hR hK hb_b hn_b  h
def bd_X11_isGrant_46 (b : Nat) (iv : IV) (rv : RV) (K : Int → Prop) : Prop :=
  K 1
set_option maxRecDepth 10000 in
theorem cb_X11_isGrant_46 {Γ : GX} {n : Nat} {iv : IV} {rv : RV} {K : Int → Prop} {b : Nat} (X : Cx Γ RX11 cX11_isGrant 2 0) (hR : Rt Γ (some .boolean) 0 0 (fB0 n iv rv K)) (hK : Lk n rv) (hb_b : isM b) (hn_b : b + 30 ≤ n) (h : bd_X11_isGrant_46 b iv rv K) : G Γ 2 46 [aJ, aJ] [] n iv rv 0 0 := by
  unfold bd_X11_isGrant_46 at h
  refine g_iconst (q := 47) 1 X dX11_isGrant_46 rfl rfl ic_1 ?_
  refine g_goto (q := 51) X dX11_isGrant_47 (by decide) ?_
  exact g_zret (q := 0) .boolean X hR (nar_B (Or.inr rfl)) dX11_isGrant_51 rfl ⟨rfl, rfl, rfl, _, rfl, (Or.inr rfl), h⟩
def bd_X11_isGrant_29 (b : Nat) (l1 : Int) (iv : IV) (rv : RV) (K : Int → Prop) : Prop :=
  ((l1 < 12) → (K 0)) ∧ ((¬ (l1 < 12)) → ((((w32 (12 + (iv b 7))) ≤ l1) → (K 0)) ∧ ((¬ ((w32 (12 + (iv b 7))) ≤ l1)) → (bd_X11_isGrant_46 b iv rv K))))
set_option maxRecDepth 10000 in
theorem cb_X11_isGrant_29 {Γ : GX} {n : Nat} {iv : IV} {rv : RV} {K : Int → Prop} {b : Nat} {l1 : Int} (X : Cx Γ RX11 cX11_isGrant 2 0) (hR : Rt Γ (some .boolean) 0 0 (fB0 n iv rv K)) (hK : Lk n rv) (hb_b : isM b) (hn_b : b + 30 ≤ n) (h : bd_X11_isGrant_29 b l1 iv rv K) : G Γ 2 29 [aR (some b), aI l1] [] n iv rv 0 0 := by
  unfold bd_X11_isGrant_29 at h
  refine g_iload_n (q := 30) 1 X dX11_isGrant_29 rfl rfl rfl ?_
  refine g_bipush (q := 32) 12 X dX11_isGrant_30 rfl bc_12 ic_12 ?_
  refine g_icmp_lt (q := 35) 50 X dX11_isGrant_32 (by decide) rfl (fun c1 => ?_) (fun c1 => ?_)
  · have h := h.1 c1
    refine g_iconst (q := 51) 0 X dX11_isGrant_50 rfl rfl ic_0 ?_
    exact g_zret (q := 0) .boolean X hR (nar_B (Or.inl rfl)) dX11_isGrant_51 rfl ⟨rfl, rfl, rfl, _, rfl, (Or.inl rfl), h⟩
  · have h := h.2 c1
    refine g_iload_n (q := 36) 1 X dX11_isGrant_35 rfl rfl rfl ?_
    refine g_bipush (q := 38) 12 X dX11_isGrant_36 rfl bc_12 ic_12 ?_
    refine g_aload_n (q := 39) 0 X dX11_isGrant_38 rfl rfl rfl ?_
    refine g_getI (q := 42) 11 7 X kf_X11_111 (by decide) (by decide) rfl (shM_0 hb_b) (isM_n0 hn_b) dX11_isGrant_39 rfl ?_
    refine g_iadd (q := 43) X dX11_isGrant_42 rfl ?_
    refine g_icmp_ge (q := 46) 50 X dX11_isGrant_43 (by decide) rfl (fun c2 => ?_) (fun c2 => ?_)
    · have h := h.1 c2
      refine g_iconst (q := 51) 0 X dX11_isGrant_50 rfl rfl ic_0 ?_
      exact g_zret (q := 0) .boolean X hR (nar_B (Or.inl rfl)) dX11_isGrant_51 rfl ⟨rfl, rfl, rfl, _, rfl, (Or.inl rfl), h⟩
    · have h := h.2 c2
      refine g_sub (L' := [aJ, aJ]) ⟨Or.inl rfl, Or.inl rfl, trivial⟩ ?_
      exact cb_X11_isGrant_46 X hR hK hb_b hn_b  h
def bd_X11_isGrant_12 (b : Nat) (l1 : Int) (iv : IV) (rv : RV) (K : Int → Prop) : Prop :=
  ((l1 < 6) → (bd_X11_isGrant_29 b l1 iv rv K)) ∧ ((¬ (l1 < 6)) → (((l1 < (w32 (6 + (iv b 6)))) → (bd_X11_isGrant_46 b iv rv K)) ∧ ((¬ (l1 < (w32 (6 + (iv b 6))))) → (bd_X11_isGrant_29 b l1 iv rv K))))
set_option maxRecDepth 10000 in
theorem cb_X11_isGrant_12 {Γ : GX} {n : Nat} {iv : IV} {rv : RV} {K : Int → Prop} {b : Nat} {l1 : Int} (X : Cx Γ RX11 cX11_isGrant 2 0) (hR : Rt Γ (some .boolean) 0 0 (fB0 n iv rv K)) (hK : Lk n rv) (hb_b : isM b) (hn_b : b + 30 ≤ n) (h : bd_X11_isGrant_12 b l1 iv rv K) : G Γ 2 12 [aR (some b), aI l1] [] n iv rv 0 0 := by
  unfold bd_X11_isGrant_12 at h
  refine g_iload_n (q := 13) 1 X dX11_isGrant_12 rfl rfl rfl ?_
  refine g_bipush (q := 15) 6 X dX11_isGrant_13 rfl bc_6 ic_6 ?_
  refine g_icmp_lt (q := 18) 29 X dX11_isGrant_15 (by decide) rfl (fun c1 => ?_) (fun c1 => ?_)
  · have h := h.1 c1
    exact cb_X11_isGrant_29 X hR hK hb_b hn_b  h
  · have h := h.2 c1
    refine g_iload_n (q := 19) 1 X dX11_isGrant_18 rfl rfl rfl ?_
    refine g_bipush (q := 21) 6 X dX11_isGrant_19 rfl bc_6 ic_6 ?_
    refine g_aload_n (q := 22) 0 X dX11_isGrant_21 rfl rfl rfl ?_
    refine g_getI (q := 25) 11 6 X kf_X11_108 (by decide) (by decide) rfl (shM_0 hb_b) (isM_n0 hn_b) dX11_isGrant_22 rfl ?_
    refine g_iadd (q := 26) X dX11_isGrant_25 rfl ?_
    refine g_icmp_lt (q := 29) 46 X dX11_isGrant_26 (by decide) rfl (fun c2 => ?_) (fun c2 => ?_)
    · have h := h.1 c2
      refine g_sub (L' := [aJ, aJ]) ⟨Or.inl rfl, Or.inl rfl, trivial⟩ ?_
      exact cb_X11_isGrant_46 X hR hK hb_b hn_b  h
    · have h := h.2 c2
      exact cb_X11_isGrant_29 X hR hK hb_b hn_b  h
def wp_X11_isGrant (b : Nat) (a1 : Int) (iv : IV) (rv : RV) (K : Int → Prop) : Prop :=
  ((a1 < 0) → (bd_X11_isGrant_12 b a1 iv rv K)) ∧ ((¬ (a1 < 0)) → (((a1 < (iv b 5)) → (bd_X11_isGrant_46 b iv rv K)) ∧ ((¬ (a1 < (iv b 5))) → (bd_X11_isGrant_12 b a1 iv rv K))))
set_option maxRecDepth 10000 in
theorem ce_X11_isGrant {n : Nat} {iv : IV} {rv : RV} {K : Int → Prop} {b : Nat} {a1 : Int} (hK : Lk n rv) (hb_b : isM b) (hn_b : b + 30 ≤ n) (h : wp_X11_isGrant b a1 iv rv K) : Call 0 0 0 yX11_isGrant cX11_isGrant 2 (some .boolean) [aR (some b), aI a1] n iv rv (fB0 n iv rv K) := by
  refine Call.by (L := [aR (some b), aI a1]) (by decide) rfl ⟨trivial, trivial, trivial⟩ rfl (Nat.le_of_ble_eq_true rfl) (fun Γ X hR => ?_)
  unfold wp_X11_isGrant at h
  refine g_iload_n (q := 1) 1 X dX11_isGrant_0 rfl rfl rfl ?_
  refine g_if_lt (q := 4) 12 X dX11_isGrant_1 (by decide) rfl (fun c1 => ?_) (fun c1 => ?_)
  · have h := h.1 c1
    exact cb_X11_isGrant_12 X hR hK hb_b hn_b  h
  · have h := h.2 c1
    refine g_iload_n (q := 5) 1 X dX11_isGrant_4 rfl rfl rfl ?_
    refine g_aload_n (q := 6) 0 X dX11_isGrant_5 rfl rfl rfl ?_
    refine g_getI (q := 9) 11 5 X kf_X11_105 (by decide) (by decide) rfl (shM_0 hb_b) (isM_n0 hn_b) dX11_isGrant_6 rfl ?_
    refine g_icmp_lt (q := 12) 46 X dX11_isGrant_9 (by decide) rfl (fun c2 => ?_) (fun c2 => ?_)
    · have h := h.1 c2
      refine g_sub (L' := [aJ, aJ]) ⟨Or.inl rfl, Or.inl rfl, trivial⟩ ?_
      exact cb_X11_isGrant_46 X hR hK hb_b hn_b  h
    · have h := h.2 c2
      exact cb_X11_isGrant_12 X hR hK hb_b hn_b  h
