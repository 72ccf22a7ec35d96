def bd_X3_from_193 (P36 : Int → IV → Prop) (P55 : Int → Int → IV → Prop) (l4 l5 : Int) (iv : IV) (rv : RV) (K : IV → Prop) : Prop :=
  P55 l4 (w32 (l5 + 1)) iv
set_option maxRecDepth 10000 in
theorem cb_X3_from_193 {Γ : GX} {n : Nat} {iv : IV} {rv : RV} {K : IV → Prop} {P36 : Int → IV → Prop} {P55 : Int → Int → IV → Prop} {l4 l5 : Int} (X : Cx Γ RX3 cX3_from 9 1) (hR : Rt Γ none 0 0 (fV1 n rv K)) (hK : Lk n rv)  (hP36 : ∀ (l4' : Int) (iv' : IV), P36 l4' iv' → G Γ 9 36 [aR (some 59), aR (some 51), aJ, aR (some (gR rv 51 6)), aI (l4'), aJ, aJ, aJ, aJ] [] n iv' rv 0 0) (hP55 : ∀ (l4' l5' : Int) (iv' : IV), P55 l4' l5' iv' → G Γ 9 55 [aR (some 59), aR (some 51), aJ, aR (some (gR rv 51 6)), aI (l4'), aI (l5'), aJ, aJ, aJ] [] n iv' rv 0 0) (h : bd_X3_from_193 P36 P55 l4 l5 iv rv K) : G Γ 9 193 [aR (some 59), aR (some 51), aJ, aR (some (gR rv 51 6)), aI l4, aI l5, aJ, aJ, aJ] [] n iv rv 0 0 := by
  unfold bd_X3_from_193 at h
  refine g_iinc (q := 196) 5 (L' := [aR (some 59), aR (some 51), aJ, aR (some (gR rv 51 6)), aI l4, aI (w32 (l5 + 1)), aJ, aJ, aJ]) X dX3_from_193 rfl (by decide) rfl rfl rfl ?_
  refine g_goto (q := 55) X dX3_from_196 (by decide) ?_
  exact hP55 _ _ _ h
def bd_X3_from_171 (P36 : Int → IV → Prop) (P55 : Int → Int → IV → Prop) (l4 l5 l7 t0 t1 : Int) (iv : IV) (rv : RV) (K : IV → Prop) : Prop :=
  (0 ≤ t1 ∧ t1 < 8) ∧ ∀ iv2, iv2 = w2 iv 61 t1.toNat t0 → (0 ≤ iv2 59 2 ∧ iv2 59 2 < 8) ∧ ∀ iv4, iv4 = w2 iv2 60 (iv2 59 2).toNat l7 → ∀ iv5, iv5 = w2 iv4 59 2 (w32 ((iv4 59 2) + 1)) → bd_X3_from_193 P36 P55 l4 l5 iv5 rv K
set_option maxRecDepth 10000 in
theorem cb_X3_from_171 {Γ : GX} {n : Nat} {iv : IV} {rv : RV} {K : IV → Prop} {P36 : Int → IV → Prop} {P55 : Int → Int → IV → Prop} {l4 l5 l7 t0 t1 : Int} (X : Cx Γ RX3 cX3_from 9 1) (hR : Rt Γ none 0 0 (fV1 n rv K)) (hK : Lk n rv)  (hP36 : ∀ (l4' : Int) (iv' : IV), P36 l4' iv' → G Γ 9 36 [aR (some 59), aR (some 51), aJ, aR (some (gR rv 51 6)), aI (l4'), aJ, aJ, aJ, aJ] [] n iv' rv 0 0) (hP55 : ∀ (l4' l5' : Int) (iv' : IV), P55 l4' l5' iv' → G Γ 9 55 [aR (some 59), aR (some 51), aJ, aR (some (gR rv 51 6)), aI (l4'), aI (l5'), aJ, aJ, aJ] [] n iv' rv 0 0) (h : bd_X3_from_171 P36 P55 l4 l5 l7 t0 t1 iv rv K) : G Γ 9 171 [aR (some 59), aR (some 51), aJ, aR (some (gR rv 51 6)), aI l4, aI l5, aJ, aI l7, aJ] [aI t0, aI t1, aR (some 61)] n iv rv 0 0 := by
  unfold bd_X3_from_171 at h
  obtain ⟨s1, h⟩ := h
  refine g_iast (q := 172) X rfl (hK.n (by decide)) s1 dX3_from_171 rfl ?_
  refine g_nmM (fun iv2 eiv2 => ?_)
  have h := h iv2 eiv2
  refine g_aload_n (q := 173) 0 X dX3_from_172 rfl rfl rfl ?_
  refine g_getR (q := 176) (r := some 60) 3 0 X (lk_59_0 hK) (lt2000 (c := 0) (by decide)) kf_X3_9 (by decide) (by decide) rfl rfl (hK.n (by decide)) dX3_from_173 rfl ?_
  refine g_aload_n (q := 177) 0 X dX3_from_176 rfl rfl rfl ?_
  refine g_getI (q := 180) 3 2 X kf_X3_30 (by decide) (by decide) rfl rfl (hK.n (by decide)) dX3_from_177 rfl ?_
  refine g_iload (q := 182) 7 X dX3_from_180 rfl rfl ?_
  obtain ⟨s3, h⟩ := h
  refine g_iast (q := 183) X rfl (hK.n (by decide)) s3 dX3_from_182 rfl ?_
  refine g_nmM (fun iv4 eiv4 => ?_)
  have h := h iv4 eiv4
  refine g_aload_n (q := 184) 0 X dX3_from_183 rfl rfl rfl ?_
  refine g_dup (q := 185) X dX3_from_184 rfl rfl ?_
  refine g_getI (q := 188) 3 2 X kf_X3_30 (by decide) (by decide) rfl rfl (hK.n (by decide)) dX3_from_185 rfl ?_
  refine g_iconst (q := 189) 1 X dX3_from_188 rfl rfl ic_1 ?_
  refine g_iadd (q := 190) X dX3_from_189 rfl ?_
  refine g_putI (q := 193) 3 2 X (Or.inl rfl) rfl kf_X3_30 (by decide) (by decide) rfl (hK.n (by decide)) dX3_from_190 rfl ?_
  refine g_nmM (fun iv5 eiv5 => ?_)
  have h := h iv5 eiv5
  refine g_sub (L' := [aR (some 59), aR (some 51), aJ, aR (some (gR rv 51 6)), aI l4, aI l5, aJ, aJ, aJ]) ⟨Or.inr rfl, Or.inr rfl, Or.inl rfl, Or.inr rfl, Or.inr rfl, Or.inr rfl, Or.inl rfl, Or.inl rfl, Or.inl rfl, trivial⟩ ?_
  exact cb_X3_from_193 X hR hK  hP36 hP55 h
def bd_X3_from_115 (P36 : Int → IV → Prop) (P55 : Int → Int → IV → Prop) (l4 l5 l6 l7 t0 : Int) (iv : IV) (rv : RV) (K : IV → Prop) : Prop :=
  ((t0 = 0) → (bd_X3_from_193 P36 P55 l4 l5 iv rv K)) ∧ ((¬ (t0 = 0)) → ((0 ≤ l7 ∧ l7 < 8) ∧ (((iv 61 l7.toNat) ≠ (-2)) → (bd_X3_from_193 P36 P55 l4 l5 iv rv K)) ∧ (((iv 61 l7.toNat) = (-2)) → (((8 ≤ (iv 59 2)) → (bd_X3_from_193 P36 P55 l4 l5 iv rv K)) ∧ ((¬ (8 ≤ (iv 59 2))) → (((l4 ≠ 0) → ((0 ≤ l4 ∧ l4 < 8) ∧ (0 ≤ iv 60 l4.toNat ∧ iv 60 l4.toNat < 8) ∧ bd_X3_from_171 P36 P55 l4 l5 l7 (iv 61 (iv 60 l4.toNat).toNat) l7 iv rv K)) ∧ ((l4 = 0) → (bd_X3_from_171 P36 P55 l4 l5 l7 l6 l7 iv rv K))))))))
set_option maxRecDepth 10000 in
theorem cb_X3_from_115 {Γ : GX} {n : Nat} {iv : IV} {rv : RV} {K : IV → Prop} {P36 : Int → IV → Prop} {P55 : Int → Int → IV → Prop} {l4 l5 l6 l7 t0 : Int} (X : Cx Γ RX3 cX3_from 9 1) (hR : Rt Γ none 0 0 (fV1 n rv K)) (hK : Lk n rv)  (hP36 : ∀ (l4' : Int) (iv' : IV), P36 l4' iv' → G Γ 9 36 [aR (some 59), aR (some 51), aJ, aR (some (gR rv 51 6)), aI (l4'), aJ, aJ, aJ, aJ] [] n iv' rv 0 0) (hP55 : ∀ (l4' l5' : Int) (iv' : IV), P55 l4' l5' iv' → G Γ 9 55 [aR (some 59), aR (some 51), aJ, aR (some (gR rv 51 6)), aI (l4'), aI (l5'), aJ, aJ, aJ] [] n iv' rv 0 0) (h : bd_X3_from_115 P36 P55 l4 l5 l6 l7 t0 iv rv K) : G Γ 9 115 [aR (some 59), aR (some 51), aJ, aR (some (gR rv 51 6)), aI l4, aI l5, aI l6, aI l7, aJ] [aI t0] n iv rv 0 0 := by
  unfold bd_X3_from_115 at h
  refine g_istore (q := 117) (k0 := 0) 8 (L' := [aR (some 59), aR (some 51), aJ, aR (some (gR rv 51 6)), aI l4, aI l5, aI l6, aI l7, aI t0]) X dX3_from_115 rfl (by decide) rfl rfl ?_
  refine g_iload (q := 119) 8 X dX3_from_117 rfl rfl ?_
  refine g_if_eq (q := 122) 193 X dX3_from_119 (by decide) rfl (fun c1 => ?_) (fun c1 => ?_)
  · have h := h.1 c1
    refine g_sub (L' := [aR (some 59), aR (some 51), aJ, aR (some (gR rv 51 6)), aI l4, aI l5, aJ, aJ, aJ]) ⟨Or.inr rfl, Or.inr rfl, Or.inl rfl, Or.inr rfl, Or.inr rfl, Or.inr rfl, Or.inl rfl, Or.inl rfl, Or.inl rfl, trivial⟩ ?_
    exact cb_X3_from_193 X hR hK  hP36 hP55 h
  · have h := h.2 c1
    refine g_aload_n (q := 123) 0 X dX3_from_122 rfl rfl rfl ?_
    refine g_getR (q := 126) (r := some 61) 3 1 X (lk_59_1 hK) (lt2000 (c := 0) (by decide)) kf_X3_15 (by decide) (by decide) rfl rfl (hK.n (by decide)) dX3_from_123 rfl ?_
    refine g_iload (q := 128) 7 X dX3_from_126 rfl rfl ?_
    obtain ⟨s2, h⟩ := h
    refine g_iald (q := 129) X rfl (hK.n (by decide)) s2 dX3_from_128 rfl ?_
    refine g_bipush (q := 131) (-2) X dX3_from_129 rfl bc_m2 ic_m2 ?_
    refine g_icmp_ne (q := 134) 193 X dX3_from_131 (by decide) rfl (fun c3 => ?_) (fun c3 => ?_)
    · have h := h.1 c3
      refine g_sub (L' := [aR (some 59), aR (some 51), aJ, aR (some (gR rv 51 6)), aI l4, aI l5, aJ, aJ, aJ]) ⟨Or.inr rfl, Or.inr rfl, Or.inl rfl, Or.inr rfl, Or.inr rfl, Or.inr rfl, Or.inl rfl, Or.inl rfl, Or.inl rfl, trivial⟩ ?_
      exact cb_X3_from_193 X hR hK  hP36 hP55 h
    · have h := h.2 c3
      refine g_aload_n (q := 135) 0 X dX3_from_134 rfl rfl rfl ?_
      refine g_getI (q := 138) 3 2 X kf_X3_30 (by decide) (by decide) rfl rfl (hK.n (by decide)) dX3_from_135 rfl ?_
      refine g_bipush (q := 140) 8 X dX3_from_138 rfl bc_8 ic_8 ?_
      refine g_icmp_ge (q := 143) 193 X dX3_from_140 (by decide) rfl (fun c4 => ?_) (fun c4 => ?_)
      · have h := h.1 c4
        refine g_sub (L' := [aR (some 59), aR (some 51), aJ, aR (some (gR rv 51 6)), aI l4, aI l5, aJ, aJ, aJ]) ⟨Or.inr rfl, Or.inr rfl, Or.inl rfl, Or.inr rfl, Or.inr rfl, Or.inr rfl, Or.inl rfl, Or.inl rfl, Or.inl rfl, trivial⟩ ?_
        exact cb_X3_from_193 X hR hK  hP36 hP55 h
      · have h := h.2 c4
        refine g_aload_n (q := 144) 0 X dX3_from_143 rfl rfl rfl ?_
        refine g_getR (q := 147) (r := some 61) 3 1 X (lk_59_1 hK) (lt2000 (c := 0) (by decide)) kf_X3_15 (by decide) (by decide) rfl rfl (hK.n (by decide)) dX3_from_144 rfl ?_
        refine g_iload (q := 149) 7 X dX3_from_147 rfl rfl ?_
        refine g_iload (q := 151) 4 X dX3_from_149 rfl rfl ?_
        refine g_if_ne (q := 154) 159 X dX3_from_151 (by decide) rfl (fun c5 => ?_) (fun c5 => ?_)
        · have h := h.1 c5
          refine g_aload_n (q := 160) 0 X dX3_from_159 rfl rfl rfl ?_
          refine g_getR (q := 163) (r := some 61) 3 1 X (lk_59_1 hK) (lt2000 (c := 0) (by decide)) kf_X3_15 (by decide) (by decide) rfl rfl (hK.n (by decide)) dX3_from_160 rfl ?_
          refine g_aload_n (q := 164) 0 X dX3_from_163 rfl rfl rfl ?_
          refine g_getR (q := 167) (r := some 60) 3 0 X (lk_59_0 hK) (lt2000 (c := 0) (by decide)) kf_X3_9 (by decide) (by decide) rfl rfl (hK.n (by decide)) dX3_from_164 rfl ?_
          refine g_iload (q := 169) 4 X dX3_from_167 rfl rfl ?_
          obtain ⟨s6, h⟩ := h
          refine g_iald (q := 170) X rfl (hK.n (by decide)) s6 dX3_from_169 rfl ?_
          obtain ⟨s7, h⟩ := h
          refine g_iald (q := 171) X rfl (hK.n (by decide)) s7 dX3_from_170 rfl ?_
          refine g_sub (L' := [aR (some 59), aR (some 51), aJ, aR (some (gR rv 51 6)), aI l4, aI l5, aJ, aI l7, aJ]) ⟨Or.inr rfl, Or.inr rfl, Or.inl rfl, Or.inr rfl, Or.inr rfl, Or.inr rfl, Or.inl rfl, Or.inr rfl, Or.inl rfl, trivial⟩ ?_
          exact cb_X3_from_171 X hR hK  hP36 hP55 h
        · have h := h.2 c5
          refine g_iload (q := 156) 6 X dX3_from_154 rfl rfl ?_
          refine g_goto (q := 171) X dX3_from_156 (by decide) ?_
          refine g_sub (L' := [aR (some 59), aR (some 51), aJ, aR (some (gR rv 51 6)), aI l4, aI l5, aJ, aI l7, aJ]) ⟨Or.inr rfl, Or.inr rfl, Or.inl rfl, Or.inr rfl, Or.inr rfl, Or.inr rfl, Or.inl rfl, Or.inr rfl, Or.inl rfl, trivial⟩ ?_
          exact cb_X3_from_171 X hR hK  hP36 hP55 h
def bd_X3_from_114 (P36 : Int → IV → Prop) (P55 : Int → Int → IV → Prop) (l4 l5 l6 l7 : Int) (iv : IV) (rv : RV) (K : IV → Prop) : Prop :=
  bd_X3_from_115 P36 P55 l4 l5 l6 l7 0 iv rv K
set_option maxRecDepth 10000 in
theorem cb_X3_from_114 {Γ : GX} {n : Nat} {iv : IV} {rv : RV} {K : IV → Prop} {P36 : Int → IV → Prop} {P55 : Int → Int → IV → Prop} {l4 l5 l6 l7 : Int} (X : Cx Γ RX3 cX3_from 9 1) (hR : Rt Γ none 0 0 (fV1 n rv K)) (hK : Lk n rv)  (hP36 : ∀ (l4' : Int) (iv' : IV), P36 l4' iv' → G Γ 9 36 [aR (some 59), aR (some 51), aJ, aR (some (gR rv 51 6)), aI (l4'), aJ, aJ, aJ, aJ] [] n iv' rv 0 0) (hP55 : ∀ (l4' l5' : Int) (iv' : IV), P55 l4' l5' iv' → G Γ 9 55 [aR (some 59), aR (some 51), aJ, aR (some (gR rv 51 6)), aI (l4'), aI (l5'), aJ, aJ, aJ] [] n iv' rv 0 0) (h : bd_X3_from_114 P36 P55 l4 l5 l6 l7 iv rv K) : G Γ 9 114 [aR (some 59), aR (some 51), aJ, aR (some (gR rv 51 6)), aI l4, aI l5, aI l6, aI l7, aJ] [] n iv rv 0 0 := by
  unfold bd_X3_from_114 at h
  refine g_iconst (q := 115) 0 X dX3_from_114 rfl rfl ic_0 ?_
  exact cb_X3_from_115 X hR hK  hP36 hP55 h
def bd_X3_from_55 (P36 : Int → IV → Prop) (P55 : Int → Int → IV → Prop) (l4 l5 : Int) (iv : IV) (rv : RV) (K : IV → Prop) : Prop :=
  (((iv (gR rv 51 6 + 1) 7) ≤ l5) → (P36 (w32 (l4 + 1)) iv)) ∧ ((¬ ((iv (gR rv 51 6 + 1) 7) ≤ l5)) → (∀ x2, x2 = w32 (12 + l5) → (0 ≤ x2 ∧ x2 < 16) ∧ ∀ x4, x4 = iv (gR rv 51 6 + 12) x2.toNat → (0 ≤ x2 ∧ x2 < 16) ∧ (((iv 54 x2.toNat) = 0) → (bd_X3_from_114 P36 P55 l4 l5 x2 x4 iv rv K)) ∧ ((¬ ((iv 54 x2.toNat) = 0)) → ((0 ≤ x2 ∧ x2 < 16) ∧ (0 ≤ l4 ∧ l4 < 8) ∧ (((iv (gR rv 51 6 + 11) x2.toNat) ≠ (iv 60 l4.toNat)) → (bd_X3_from_114 P36 P55 l4 l5 x2 x4 iv rv K)) ∧ (((iv (gR rv 51 6 + 11) x2.toNat) = (iv 60 l4.toNat)) → (bd_X3_from_115 P36 P55 l4 l5 x2 x4 1 iv rv K))))))
set_option maxRecDepth 10000 in
theorem cb_X3_from_55 {Γ : GX} {n : Nat} {iv : IV} {rv : RV} {K : IV → Prop} {P36 : Int → IV → Prop} {P55 : Int → Int → IV → Prop} {l4 l5 : Int} (X : Cx Γ RX3 cX3_from 9 1) (hR : Rt Γ none 0 0 (fV1 n rv K)) (hK : Lk n rv)  (hP36 : ∀ (l4' : Int) (iv' : IV), P36 l4' iv' → G Γ 9 36 [aR (some 59), aR (some 51), aJ, aR (some (gR rv 51 6)), aI (l4'), aJ, aJ, aJ, aJ] [] n iv' rv 0 0) (hP55 : ∀ (l4' l5' : Int) (iv' : IV), P55 l4' l5' iv' → G Γ 9 55 [aR (some 59), aR (some 51), aJ, aR (some (gR rv 51 6)), aI (l4'), aI (l5'), aJ, aJ, aJ] [] n iv' rv 0 0) (h : bd_X3_from_55 P36 P55 l4 l5 iv rv K) : G Γ 9 55 [aR (some 59), aR (some 51), aJ, aR (some (gR rv 51 6)), aI l4, aI l5, aJ, aJ, aJ] [] n iv rv 0 0 := by
  unfold bd_X3_from_55 at h
  refine g_iload (q := 57) 5 X dX3_from_55 rfl rfl ?_
  refine g_aload_n (q := 58) 3 X dX3_from_57 rfl rfl rfl ?_
  refine g_getR (q := 61) (r := some (gR rv 51 6 + 1)) 5 0 X (lkR_0 hK hK.2.2.2.2.2.1.2.2.2.2.2) (lt2000 (c := 0) (isR_lt hK.2.2.2.2.2.1.2.2.2.2.2 (by decide))) kf_X3_34 (by decide) (by decide) rfl (shR_0 hK.2.2.2.2.2.1.2.2.2.2.2) (isR_n0 hK hK.2.2.2.2.2.1.2.2.2.2.2) dX3_from_58 rfl ?_
  refine g_bipush (q := 63) 7 X dX3_from_61 rfl bc_7 ic_7 ?_
  refine g_iald (q := 64) X (shR_1 hK.2.2.2.2.2.1.2.2.2.2.2) (isR_n hK hK.2.2.2.2.2.1.2.2.2.2.2 (by decide)) (by decide) dX3_from_63 rfl ?_
  refine g_icmp_ge (q := 67) 199 X dX3_from_64 (by decide) rfl (fun c1 => ?_) (fun c1 => ?_)
  · have h := h.1 c1
    refine g_iinc (q := 202) 4 (L' := [aR (some 59), aR (some 51), aJ, aR (some (gR rv 51 6)), aI (w32 (l4 + 1)), aI l5, aJ, aJ, aJ]) X dX3_from_199 rfl (by decide) rfl rfl rfl ?_
    refine g_goto (q := 36) X dX3_from_202 (by decide) ?_
    refine g_sub (L' := [aR (some 59), aR (some 51), aJ, aR (some (gR rv 51 6)), aI (w32 (l4 + 1)), aJ, aJ, aJ, aJ]) ⟨Or.inr rfl, Or.inr rfl, Or.inl rfl, Or.inr rfl, Or.inr rfl, Or.inl rfl, Or.inl rfl, Or.inl rfl, Or.inl rfl, trivial⟩ ?_
    exact hP36 _ _ h
  · have h := h.2 c1
    refine g_bipush (q := 69) 12 X dX3_from_67 rfl bc_12 ic_12 ?_
    refine g_iload (q := 71) 5 X dX3_from_69 rfl rfl ?_
    refine g_iadd (q := 72) X dX3_from_71 rfl ?_
    refine g_nmI (fun x2 ex2 => ?_)
    have h := h x2 ex2
    refine g_istore (q := 74) (k0 := 0) 6 (L' := [aR (some 59), aR (some 51), aJ, aR (some (gR rv 51 6)), aI l4, aI l5, aI x2, aJ, aJ]) X dX3_from_72 rfl (by decide) rfl rfl ?_
    refine g_aload_n (q := 75) 3 X dX3_from_74 rfl rfl rfl ?_
    refine g_getR (q := 78) (r := some (gR rv 51 6 + 12)) 5 11 X (lkR_11 hK hK.2.2.2.2.2.1.2.2.2.2.2) (lt2000 (c := 0) (isR_lt hK.2.2.2.2.2.1.2.2.2.2.2 (by decide))) kf_X3_39 (by decide) (by decide) rfl (shR_0 hK.2.2.2.2.2.1.2.2.2.2.2) (isR_n0 hK hK.2.2.2.2.2.1.2.2.2.2.2) dX3_from_75 rfl ?_
    refine g_iload (q := 80) 6 X dX3_from_78 rfl rfl ?_
    obtain ⟨s3, h⟩ := h
    refine g_iald (q := 81) X (shR_12 hK.2.2.2.2.2.1.2.2.2.2.2) (isR_n hK hK.2.2.2.2.2.1.2.2.2.2.2 (by decide)) s3 dX3_from_80 rfl ?_
    refine g_nmI (fun x4 ex4 => ?_)
    have h := h x4 ex4
    refine g_istore (q := 83) (k0 := 0) 7 (L' := [aR (some 59), aR (some 51), aJ, aR (some (gR rv 51 6)), aI l4, aI l5, aI x2, aI x4, aJ]) X dX3_from_81 rfl (by decide) rfl rfl ?_
    refine g_aload_n (q := 84) 1 X dX3_from_83 rfl rfl rfl ?_
    refine g_getR (q := 87) (r := some 54) 6 2 X (lk_51_2 hK) (lt2000 (c := 0) (by decide)) kf_X3_42 (by decide) (by decide) rfl rfl (hK.n (by decide)) dX3_from_84 rfl ?_
    refine g_iload (q := 89) 6 X dX3_from_87 rfl rfl ?_
    obtain ⟨s5, h⟩ := h
    refine g_zald (q := 90) X rfl (hK.n (by decide)) s5 dX3_from_89 rfl ?_
    refine g_if_eq (q := 93) 114 X dX3_from_90 (by decide) rfl (fun c6 => ?_) (fun c6 => ?_)
    · have h := h.1 c6
      exact cb_X3_from_114 X hR hK  hP36 hP55 h
    · have h := h.2 c6
      refine g_aload_n (q := 94) 3 X dX3_from_93 rfl rfl rfl ?_
      refine g_getR (q := 97) (r := some (gR rv 51 6 + 11)) 5 10 X (lkR_10 hK hK.2.2.2.2.2.1.2.2.2.2.2) (lt2000 (c := 0) (isR_lt hK.2.2.2.2.2.1.2.2.2.2.2 (by decide))) kf_X3_46 (by decide) (by decide) rfl (shR_0 hK.2.2.2.2.2.1.2.2.2.2.2) (isR_n0 hK hK.2.2.2.2.2.1.2.2.2.2.2) dX3_from_94 rfl ?_
      refine g_iload (q := 99) 6 X dX3_from_97 rfl rfl ?_
      obtain ⟨s7, h⟩ := h
      refine g_iald (q := 100) X (shR_11 hK.2.2.2.2.2.1.2.2.2.2.2) (isR_n hK hK.2.2.2.2.2.1.2.2.2.2.2 (by decide)) s7 dX3_from_99 rfl ?_
      refine g_aload_n (q := 101) 0 X dX3_from_100 rfl rfl rfl ?_
      refine g_getR (q := 104) (r := some 60) 3 0 X (lk_59_0 hK) (lt2000 (c := 0) (by decide)) kf_X3_9 (by decide) (by decide) rfl rfl (hK.n (by decide)) dX3_from_101 rfl ?_
      refine g_iload (q := 106) 4 X dX3_from_104 rfl rfl ?_
      obtain ⟨s8, h⟩ := h
      refine g_iald (q := 107) X rfl (hK.n (by decide)) s8 dX3_from_106 rfl ?_
      refine g_icmp_ne (q := 110) 114 X dX3_from_107 (by decide) rfl (fun c9 => ?_) (fun c9 => ?_)
      · have h := h.1 c9
        exact cb_X3_from_114 X hR hK  hP36 hP55 h
      · have h := h.2 c9
        refine g_iconst (q := 111) 1 X dX3_from_110 rfl rfl ic_1 ?_
        refine g_goto (q := 115) X dX3_from_111 (by decide) ?_
        exact cb_X3_from_115 X hR hK  hP36 hP55 h
def wl_X3_from_55 (P36 : Int → IV → Prop) (l4 l5 : Int) (iv : IV) (rv : RV) (K : IV → Prop) : Prop :=
  ∀ P : Int → Int → IV → Prop, (∀ (l4' l5' : Int) (iv' : IV), bd_X3_from_55 P36 P l4' l5' iv' rv K → P l4' l5' iv') → P l4 l5 iv
theorem cl_X3_from_55 {Γ : GX} {n : Nat} {iv : IV} {rv : RV} {K : IV → Prop} {P36 : Int → IV → Prop} {l4 l5 : Int} (X : Cx Γ RX3 cX3_from 9 1) (hR : Rt Γ none 0 0 (fV1 n rv K)) (hK : Lk n rv)  (hP36 : ∀ (l4' : Int) (iv' : IV), P36 l4' iv' → G Γ 9 36 [aR (some 59), aR (some 51), aJ, aR (some (gR rv 51 6)), aI (l4'), aJ, aJ, aJ, aJ] [] n iv' rv 0 0) (h : wl_X3_from_55 P36 l4 l5 iv rv K) : G Γ 9 55 [aR (some 59), aR (some 51), aJ, aR (some (gR rv 51 6)), aI l4, aI l5, aJ, aJ, aJ] [] n iv rv 0 0 := by
  exact h (fun l4' l5' iv' =>  G Γ 9 55 [aR (some 59), aR (some 51), aJ, aR (some (gR rv 51 6)), aI (l4'), aI (l5'), aJ, aJ, aJ] [] n iv' rv 0 0) (fun l4' l5' iv' hb => cb_X3_from_55 X hR hK  hP36 (fun l4' l5' iv' hp => hp) hb)
def bd_X3_from_36 (P36 : Int → IV → Prop) (l4 : Int) (iv : IV) (rv : RV) (K : IV → Prop) : Prop :=
  (((iv 59 2) ≤ l4) → (K iv)) ∧ ((¬ ((iv 59 2) ≤ l4)) → (((8 ≤ l4) → (K iv)) ∧ ((¬ (8 ≤ l4)) → (wl_X3_from_55 P36 l4 0 iv rv K))))
set_option maxRecDepth 10000 in
theorem cb_X3_from_36 {Γ : GX} {n : Nat} {iv : IV} {rv : RV} {K : IV → Prop} {P36 : Int → IV → Prop} {l4 : Int} (X : Cx Γ RX3 cX3_from 9 1) (hR : Rt Γ none 0 0 (fV1 n rv K)) (hK : Lk n rv)  (hP36 : ∀ (l4' : Int) (iv' : IV), P36 l4' iv' → G Γ 9 36 [aR (some 59), aR (some 51), aJ, aR (some (gR rv 51 6)), aI (l4'), aJ, aJ, aJ, aJ] [] n iv' rv 0 0) (h : bd_X3_from_36 P36 l4 iv rv K) : G Γ 9 36 [aR (some 59), aR (some 51), aJ, aR (some (gR rv 51 6)), aI l4, aJ, aJ, aJ, aJ] [] n iv rv 0 0 := by
  unfold bd_X3_from_36 at h
  refine g_iload (q := 38) 4 X dX3_from_36 rfl rfl ?_
  refine g_aload_n (q := 39) 0 X dX3_from_38 rfl rfl rfl ?_
  refine g_getI (q := 42) 3 2 X kf_X3_30 (by decide) (by decide) rfl rfl (hK.n (by decide)) dX3_from_39 rfl ?_
  refine g_icmp_ge (q := 45) 205 X dX3_from_42 (by decide) rfl (fun c1 => ?_) (fun c1 => ?_)
  · have h := h.1 c1
    exact g_vret (q := 0) X hR dX3_from_205 rfl ⟨rfl, rfl, rfl, h⟩
  · have h := h.2 c1
    refine g_iload (q := 47) 4 X dX3_from_45 rfl rfl ?_
    refine g_bipush (q := 49) 8 X dX3_from_47 rfl bc_8 ic_8 ?_
    refine g_icmp_ge (q := 52) 205 X dX3_from_49 (by decide) rfl (fun c2 => ?_) (fun c2 => ?_)
    · have h := h.1 c2
      exact g_vret (q := 0) X hR dX3_from_205 rfl ⟨rfl, rfl, rfl, h⟩
    · have h := h.2 c2
      refine g_iconst (q := 53) 0 X dX3_from_52 rfl rfl ic_0 ?_
      refine g_istore (q := 55) (k0 := 0) 5 (L' := [aR (some 59), aR (some 51), aJ, aR (some (gR rv 51 6)), aI l4, aI 0, aJ, aJ, aJ]) X dX3_from_53 rfl (by decide) rfl rfl ?_
      exact cl_X3_from_55 X hR hK  hP36 h
def wl_X3_from_36 (l4 : Int) (iv : IV) (rv : RV) (K : IV → Prop) : Prop :=
  ∀ P : Int → IV → Prop, (∀ (l4' : Int) (iv' : IV), bd_X3_from_36  P l4' iv' rv K → P l4' iv') → P l4 iv
theorem cl_X3_from_36 {Γ : GX} {n : Nat} {iv : IV} {rv : RV} {K : IV → Prop} {l4 : Int} (X : Cx Γ RX3 cX3_from 9 1) (hR : Rt Γ none 0 0 (fV1 n rv K)) (hK : Lk n rv)  (h : wl_X3_from_36 l4 iv rv K) : G Γ 9 36 [aR (some 59), aR (some 51), aJ, aR (some (gR rv 51 6)), aI l4, aJ, aJ, aJ, aJ] [] n iv rv 0 0 := by
  exact h (fun l4' iv' =>  G Γ 9 36 [aR (some 59), aR (some 51), aJ, aR (some (gR rv 51 6)), aI (l4'), aJ, aJ, aJ, aJ] [] n iv' rv 0 0) (fun l4' iv' hb => cb_X3_from_36 X hR hK   (fun l4' iv' hp => hp) hb)
def wp_X3_from (a2 : Int) (iv : IV) (rv : RV) (K : IV → Prop) : Prop :=
  ∀ iv1, iv1 = fil iv 61 8 (-2) → (0 ≤ a2 ∧ a2 < 8) ∧ ∀ iv3, iv3 = w2 iv1 61 a2.toNat (-1) → ∀ iv4, iv4 = w2 iv3 60 0 a2 → ∀ iv5, iv5 = w2 iv4 59 2 1 → wl_X3_from_36 0 iv5 rv K
set_option maxRecDepth 10000 in
theorem ce_X3_from {n : Nat} {iv : IV} {rv : RV} {K : IV → Prop} {a2 : Int} (hK : Lk n rv)  (h : wp_X3_from a2 iv rv K) : Call 1 0 0 yX3_from cX3_from 9 none [aR (some 59), aR (some 51), aI a2] n iv rv (fV1 n rv K) := by
  refine Call.by (L := [aR (some 59), aR (some 51), aI a2, aJ, aJ, aJ, aJ, aJ, aJ]) (by decide) rfl ⟨trivial, trivial, trivial, trivial⟩ rfl (Nat.le_of_ble_eq_true rfl) (fun Γ X hR => ?_)
  unfold wp_X3_from at h
  refine g_aload_n (q := 1) 1 X dX3_from_0 rfl rfl rfl ?_
  refine g_getR (q := 4) (r := some (gR rv 51 6)) 6 6 X hK.2.2.2.2.2.1.2.2.2.2.1 (lt2000 (c := 0) (isR_lt0 hK.2.2.2.2.2.1.2.2.2.2.2)) kf_X3_18 (by decide) (by decide) rfl rfl (hK.n (by decide)) dX3_from_1 rfl ?_
  refine g_astore_n (q := 5) 3 (L' := [aR (some 59), aR (some 51), aI a2, aR (some (gR rv 51 6)), aJ, aJ, aJ, aJ, aJ]) X dX3_from_4 rfl rfl (by decide) rfl rfl ?_
  refine g_aload_n (q := 6) 0 X dX3_from_5 rfl rfl rfl ?_
  refine g_getR (q := 9) (r := some 61) 3 1 X (lk_59_1 hK) (lt2000 (c := 0) (by decide)) kf_X3_15 (by decide) (by decide) rfl rfl (hK.n (by decide)) dX3_from_6 rfl ?_
  refine g_bipush (q := 11) (-2) X dX3_from_9 rfl bc_m2 ic_m2 ?_
  refine g_cs (q := 14) [aR (some 61), aI (-2)] X (ce_fill n iv rv (-2) rfl (hK.n (by decide)) (by decide)) kS_X3_24 rfl rfl (Nat.le_of_ble_eq_true rfl) (by decide) dX3_from_11 rfl (fun r n_ iv_ rv_ hf => ?_)
  obtain ⟨en_, er_, rfl, eiv1⟩ := hf; subst n_; subst rv_
  generalize iv_ = iv1 at eiv1 ⊢
  have h := h iv1 eiv1
  refine g_aload_n (q := 15) 0 X dX3_from_14 rfl rfl rfl ?_
  refine g_getR (q := 18) (r := some 61) 3 1 X (lk_59_1 hK) (lt2000 (c := 0) (by decide)) kf_X3_15 (by decide) (by decide) rfl rfl (hK.n (by decide)) dX3_from_15 rfl ?_
  refine g_iload_n (q := 19) 2 X dX3_from_18 rfl rfl rfl ?_
  refine g_iconst (q := 20) (-1) X dX3_from_19 rfl rfl ic_m1 ?_
  obtain ⟨s2, h⟩ := h
  refine g_iast (q := 21) X rfl (hK.n (by decide)) s2 dX3_from_20 rfl ?_
  refine g_nmM (fun iv3 eiv3 => ?_)
  have h := h iv3 eiv3
  refine g_aload_n (q := 22) 0 X dX3_from_21 rfl rfl rfl ?_
  refine g_getR (q := 25) (r := some 60) 3 0 X (lk_59_0 hK) (lt2000 (c := 0) (by decide)) kf_X3_9 (by decide) (by decide) rfl rfl (hK.n (by decide)) dX3_from_22 rfl ?_
  refine g_iconst (q := 26) 0 X dX3_from_25 rfl rfl ic_0 ?_
  refine g_iload_n (q := 27) 2 X dX3_from_26 rfl rfl rfl ?_
  refine g_iast (q := 28) X rfl (hK.n (by decide)) (by decide) dX3_from_27 rfl ?_
  refine g_nmM (fun iv4 eiv4 => ?_)
  have h := h iv4 eiv4
  refine g_aload_n (q := 29) 0 X dX3_from_28 rfl rfl rfl ?_
  refine g_iconst (q := 30) 1 X dX3_from_29 rfl rfl ic_1 ?_
  refine g_putI (q := 33) 3 2 X (Or.inl rfl) rfl kf_X3_30 (by decide) (by decide) rfl (hK.n (by decide)) dX3_from_30 rfl ?_
  refine g_nmM (fun iv5 eiv5 => ?_)
  have h := h iv5 eiv5
  refine g_iconst (q := 34) 0 X dX3_from_33 rfl rfl ic_0 ?_
  refine g_istore (q := 36) (k0 := 0) 4 (L' := [aR (some 59), aR (some 51), aI a2, aR (some (gR rv 51 6)), aI 0, aJ, aJ, aJ, aJ]) X dX3_from_34 rfl (by decide) rfl rfl ?_
  refine g_sub (L' := [aR (some 59), aR (some 51), aJ, aR (some (gR rv 51 6)), aI 0, aJ, aJ, aJ, aJ]) ⟨Or.inr rfl, Or.inr rfl, Or.inl rfl, Or.inr rfl, Or.inr rfl, Or.inl rfl, Or.inl rfl, Or.inl rfl, Or.inl rfl, trivial⟩ ?_
  exact cl_X3_from_36 X hR hK   h
def wp_X3_has (a1 : Int) (iv : IV) (rv : RV) (K : Int → Prop) : Prop :=
  (0 ≤ a1 ∧ a1 < 8) ∧ (((iv 61 a1.toNat) = (-2)) → (K 0)) ∧ ((¬ ((iv 61 a1.toNat) = (-2))) → (K 1))
set_option maxRecDepth 10000 in
theorem ce_X3_has {n : Nat} {iv : IV} {rv : RV} {K : Int → Prop} {a1 : Int} (hK : Lk n rv)  (h : wp_X3_has a1 iv rv K) : Call 0 0 0 yX3_has cX3_has 2 (some .boolean) [aR (some 59), aI a1] n iv rv (fB0 n iv rv K) := by
  refine Call.by (L := [aR (some 59), aI a1]) (by decide) rfl ⟨trivial, trivial, trivial⟩ rfl (Nat.le_of_ble_eq_true rfl) (fun Γ X hR => ?_)
  unfold wp_X3_has at h
  refine g_aload_n (q := 1) 0 X dX3_has_0 rfl rfl rfl ?_
  refine g_getR (q := 4) (r := some 61) 3 1 X (lk_59_1 hK) (lt2000 (c := 0) (by decide)) kf_X3_15 (by decide) (by decide) rfl rfl (hK.n (by decide)) dX3_has_1 rfl ?_
  refine g_iload_n (q := 5) 1 X dX3_has_4 rfl rfl rfl ?_
  obtain ⟨s1, h⟩ := h
  refine g_iald (q := 6) X rfl (hK.n (by decide)) s1 dX3_has_5 rfl ?_
  refine g_bipush (q := 8) (-2) X dX3_has_6 rfl bc_m2 ic_m2 ?_
  refine g_icmp_eq (q := 11) 15 X dX3_has_8 (by decide) rfl (fun c2 => ?_) (fun c2 => ?_)
  · have h := h.1 c2
    refine g_iconst (q := 16) 0 X dX3_has_15 rfl rfl ic_0 ?_
    exact g_zret (q := 0) .boolean X hR (nar_B (Or.inl rfl)) dX3_has_16 rfl ⟨rfl, rfl, rfl, _, rfl, (Or.inl rfl), h⟩
  · have h := h.2 c2
    refine g_iconst (q := 12) 1 X dX3_has_11 rfl rfl ic_1 ?_
    refine g_goto (q := 16) X dX3_has_12 (by decide) ?_
    exact g_zret (q := 0) .boolean X hR (nar_B (Or.inr rfl)) dX3_has_16 rfl ⟨rfl, rfl, rfl, _, rfl, (Or.inr rfl), h⟩
def bd_X3_leadsBack_64 (P8 : Int → Int → Prop) (l2 l4 : Int) (iv : IV) (rv : RV) (K : Int → Prop) : Prop :=
  P8 l2 (w32 (l4 + 1))
set_option maxRecDepth 10000 in
theorem cb_X3_leadsBack_64 {Γ : GX} {n : Nat} {iv : IV} {rv : RV} {K : Int → Prop} {P8 : Int → Int → Prop} {l2 l4 : Int} (X : Cx Γ RX3 cX3_leadsBack 6 1) (hR : Rt Γ (some .boolean) 0 0 (fB0 n iv rv K)) (hK : Lk n rv)  (hP8 : ∀ (l2' l4' : Int), P8 l2' l4' → G Γ 6 8 [aR (some 59), aR (some 51), aI (l2'), aR (some (gR rv 51 6)), aI (l4'), aJ] [] n iv rv 0 0) (h : bd_X3_leadsBack_64 P8 l2 l4 iv rv K) : G Γ 6 64 [aR (some 59), aR (some 51), aI l2, aR (some (gR rv 51 6)), aI l4, aJ] [] n iv rv 0 0 := by
  unfold bd_X3_leadsBack_64 at h
  refine g_iinc (q := 67) 4 (L' := [aR (some 59), aR (some 51), aI l2, aR (some (gR rv 51 6)), aI (w32 (l4 + 1)), aJ]) X dX3_leadsBack_64 rfl (by decide) rfl rfl rfl ?_
  refine g_goto (q := 8) X dX3_leadsBack_67 (by decide) ?_
  exact hP8 _ _ h
def bd_X3_leadsBack_8 (P8 : Int → Int → Prop) (l2 l4 : Int) (iv : IV) (rv : RV) (K : Int → Prop) : Prop :=
  (((iv (gR rv 51 6 + 1) 7) ≤ l4) → (K 0)) ∧ ((¬ ((iv (gR rv 51 6 + 1) 7) ≤ l4)) → (∀ x2, x2 = w32 (12 + l4) → (0 ≤ x2 ∧ x2 < 16) ∧ (((iv 54 x2.toNat) = 0) → (bd_X3_leadsBack_64 P8 l2 l4 iv rv K)) ∧ ((¬ ((iv 54 x2.toNat) = 0)) → ((0 ≤ x2 ∧ x2 < 16) ∧ (((iv (gR rv 51 6 + 12) x2.toNat) ≠ l2) → (bd_X3_leadsBack_64 P8 l2 l4 iv rv K)) ∧ (((iv (gR rv 51 6 + 12) x2.toNat) = l2) → ((0 ≤ x2 ∧ x2 < 16) ∧ wp_X3_has (iv (gR rv 51 6 + 11) x2.toNat) iv rv (fun r8 => ((r8 = 0) → (bd_X3_leadsBack_64 P8 l2 l4 iv rv K)) ∧ ((¬ (r8 = 0)) → (K 1)))))))))
set_option maxRecDepth 10000 in
theorem cb_X3_leadsBack_8 {Γ : GX} {n : Nat} {iv : IV} {rv : RV} {K : Int → Prop} {P8 : Int → Int → Prop} {l2 l4 : Int} (X : Cx Γ RX3 cX3_leadsBack 6 1) (hR : Rt Γ (some .boolean) 0 0 (fB0 n iv rv K)) (hK : Lk n rv)  (hP8 : ∀ (l2' l4' : Int), P8 l2' l4' → G Γ 6 8 [aR (some 59), aR (some 51), aI (l2'), aR (some (gR rv 51 6)), aI (l4'), aJ] [] n iv rv 0 0) (h : bd_X3_leadsBack_8 P8 l2 l4 iv rv K) : G Γ 6 8 [aR (some 59), aR (some 51), aI l2, aR (some (gR rv 51 6)), aI l4, aJ] [] n iv rv 0 0 := by
  unfold bd_X3_leadsBack_8 at h
  refine g_iload (q := 10) 4 X dX3_leadsBack_8 rfl rfl ?_
  refine g_aload_n (q := 11) 3 X dX3_leadsBack_10 rfl rfl rfl ?_
  refine g_getR (q := 14) (r := some (gR rv 51 6 + 1)) 5 0 X (lkR_0 hK hK.2.2.2.2.2.1.2.2.2.2.2) (lt2000 (c := 0) (isR_lt hK.2.2.2.2.2.1.2.2.2.2.2 (by decide))) kf_X3_34 (by decide) (by decide) rfl (shR_0 hK.2.2.2.2.2.1.2.2.2.2.2) (isR_n0 hK hK.2.2.2.2.2.1.2.2.2.2.2) dX3_leadsBack_11 rfl ?_
  refine g_bipush (q := 16) 7 X dX3_leadsBack_14 rfl bc_7 ic_7 ?_
  refine g_iald (q := 17) X (shR_1 hK.2.2.2.2.2.1.2.2.2.2.2) (isR_n hK hK.2.2.2.2.2.1.2.2.2.2.2 (by decide)) (by decide) dX3_leadsBack_16 rfl ?_
  refine g_icmp_ge (q := 20) 70 X dX3_leadsBack_17 (by decide) rfl (fun c1 => ?_) (fun c1 => ?_)
  · have h := h.1 c1
    refine g_iconst (q := 71) 0 X dX3_leadsBack_70 rfl rfl ic_0 ?_
    exact g_zret (q := 0) .boolean X hR (nar_B (Or.inl rfl)) dX3_leadsBack_71 rfl ⟨rfl, rfl, rfl, _, rfl, (Or.inl rfl), h⟩
  · have h := h.2 c1
    refine g_bipush (q := 22) 12 X dX3_leadsBack_20 rfl bc_12 ic_12 ?_
    refine g_iload (q := 24) 4 X dX3_leadsBack_22 rfl rfl ?_
    refine g_iadd (q := 25) X dX3_leadsBack_24 rfl ?_
    refine g_nmI (fun x2 ex2 => ?_)
    have h := h x2 ex2
    refine g_istore (q := 27) (k0 := 0) 5 (L' := [aR (some 59), aR (some 51), aI l2, aR (some (gR rv 51 6)), aI l4, aI x2]) X dX3_leadsBack_25 rfl (by decide) rfl rfl ?_
    refine g_aload_n (q := 28) 1 X dX3_leadsBack_27 rfl rfl rfl ?_
    refine g_getR (q := 31) (r := some 54) 6 2 X (lk_51_2 hK) (lt2000 (c := 0) (by decide)) kf_X3_42 (by decide) (by decide) rfl rfl (hK.n (by decide)) dX3_leadsBack_28 rfl ?_
    refine g_iload (q := 33) 5 X dX3_leadsBack_31 rfl rfl ?_
    obtain ⟨s3, h⟩ := h
    refine g_zald (q := 34) X rfl (hK.n (by decide)) s3 dX3_leadsBack_33 rfl ?_
    refine g_if_eq (q := 37) 64 X dX3_leadsBack_34 (by decide) rfl (fun c4 => ?_) (fun c4 => ?_)
    · have h := h.1 c4
      refine g_sub (L' := [aR (some 59), aR (some 51), aI l2, aR (some (gR rv 51 6)), aI l4, aJ]) ⟨Or.inr rfl, Or.inr rfl, Or.inr rfl, Or.inr rfl, Or.inr rfl, Or.inl rfl, trivial⟩ ?_
      exact cb_X3_leadsBack_64 X hR hK  hP8 h
    · have h := h.2 c4
      refine g_aload_n (q := 38) 3 X dX3_leadsBack_37 rfl rfl rfl ?_
      refine g_getR (q := 41) (r := some (gR rv 51 6 + 12)) 5 11 X (lkR_11 hK hK.2.2.2.2.2.1.2.2.2.2.2) (lt2000 (c := 0) (isR_lt hK.2.2.2.2.2.1.2.2.2.2.2 (by decide))) kf_X3_39 (by decide) (by decide) rfl (shR_0 hK.2.2.2.2.2.1.2.2.2.2.2) (isR_n0 hK hK.2.2.2.2.2.1.2.2.2.2.2) dX3_leadsBack_38 rfl ?_
      refine g_iload (q := 43) 5 X dX3_leadsBack_41 rfl rfl ?_
      obtain ⟨s5, h⟩ := h
      refine g_iald (q := 44) X (shR_12 hK.2.2.2.2.2.1.2.2.2.2.2) (isR_n hK hK.2.2.2.2.2.1.2.2.2.2.2 (by decide)) s5 dX3_leadsBack_43 rfl ?_
      refine g_iload_n (q := 45) 2 X dX3_leadsBack_44 rfl rfl rfl ?_
      refine g_icmp_ne (q := 48) 64 X dX3_leadsBack_45 (by decide) rfl (fun c6 => ?_) (fun c6 => ?_)
      · have h := h.1 c6
        refine g_sub (L' := [aR (some 59), aR (some 51), aI l2, aR (some (gR rv 51 6)), aI l4, aJ]) ⟨Or.inr rfl, Or.inr rfl, Or.inr rfl, Or.inr rfl, Or.inr rfl, Or.inl rfl, trivial⟩ ?_
        exact cb_X3_leadsBack_64 X hR hK  hP8 h
      · have h := h.2 c6
        refine g_aload_n (q := 49) 0 X dX3_leadsBack_48 rfl rfl rfl ?_
        refine g_aload_n (q := 50) 3 X dX3_leadsBack_49 rfl rfl rfl ?_
        refine g_getR (q := 53) (r := some (gR rv 51 6 + 11)) 5 10 X (lkR_10 hK hK.2.2.2.2.2.1.2.2.2.2.2) (lt2000 (c := 0) (isR_lt hK.2.2.2.2.2.1.2.2.2.2.2 (by decide))) kf_X3_46 (by decide) (by decide) rfl (shR_0 hK.2.2.2.2.2.1.2.2.2.2.2) (isR_n0 hK hK.2.2.2.2.2.1.2.2.2.2.2) dX3_leadsBack_50 rfl ?_
        refine g_iload (q := 55) 5 X dX3_leadsBack_53 rfl rfl ?_
        obtain ⟨s7, h⟩ := h
        refine g_iald (q := 56) X (shR_11 hK.2.2.2.2.2.1.2.2.2.2.2) (isR_n hK hK.2.2.2.2.2.1.2.2.2.2.2 (by decide)) s7 dX3_leadsBack_55 rfl ?_
        refine g_cv (q := 59) [aI (iv (gR rv 51 6 + 11) x2.toNat)] 3 X (ce_X3_has hK  h) kV_X3_49 rfl (by decide) rfl (hK.n (by decide)) rfl rfl (Nat.le_of_ble_eq_true rfl) (by decide) dX3_leadsBack_56 rfl (fun r n_ iv_ rv_ hf => ?_)
        obtain ⟨en_, ei_, er_, r8, rfl, br8, h⟩ := hf; subst n_; subst iv_; subst rv_
        refine g_if_eq (q := 62) 64 X dX3_leadsBack_59 (by decide) rfl (fun c9 => ?_) (fun c9 => ?_)
        · have h := h.1 c9
          refine g_sub (L' := [aR (some 59), aR (some 51), aI l2, aR (some (gR rv 51 6)), aI l4, aJ]) ⟨Or.inr rfl, Or.inr rfl, Or.inr rfl, Or.inr rfl, Or.inr rfl, Or.inl rfl, trivial⟩ ?_
          exact cb_X3_leadsBack_64 X hR hK  hP8 h
        · have h := h.2 c9
          refine g_iconst (q := 63) 1 X dX3_leadsBack_62 rfl rfl ic_1 ?_
          exact g_zret (q := 0) .boolean X hR (nar_B (Or.inr rfl)) dX3_leadsBack_63 rfl ⟨rfl, rfl, rfl, _, rfl, (Or.inr rfl), h⟩
def wl_X3_leadsBack_8 (l2 l4 : Int) (iv : IV) (rv : RV) (K : Int → Prop) : Prop :=
  ∀ P : Int → Int → Prop, (∀ (l2' l4' : Int), bd_X3_leadsBack_8  P l2' l4' iv rv K → P l2' l4') → P l2 l4
theorem cl_X3_leadsBack_8 {Γ : GX} {n : Nat} {iv : IV} {rv : RV} {K : Int → Prop} {l2 l4 : Int} (X : Cx Γ RX3 cX3_leadsBack 6 1) (hR : Rt Γ (some .boolean) 0 0 (fB0 n iv rv K)) (hK : Lk n rv)  (h : wl_X3_leadsBack_8 l2 l4 iv rv K) : G Γ 6 8 [aR (some 59), aR (some 51), aI l2, aR (some (gR rv 51 6)), aI l4, aJ] [] n iv rv 0 0 := by
  exact h (fun l2' l4' =>  G Γ 6 8 [aR (some 59), aR (some 51), aI (l2'), aR (some (gR rv 51 6)), aI (l4'), aJ] [] n iv rv 0 0) (fun l2' l4' hb => cb_X3_leadsBack_8 X hR hK   (fun l2' l4' hp => hp) hb)
def wp_X3_leadsBack (a2 : Int) (iv : IV) (rv : RV) (K : Int → Prop) : Prop :=
  wl_X3_leadsBack_8 a2 0 iv rv K
set_option maxRecDepth 10000 in
theorem ce_X3_leadsBack {n : Nat} {iv : IV} {rv : RV} {K : Int → Prop} {a2 : Int} (hK : Lk n rv)  (h : wp_X3_leadsBack a2 iv rv K) : Call 1 0 0 yX3_leadsBack cX3_leadsBack 6 (some .boolean) [aR (some 59), aR (some 51), aI a2] n iv rv (fB0 n iv rv K) := by
  refine Call.by (L := [aR (some 59), aR (some 51), aI a2, aJ, aJ, aJ]) (by decide) rfl ⟨trivial, trivial, trivial, trivial⟩ rfl (Nat.le_of_ble_eq_true rfl) (fun Γ X hR => ?_)
  unfold wp_X3_leadsBack at h
  refine g_aload_n (q := 1) 1 X dX3_leadsBack_0 rfl rfl rfl ?_
  refine g_getR (q := 4) (r := some (gR rv 51 6)) 6 6 X hK.2.2.2.2.2.1.2.2.2.2.1 (lt2000 (c := 0) (isR_lt0 hK.2.2.2.2.2.1.2.2.2.2.2)) kf_X3_18 (by decide) (by decide) rfl rfl (hK.n (by decide)) dX3_leadsBack_1 rfl ?_
  refine g_astore_n (q := 5) 3 (L' := [aR (some 59), aR (some 51), aI a2, aR (some (gR rv 51 6)), aJ, aJ]) X dX3_leadsBack_4 rfl rfl (by decide) rfl rfl ?_
  refine g_iconst (q := 6) 0 X dX3_leadsBack_5 rfl rfl ic_0 ?_
  refine g_istore (q := 8) (k0 := 0) 4 (L' := [aR (some 59), aR (some 51), aI a2, aR (some (gR rv 51 6)), aI 0, aJ]) X dX3_leadsBack_6 rfl (by decide) rfl rfl ?_
  exact cl_X3_leadsBack_8 X hR hK   h
