def bd_X8_measure_237 (b1 : Nat) (P91 : Int → Int → Int → IV → Prop) (P109 : Int → Int → Int → Int → IV → Prop) (l4 l5 l6 l7 : Int) (iv : IV) (rv : RV) (K : IV → Prop) : Prop :=
  P109 l4 l5 l6 (w32 (l7 + 1)) iv
set_option maxRecDepth 10000 in
theorem cb_X8_measure_237 {Γ : GX} {n : Nat} {iv : IV} {rv : RV} {K : IV → Prop} {b1 : Nat} {P91 : Int → Int → Int → IV → Prop} {P109 : Int → Int → Int → Int → IV → Prop} {l4 l5 l6 l7 : Int} (X : Cx Γ RX8 cX8_measure 10 2) (hR : Rt Γ none 0 0 (fV1 n rv K)) (hK : Lk n rv) (hb_b1 : isR b1) (hP91 : ∀ (l4' l5' l6' : Int) (iv' : IV), P91 l4' l5' l6' iv' → G Γ 10 91 [aR (some 48), aR (some b1), aJ, aJ, aI (l4'), aI (l5'), aI (l6'), aJ, aJ, aJ] [] n iv' rv 0 0) (hP109 : ∀ (l4' l5' l6' l7' : Int) (iv' : IV), P109 l4' l5' l6' l7' iv' → G Γ 10 109 [aR (some 48), aR (some b1), aJ, aJ, aI (l4'), aI (l5'), aI (l6'), aI (l7'), aJ, aJ] [] n iv' rv 0 0) (h : bd_X8_measure_237 b1 P91 P109 l4 l5 l6 l7 iv rv K) : G Γ 10 237 [aR (some 48), aR (some b1), aJ, aJ, aI l4, aI l5, aI l6, aI l7, aJ, aJ] [] n iv rv 0 0 := by
  unfold bd_X8_measure_237 at h
  refine g_iinc (q := 240) 7 (L' := [aR (some 48), aR (some b1), aJ, aJ, aI l4, aI l5, aI l6, aI (w32 (l7 + 1)), aJ, aJ]) X dX8_measure_237 rfl (by decide) rfl rfl rfl ?_
  refine g_goto (q := 109) X dX8_measure_240 (by decide) ?_
  exact hP109 _ _ _ _ _ h
def bd_X8_measure_109 (b1 : Nat) (P91 : Int → Int → Int → IV → Prop) (P109 : Int → Int → Int → Int → IV → Prop) (l4 l5 l6 l7 : Int) (iv : IV) (rv : RV) (K : IV → Prop) : Prop :=
  ((l4 ≤ l7) → (P91 l4 l5 (w32 (l6 + 1)) iv)) ∧ ((¬ (l4 ≤ l7)) → ((0 ≤ l7 ∧ l7 < 20) ∧ ∀ x3, x3 = iv (b1 + 4) l7.toNat → (0 ≤ l7 ∧ l7 < 20) ∧ ∀ x5, x5 = iv (b1 + 5) l7.toNat → (0 ≤ x5 ∧ x5 < 8) ∧ (0 ≤ l7 ∧ l7 < 20) ∧ (0 ≤ x3 ∧ x3 < 8) ∧ (((iv 50 x3.toNat) ≤ (w32 ((iv 50 x5.toNat) + (iv 49 l7.toNat)))) → ((0 ≤ x3 ∧ x3 < 8) ∧ (0 ≤ l7 ∧ l7 < 20) ∧ (0 ≤ x5 ∧ x5 < 8) ∧ (((iv 50 x5.toNat) ≤ (w32 ((iv 50 x3.toNat) + (iv 49 l7.toNat)))) → (bd_X8_measure_237 b1 P91 P109 l4 l5 l6 l7 iv rv K)) ∧ ((¬ ((iv 50 x5.toNat) ≤ (w32 ((iv 50 x3.toNat) + (iv 49 l7.toNat))))) → ((0 ≤ x3 ∧ x3 < 8) ∧ (0 ≤ l7 ∧ l7 < 20) ∧ (0 ≤ x5 ∧ x5 < 8) ∧ ∀ iv17, iv17 = w2 iv 50 x5.toNat (w32 ((iv 50 x3.toNat) + (iv 49 l7.toNat))) → bd_X8_measure_237 b1 P91 P109 l4 1 l6 l7 iv17 rv K)))) ∧ ((¬ ((iv 50 x3.toNat) ≤ (w32 ((iv 50 x5.toNat) + (iv 49 l7.toNat))))) → ((0 ≤ x5 ∧ x5 < 8) ∧ (0 ≤ l7 ∧ l7 < 20) ∧ (0 ≤ x3 ∧ x3 < 8) ∧ ∀ iv21, iv21 = w2 iv 50 x3.toNat (w32 ((iv 50 x5.toNat) + (iv 49 l7.toNat))) → bd_X8_measure_237 b1 P91 P109 l4 1 l6 l7 iv21 rv K))))
set_option maxRecDepth 10000 in
theorem cb_X8_measure_109 {Γ : GX} {n : Nat} {iv : IV} {rv : RV} {K : IV → Prop} {b1 : Nat} {P91 : Int → Int → Int → IV → Prop} {P109 : Int → Int → Int → Int → IV → Prop} {l4 l5 l6 l7 : Int} (X : Cx Γ RX8 cX8_measure 10 2) (hR : Rt Γ none 0 0 (fV1 n rv K)) (hK : Lk n rv) (hb_b1 : isR b1) (hP91 : ∀ (l4' l5' l6' : Int) (iv' : IV), P91 l4' l5' l6' iv' → G Γ 10 91 [aR (some 48), aR (some b1), aJ, aJ, aI (l4'), aI (l5'), aI (l6'), aJ, aJ, aJ] [] n iv' rv 0 0) (hP109 : ∀ (l4' l5' l6' l7' : Int) (iv' : IV), P109 l4' l5' l6' l7' iv' → G Γ 10 109 [aR (some 48), aR (some b1), aJ, aJ, aI (l4'), aI (l5'), aI (l6'), aI (l7'), aJ, aJ] [] n iv' rv 0 0) (h : bd_X8_measure_109 b1 P91 P109 l4 l5 l6 l7 iv rv K) : G Γ 10 109 [aR (some 48), aR (some b1), aJ, aJ, aI l4, aI l5, aI l6, aI l7, aJ, aJ] [] n iv rv 0 0 := by
  unfold bd_X8_measure_109 at h
  refine g_iload (q := 111) 7 X dX8_measure_109 rfl rfl ?_
  refine g_iload (q := 113) 4 X dX8_measure_111 rfl rfl ?_
  refine g_icmp_ge (q := 116) 243 X dX8_measure_113 (by decide) rfl (fun c1 => ?_) (fun c1 => ?_)
  · have h := h.1 c1
    refine g_iinc (q := 246) 6 (L' := [aR (some 48), aR (some b1), aJ, aJ, aI l4, aI l5, aI (w32 (l6 + 1)), aI l7, aJ, aJ]) X dX8_measure_243 rfl (by decide) rfl rfl rfl ?_
    refine g_goto (q := 91) X dX8_measure_246 (by decide) ?_
    refine g_sub (L' := [aR (some 48), aR (some b1), aJ, aJ, aI l4, aI l5, aI (w32 (l6 + 1)), aJ, aJ, aJ]) ⟨Or.inr rfl, Or.inr rfl, Or.inl rfl, Or.inl rfl, Or.inr rfl, Or.inr rfl, Or.inr rfl, Or.inl rfl, Or.inl rfl, Or.inl rfl, trivial⟩ ?_
    exact hP91 _ _ _ _ h
  · have h := h.2 c1
    refine g_aload_n (q := 117) 1 X dX8_measure_116 rfl rfl rfl ?_
    refine g_getR (q := 120) (r := some (b1 + 4)) 5 3 X (lkR_3 hK hb_b1) (lt2000 (c := 0) (isR_lt hb_b1 (by decide))) kf_X8_43 (by decide) (by decide) rfl (shR_0 hb_b1) (isR_n0 hK hb_b1) dX8_measure_117 rfl ?_
    refine g_iload (q := 122) 7 X dX8_measure_120 rfl rfl ?_
    obtain ⟨s2, h⟩ := h
    refine g_iald (q := 123) X (shR_4 hb_b1) (isR_n hK hb_b1 (by decide)) s2 dX8_measure_122 rfl ?_
    refine g_nmI (fun x3 ex3 => ?_)
    have h := h x3 ex3
    refine g_istore (q := 125) (k0 := 0) 8 (L' := [aR (some 48), aR (some b1), aJ, aJ, aI l4, aI l5, aI l6, aI l7, aI x3, aJ]) X dX8_measure_123 rfl (by decide) rfl rfl ?_
    refine g_aload_n (q := 126) 1 X dX8_measure_125 rfl rfl rfl ?_
    refine g_getR (q := 129) (r := some (b1 + 5)) 5 4 X (lkR_4 hK hb_b1) (lt2000 (c := 0) (isR_lt hb_b1 (by decide))) kf_X8_46 (by decide) (by decide) rfl (shR_0 hb_b1) (isR_n0 hK hb_b1) dX8_measure_126 rfl ?_
    refine g_iload (q := 131) 7 X dX8_measure_129 rfl rfl ?_
    obtain ⟨s4, h⟩ := h
    refine g_iald (q := 132) X (shR_5 hb_b1) (isR_n hK hb_b1 (by decide)) s4 dX8_measure_131 rfl ?_
    refine g_nmI (fun x5 ex5 => ?_)
    have h := h x5 ex5
    refine g_istore (q := 134) (k0 := 0) 9 (L' := [aR (some 48), aR (some b1), aJ, aJ, aI l4, aI l5, aI l6, aI l7, aI x3, aI x5]) X dX8_measure_132 rfl (by decide) rfl rfl ?_
    refine g_aload_n (q := 135) 0 X dX8_measure_134 rfl rfl rfl ?_
    refine g_getR (q := 138) (r := some 50) 8 1 X (lk_48_1 hK) (lt2000 (c := 0) (by decide)) kf_X8_15 (by decide) (by decide) rfl rfl (hK.n (by decide)) dX8_measure_135 rfl ?_
    refine g_iload (q := 140) 9 X dX8_measure_138 rfl rfl ?_
    obtain ⟨s6, h⟩ := h
    refine g_iald (q := 141) X rfl (hK.n (by decide)) s6 dX8_measure_140 rfl ?_
    refine g_aload_n (q := 142) 0 X dX8_measure_141 rfl rfl rfl ?_
    refine g_getR (q := 145) (r := some 49) 8 0 X (lk_48_0 hK) (lt2000 (c := 0) (by decide)) kf_X8_9 (by decide) (by decide) rfl rfl (hK.n (by decide)) dX8_measure_142 rfl ?_
    refine g_iload (q := 147) 7 X dX8_measure_145 rfl rfl ?_
    obtain ⟨s7, h⟩ := h
    refine g_iald (q := 148) X rfl (hK.n (by decide)) s7 dX8_measure_147 rfl ?_
    refine g_iadd (q := 149) X dX8_measure_148 rfl ?_
    refine g_aload_n (q := 150) 0 X dX8_measure_149 rfl rfl rfl ?_
    refine g_getR (q := 153) (r := some 50) 8 1 X (lk_48_1 hK) (lt2000 (c := 0) (by decide)) kf_X8_15 (by decide) (by decide) rfl rfl (hK.n (by decide)) dX8_measure_150 rfl ?_
    refine g_iload (q := 155) 8 X dX8_measure_153 rfl rfl ?_
    obtain ⟨s8, h⟩ := h
    refine g_iald (q := 156) X rfl (hK.n (by decide)) s8 dX8_measure_155 rfl ?_
    refine g_icmp_ge (q := 159) 187 X dX8_measure_156 (by decide) rfl (fun c9 => ?_) (fun c9 => ?_)
    · have h := h.1 c9
      refine g_aload_n (q := 188) 0 X dX8_measure_187 rfl rfl rfl ?_
      refine g_getR (q := 191) (r := some 50) 8 1 X (lk_48_1 hK) (lt2000 (c := 0) (by decide)) kf_X8_15 (by decide) (by decide) rfl rfl (hK.n (by decide)) dX8_measure_188 rfl ?_
      refine g_iload (q := 193) 8 X dX8_measure_191 rfl rfl ?_
      obtain ⟨s10, h⟩ := h
      refine g_iald (q := 194) X rfl (hK.n (by decide)) s10 dX8_measure_193 rfl ?_
      refine g_aload_n (q := 195) 0 X dX8_measure_194 rfl rfl rfl ?_
      refine g_getR (q := 198) (r := some 49) 8 0 X (lk_48_0 hK) (lt2000 (c := 0) (by decide)) kf_X8_9 (by decide) (by decide) rfl rfl (hK.n (by decide)) dX8_measure_195 rfl ?_
      refine g_iload (q := 200) 7 X dX8_measure_198 rfl rfl ?_
      obtain ⟨s11, h⟩ := h
      refine g_iald (q := 201) X rfl (hK.n (by decide)) s11 dX8_measure_200 rfl ?_
      refine g_iadd (q := 202) X dX8_measure_201 rfl ?_
      refine g_aload_n (q := 203) 0 X dX8_measure_202 rfl rfl rfl ?_
      refine g_getR (q := 206) (r := some 50) 8 1 X (lk_48_1 hK) (lt2000 (c := 0) (by decide)) kf_X8_15 (by decide) (by decide) rfl rfl (hK.n (by decide)) dX8_measure_203 rfl ?_
      refine g_iload (q := 208) 9 X dX8_measure_206 rfl rfl ?_
      obtain ⟨s12, h⟩ := h
      refine g_iald (q := 209) X rfl (hK.n (by decide)) s12 dX8_measure_208 rfl ?_
      refine g_icmp_ge (q := 212) 237 X dX8_measure_209 (by decide) rfl (fun c13 => ?_) (fun c13 => ?_)
      · have h := h.1 c13
        refine g_sub (L' := [aR (some 48), aR (some b1), aJ, aJ, aI l4, aI l5, aI l6, aI l7, aJ, aJ]) ⟨Or.inr rfl, Or.inr rfl, Or.inl rfl, Or.inl rfl, Or.inr rfl, Or.inr rfl, Or.inr rfl, Or.inr rfl, Or.inl rfl, Or.inl rfl, trivial⟩ ?_
        exact cb_X8_measure_237 X hR hK hb_b1 hP91 hP109 h
      · have h := h.2 c13
        refine g_aload_n (q := 213) 0 X dX8_measure_212 rfl rfl rfl ?_
        refine g_getR (q := 216) (r := some 50) 8 1 X (lk_48_1 hK) (lt2000 (c := 0) (by decide)) kf_X8_15 (by decide) (by decide) rfl rfl (hK.n (by decide)) dX8_measure_213 rfl ?_
        refine g_iload (q := 218) 9 X dX8_measure_216 rfl rfl ?_
        refine g_aload_n (q := 219) 0 X dX8_measure_218 rfl rfl rfl ?_
        refine g_getR (q := 222) (r := some 50) 8 1 X (lk_48_1 hK) (lt2000 (c := 0) (by decide)) kf_X8_15 (by decide) (by decide) rfl rfl (hK.n (by decide)) dX8_measure_219 rfl ?_
        refine g_iload (q := 224) 8 X dX8_measure_222 rfl rfl ?_
        obtain ⟨s14, h⟩ := h
        refine g_iald (q := 225) X rfl (hK.n (by decide)) s14 dX8_measure_224 rfl ?_
        refine g_aload_n (q := 226) 0 X dX8_measure_225 rfl rfl rfl ?_
        refine g_getR (q := 229) (r := some 49) 8 0 X (lk_48_0 hK) (lt2000 (c := 0) (by decide)) kf_X8_9 (by decide) (by decide) rfl rfl (hK.n (by decide)) dX8_measure_226 rfl ?_
        refine g_iload (q := 231) 7 X dX8_measure_229 rfl rfl ?_
        obtain ⟨s15, h⟩ := h
        refine g_iald (q := 232) X rfl (hK.n (by decide)) s15 dX8_measure_231 rfl ?_
        refine g_iadd (q := 233) X dX8_measure_232 rfl ?_
        obtain ⟨s16, h⟩ := h
        refine g_iast (q := 234) X rfl (hK.n (by decide)) s16 dX8_measure_233 rfl ?_
        refine g_nmM (fun iv17 eiv17 => ?_)
        have h := h iv17 eiv17
        refine g_iconst (q := 235) 1 X dX8_measure_234 rfl rfl ic_1 ?_
        refine g_istore (q := 237) (k0 := 0) 5 (L' := [aR (some 48), aR (some b1), aJ, aJ, aI l4, aI 1, aI l6, aI l7, aI x3, aI x5]) X dX8_measure_235 rfl (by decide) rfl rfl ?_
        refine g_sub (L' := [aR (some 48), aR (some b1), aJ, aJ, aI l4, aI 1, aI l6, aI l7, aJ, aJ]) ⟨Or.inr rfl, Or.inr rfl, Or.inl rfl, Or.inl rfl, Or.inr rfl, Or.inr rfl, Or.inr rfl, Or.inr rfl, Or.inl rfl, Or.inl rfl, trivial⟩ ?_
        exact cb_X8_measure_237 X hR hK hb_b1 hP91 hP109 h
    · have h := h.2 c9
      refine g_aload_n (q := 160) 0 X dX8_measure_159 rfl rfl rfl ?_
      refine g_getR (q := 163) (r := some 50) 8 1 X (lk_48_1 hK) (lt2000 (c := 0) (by decide)) kf_X8_15 (by decide) (by decide) rfl rfl (hK.n (by decide)) dX8_measure_160 rfl ?_
      refine g_iload (q := 165) 8 X dX8_measure_163 rfl rfl ?_
      refine g_aload_n (q := 166) 0 X dX8_measure_165 rfl rfl rfl ?_
      refine g_getR (q := 169) (r := some 50) 8 1 X (lk_48_1 hK) (lt2000 (c := 0) (by decide)) kf_X8_15 (by decide) (by decide) rfl rfl (hK.n (by decide)) dX8_measure_166 rfl ?_
      refine g_iload (q := 171) 9 X dX8_measure_169 rfl rfl ?_
      obtain ⟨s18, h⟩ := h
      refine g_iald (q := 172) X rfl (hK.n (by decide)) s18 dX8_measure_171 rfl ?_
      refine g_aload_n (q := 173) 0 X dX8_measure_172 rfl rfl rfl ?_
      refine g_getR (q := 176) (r := some 49) 8 0 X (lk_48_0 hK) (lt2000 (c := 0) (by decide)) kf_X8_9 (by decide) (by decide) rfl rfl (hK.n (by decide)) dX8_measure_173 rfl ?_
      refine g_iload (q := 178) 7 X dX8_measure_176 rfl rfl ?_
      obtain ⟨s19, h⟩ := h
      refine g_iald (q := 179) X rfl (hK.n (by decide)) s19 dX8_measure_178 rfl ?_
      refine g_iadd (q := 180) X dX8_measure_179 rfl ?_
      obtain ⟨s20, h⟩ := h
      refine g_iast (q := 181) X rfl (hK.n (by decide)) s20 dX8_measure_180 rfl ?_
      refine g_nmM (fun iv21 eiv21 => ?_)
      have h := h iv21 eiv21
      refine g_iconst (q := 182) 1 X dX8_measure_181 rfl rfl ic_1 ?_
      refine g_istore (q := 184) (k0 := 0) 5 (L' := [aR (some 48), aR (some b1), aJ, aJ, aI l4, aI 1, aI l6, aI l7, aI x3, aI x5]) X dX8_measure_182 rfl (by decide) rfl rfl ?_
      refine g_goto (q := 237) X dX8_measure_184 (by decide) ?_
      refine g_sub (L' := [aR (some 48), aR (some b1), aJ, aJ, aI l4, aI 1, aI l6, aI l7, aJ, aJ]) ⟨Or.inr rfl, Or.inr rfl, Or.inl rfl, Or.inl rfl, Or.inr rfl, Or.inr rfl, Or.inr rfl, Or.inr rfl, Or.inl rfl, Or.inl rfl, trivial⟩ ?_
      exact cb_X8_measure_237 X hR hK hb_b1 hP91 hP109 h
def wl_X8_measure_109 (b1 : Nat) (P91 : Int → Int → Int → IV → Prop) (l4 l5 l6 l7 : Int) (iv : IV) (rv : RV) (K : IV → Prop) : Prop :=
  ∀ P : Int → Int → Int → Int → IV → Prop, (∀ (l4' l5' l6' l7' : Int) (iv' : IV), bd_X8_measure_109 b1 P91 P l4' l5' l6' l7' iv' rv K → P l4' l5' l6' l7' iv') → P l4 l5 l6 l7 iv
theorem cl_X8_measure_109 {Γ : GX} {n : Nat} {iv : IV} {rv : RV} {K : IV → Prop} {b1 : Nat} {P91 : Int → Int → Int → IV → Prop} {l4 l5 l6 l7 : Int} (X : Cx Γ RX8 cX8_measure 10 2) (hR : Rt Γ none 0 0 (fV1 n rv K)) (hK : Lk n rv) (hb_b1 : isR b1) (hP91 : ∀ (l4' l5' l6' : Int) (iv' : IV), P91 l4' l5' l6' iv' → G Γ 10 91 [aR (some 48), aR (some b1), aJ, aJ, aI (l4'), aI (l5'), aI (l6'), aJ, aJ, aJ] [] n iv' rv 0 0) (h : wl_X8_measure_109 b1 P91 l4 l5 l6 l7 iv rv K) : G Γ 10 109 [aR (some 48), aR (some b1), aJ, aJ, aI l4, aI l5, aI l6, aI l7, aJ, aJ] [] n iv rv 0 0 := by
  exact h (fun l4' l5' l6' l7' iv' =>  G Γ 10 109 [aR (some 48), aR (some b1), aJ, aJ, aI (l4'), aI (l5'), aI (l6'), aI (l7'), aJ, aJ] [] n iv' rv 0 0) (fun l4' l5' l6' l7' iv' hb => cb_X8_measure_109 X hR hK hb_b1 hP91 (fun l4' l5' l6' l7' iv' hp => hp) hb)
def bd_X8_measure_91 (b1 : Nat) (P91 : Int → Int → Int → IV → Prop) (l4 l5 l6 : Int) (iv : IV) (rv : RV) (K : IV → Prop) : Prop :=
  ((8 ≤ l6) → (K iv)) ∧ ((¬ (8 ≤ l6)) → (((l5 = 0) → (K iv)) ∧ ((¬ (l5 = 0)) → (wl_X8_measure_109 b1 P91 l4 0 l6 0 iv rv K))))
set_option maxRecDepth 10000 in
theorem cb_X8_measure_91 {Γ : GX} {n : Nat} {iv : IV} {rv : RV} {K : IV → Prop} {b1 : Nat} {P91 : Int → Int → Int → IV → Prop} {l4 l5 l6 : Int} (X : Cx Γ RX8 cX8_measure 10 2) (hR : Rt Γ none 0 0 (fV1 n rv K)) (hK : Lk n rv) (hb_b1 : isR b1) (hP91 : ∀ (l4' l5' l6' : Int) (iv' : IV), P91 l4' l5' l6' iv' → G Γ 10 91 [aR (some 48), aR (some b1), aJ, aJ, aI (l4'), aI (l5'), aI (l6'), aJ, aJ, aJ] [] n iv' rv 0 0) (h : bd_X8_measure_91 b1 P91 l4 l5 l6 iv rv K) : G Γ 10 91 [aR (some 48), aR (some b1), aJ, aJ, aI l4, aI l5, aI l6, aJ, aJ, aJ] [] n iv rv 0 0 := by
  unfold bd_X8_measure_91 at h
  refine g_iload (q := 93) 6 X dX8_measure_91 rfl rfl ?_
  refine g_bipush (q := 95) 8 X dX8_measure_93 rfl bc_8 ic_8 ?_
  refine g_icmp_ge (q := 98) 249 X dX8_measure_95 (by decide) rfl (fun c1 => ?_) (fun c1 => ?_)
  · have h := h.1 c1
    exact g_vret (q := 0) X hR dX8_measure_249 rfl ⟨rfl, rfl, rfl, h⟩
  · have h := h.2 c1
    refine g_iload (q := 100) 5 X dX8_measure_98 rfl rfl ?_
    refine g_if_eq (q := 103) 249 X dX8_measure_100 (by decide) rfl (fun c2 => ?_) (fun c2 => ?_)
    · have h := h.1 c2
      exact g_vret (q := 0) X hR dX8_measure_249 rfl ⟨rfl, rfl, rfl, h⟩
    · have h := h.2 c2
      refine g_iconst (q := 104) 0 X dX8_measure_103 rfl rfl ic_0 ?_
      refine g_istore (q := 106) (k0 := 0) 5 (L' := [aR (some 48), aR (some b1), aJ, aJ, aI l4, aI 0, aI l6, aJ, aJ, aJ]) X dX8_measure_104 rfl (by decide) rfl rfl ?_
      refine g_iconst (q := 107) 0 X dX8_measure_106 rfl rfl ic_0 ?_
      refine g_istore (q := 109) (k0 := 0) 7 (L' := [aR (some 48), aR (some b1), aJ, aJ, aI l4, aI 0, aI l6, aI 0, aJ, aJ]) X dX8_measure_107 rfl (by decide) rfl rfl ?_
      exact cl_X8_measure_109 X hR hK hb_b1 hP91 h
def wl_X8_measure_91 (b1 : Nat) (l4 l5 l6 : Int) (iv : IV) (rv : RV) (K : IV → Prop) : Prop :=
  ∀ P : Int → Int → Int → IV → Prop, (∀ (l4' l5' l6' : Int) (iv' : IV), bd_X8_measure_91 b1 P l4' l5' l6' iv' rv K → P l4' l5' l6' iv') → P l4 l5 l6 iv
theorem cl_X8_measure_91 {Γ : GX} {n : Nat} {iv : IV} {rv : RV} {K : IV → Prop} {b1 : Nat} {l4 l5 l6 : Int} (X : Cx Γ RX8 cX8_measure 10 2) (hR : Rt Γ none 0 0 (fV1 n rv K)) (hK : Lk n rv) (hb_b1 : isR b1) (h : wl_X8_measure_91 b1 l4 l5 l6 iv rv K) : G Γ 10 91 [aR (some 48), aR (some b1), aJ, aJ, aI l4, aI l5, aI l6, aJ, aJ, aJ] [] n iv rv 0 0 := by
  exact h (fun l4' l5' l6' iv' =>  G Γ 10 91 [aR (some 48), aR (some b1), aJ, aJ, aI (l4'), aI (l5'), aI (l6'), aJ, aJ, aJ] [] n iv' rv 0 0) (fun l4' l5' l6' iv' hb => cb_X8_measure_91 X hR hK hb_b1  (fun l4' l5' l6' iv' hp => hp) hb)
def bd_X8_measure_40 (b1 : Nat) (P9 : Int → Int → Int → IV → Prop) (l3 l4 l5 t0 : Int) (iv : IV) (rv : RV) (K : IV → Prop) : Prop :=
  (0 ≤ l5 ∧ l5 < 20) ∧ (0 ≤ l5 ∧ l5 < 20) ∧ ∀ iv3, iv3 = w2 iv 49 l5.toNat (w32 ((w32 (t0 * 1000)) + (iv (b1 + 6) l5.toNat))) → P9 l3 l4 (w32 (l5 + 1)) iv3
set_option maxRecDepth 10000 in
theorem cb_X8_measure_40 {Γ : GX} {n : Nat} {iv : IV} {rv : RV} {K : IV → Prop} {b1 : Nat} {P9 : Int → Int → Int → IV → Prop} {l3 l4 l5 t0 : Int} (X : Cx Γ RX8 cX8_measure 10 2) (hR : Rt Γ none 0 0 (fV1 n rv K)) (hK : Lk n rv) (hb_b1 : isR b1) (hP9 : ∀ (l3' l4' l5' : Int) (iv' : IV), P9 l3' l4' l5' iv' → G Γ 10 9 [aR (some 48), aR (some b1), aR (some 58), aI (l3'), aI (l4'), aI (l5'), aJ, aJ, aJ, aJ] [] n iv' rv 0 0) (h : bd_X8_measure_40 b1 P9 l3 l4 l5 t0 iv rv K) : G Γ 10 40 [aR (some 48), aR (some b1), aR (some 58), aI l3, aI l4, aI l5, aJ, aJ, aJ, aJ] [aI t0] n iv rv 0 0 := by
  unfold bd_X8_measure_40 at h
  refine g_istore (q := 42) (k0 := 0) 7 (L' := [aR (some 48), aR (some b1), aR (some 58), aI l3, aI l4, aI l5, aJ, aI t0, aJ, aJ]) X dX8_measure_40 rfl (by decide) rfl rfl ?_
  refine g_aload_n (q := 43) 0 X dX8_measure_42 rfl rfl rfl ?_
  refine g_getR (q := 46) (r := some 49) 8 0 X (lk_48_0 hK) (lt2000 (c := 0) (by decide)) kf_X8_9 (by decide) (by decide) rfl rfl (hK.n (by decide)) dX8_measure_43 rfl ?_
  refine g_iload (q := 48) 5 X dX8_measure_46 rfl rfl ?_
  refine g_iload (q := 50) 7 X dX8_measure_48 rfl rfl ?_
  refine g_sipush (q := 53) 1000 X dX8_measure_50 rfl sc_1000 ic_1000 ?_
  refine g_imul (q := 54) X dX8_measure_53 rfl ?_
  refine g_aload_n (q := 55) 1 X dX8_measure_54 rfl rfl rfl ?_
  refine g_getR (q := 58) (r := some (b1 + 6)) 5 5 X (lkR_5 hK hb_b1) (lt2000 (c := 0) (isR_lt hb_b1 (by decide))) kf_X8_33 (by decide) (by decide) rfl (shR_0 hb_b1) (isR_n0 hK hb_b1) dX8_measure_55 rfl ?_
  refine g_iload (q := 60) 5 X dX8_measure_58 rfl rfl ?_
  obtain ⟨s1, h⟩ := h
  refine g_iald (q := 61) X (shR_6 hb_b1) (isR_n hK hb_b1 (by decide)) s1 dX8_measure_60 rfl ?_
  refine g_iadd (q := 62) X dX8_measure_61 rfl ?_
  obtain ⟨s2, h⟩ := h
  refine g_iast (q := 63) X rfl (hK.n (by decide)) s2 dX8_measure_62 rfl ?_
  refine g_nmM (fun iv3 eiv3 => ?_)
  have h := h iv3 eiv3
  refine g_iinc (q := 66) 5 (L' := [aR (some 48), aR (some b1), aR (some 58), aI l3, aI l4, aI (w32 (l5 + 1)), aJ, aI t0, aJ, aJ]) X dX8_measure_63 rfl (by decide) rfl rfl rfl ?_
  refine g_goto (q := 9) X dX8_measure_66 (by decide) ?_
  refine g_sub (L' := [aR (some 48), aR (some b1), aR (some 58), aI l3, aI l4, aI (w32 (l5 + 1)), aJ, aJ, aJ, aJ]) ⟨Or.inr rfl, Or.inr rfl, Or.inr rfl, Or.inr rfl, Or.inr rfl, Or.inr rfl, Or.inl rfl, Or.inl rfl, Or.inl rfl, Or.inl rfl, trivial⟩ ?_
  exact hP9 _ _ _ _ h
def bd_X8_measure_9 (b1 : Nat) (P9 : Int → Int → Int → IV → Prop) (l3 l4 l5 : Int) (iv : IV) (rv : RV) (K : IV → Prop) : Prop :=
  ((l4 ≤ l5) → (∀ iv2, iv2 = fil iv 50 8 1000000000 → (0 ≤ l3 ∧ l3 < 8) ∧ ∀ iv4, iv4 = w2 iv2 50 l3.toNat 0 → wl_X8_measure_91 b1 l4 1 0 iv4 rv K)) ∧ ((¬ (l4 ≤ l5)) → ((0 ≤ l5 ∧ l5 < 20) ∧ ∀ x6, x6 = iv (b1 + 7) l5.toNat → ((0 ≤ x6) → (wp_X0_owedAt x6 iv rv (fun r8 => bd_X8_measure_40 b1 P9 l3 l4 l5 r8 iv rv K))) ∧ ((¬ (0 ≤ x6)) → (bd_X8_measure_40 b1 P9 l3 l4 l5 0 iv rv K))))
set_option maxRecDepth 10000 in
theorem cb_X8_measure_9 {Γ : GX} {n : Nat} {iv : IV} {rv : RV} {K : IV → Prop} {b1 : Nat} {P9 : Int → Int → Int → IV → Prop} {l3 l4 l5 : Int} (X : Cx Γ RX8 cX8_measure 10 2) (hR : Rt Γ none 0 0 (fV1 n rv K)) (hK : Lk n rv) (hb_b1 : isR b1) (hP9 : ∀ (l3' l4' l5' : Int) (iv' : IV), P9 l3' l4' l5' iv' → G Γ 10 9 [aR (some 48), aR (some b1), aR (some 58), aI (l3'), aI (l4'), aI (l5'), aJ, aJ, aJ, aJ] [] n iv' rv 0 0) (h : bd_X8_measure_9 b1 P9 l3 l4 l5 iv rv K) : G Γ 10 9 [aR (some 48), aR (some b1), aR (some 58), aI l3, aI l4, aI l5, aJ, aJ, aJ, aJ] [] n iv rv 0 0 := by
  unfold bd_X8_measure_9 at h
  refine g_iload (q := 11) 5 X dX8_measure_9 rfl rfl ?_
  refine g_iload (q := 13) 4 X dX8_measure_11 rfl rfl ?_
  refine g_icmp_ge (q := 16) 69 X dX8_measure_13 (by decide) rfl (fun c1 => ?_) (fun c1 => ?_)
  · have h := h.1 c1
    refine g_aload_n (q := 70) 0 X dX8_measure_69 rfl rfl rfl ?_
    refine g_getR (q := 73) (r := some 50) 8 1 X (lk_48_1 hK) (lt2000 (c := 0) (by decide)) kf_X8_15 (by decide) (by decide) rfl rfl (hK.n (by decide)) dX8_measure_70 rfl ?_
    refine g_ldc (q := 75) 1000000000 X kc_X8_36 dX8_measure_73 rfl ic_1000000000 ?_
    refine g_cs (q := 78) [aR (some 50), aI 1000000000] X (ce_fill n iv rv 1000000000 rfl (hK.n (by decide)) (by decide)) kS_X8_37 rfl rfl (Nat.le_of_ble_eq_true rfl) (by decide) dX8_measure_75 rfl (fun r n_ iv_ rv_ hf => ?_)
    obtain ⟨en_, er_, rfl, eiv2⟩ := hf; subst n_; subst rv_
    generalize iv_ = iv2 at eiv2 ⊢
    have h := h iv2 eiv2
    refine g_aload_n (q := 79) 0 X dX8_measure_78 rfl rfl rfl ?_
    refine g_getR (q := 82) (r := some 50) 8 1 X (lk_48_1 hK) (lt2000 (c := 0) (by decide)) kf_X8_15 (by decide) (by decide) rfl rfl (hK.n (by decide)) dX8_measure_79 rfl ?_
    refine g_iload_n (q := 83) 3 X dX8_measure_82 rfl rfl rfl ?_
    refine g_iconst (q := 84) 0 X dX8_measure_83 rfl rfl ic_0 ?_
    obtain ⟨s3, h⟩ := h
    refine g_iast (q := 85) X rfl (hK.n (by decide)) s3 dX8_measure_84 rfl ?_
    refine g_nmM (fun iv4 eiv4 => ?_)
    have h := h iv4 eiv4
    refine g_iconst (q := 86) 1 X dX8_measure_85 rfl rfl ic_1 ?_
    refine g_istore (q := 88) (k0 := 0) 5 (L' := [aR (some 48), aR (some b1), aR (some 58), aI l3, aI l4, aI 1, aJ, aJ, aJ, aJ]) X dX8_measure_86 rfl (by decide) rfl rfl ?_
    refine g_iconst (q := 89) 0 X dX8_measure_88 rfl rfl ic_0 ?_
    refine g_istore (q := 91) (k0 := 0) 6 (L' := [aR (some 48), aR (some b1), aR (some 58), aI l3, aI l4, aI 1, aI 0, aJ, aJ, aJ]) X dX8_measure_89 rfl (by decide) rfl rfl ?_
    refine g_sub (L' := [aR (some 48), aR (some b1), aJ, aJ, aI l4, aI 1, aI 0, aJ, aJ, aJ]) ⟨Or.inr rfl, Or.inr rfl, Or.inl rfl, Or.inl rfl, Or.inr rfl, Or.inr rfl, Or.inr rfl, Or.inl rfl, Or.inl rfl, Or.inl rfl, trivial⟩ ?_
    exact cl_X8_measure_91 X hR hK hb_b1  h
  · have h := h.2 c1
    refine g_aload_n (q := 17) 1 X dX8_measure_16 rfl rfl rfl ?_
    refine g_getR (q := 20) (r := some (b1 + 7)) 5 6 X (lkR_6 hK hb_b1) (lt2000 (c := 0) (isR_lt hb_b1 (by decide))) kf_X8_24 (by decide) (by decide) rfl (shR_0 hb_b1) (isR_n0 hK hb_b1) dX8_measure_17 rfl ?_
    refine g_iload (q := 22) 5 X dX8_measure_20 rfl rfl ?_
    obtain ⟨s5, h⟩ := h
    refine g_iald (q := 23) X (shR_7 hb_b1) (isR_n hK hb_b1 (by decide)) s5 dX8_measure_22 rfl ?_
    refine g_nmI (fun x6 ex6 => ?_)
    have h := h x6 ex6
    refine g_istore (q := 25) (k0 := 0) 6 (L' := [aR (some 48), aR (some b1), aR (some 58), aI l3, aI l4, aI l5, aI x6, aJ, aJ, aJ]) X dX8_measure_23 rfl (by decide) rfl rfl ?_
    refine g_iload (q := 27) 6 X dX8_measure_25 rfl rfl ?_
    refine g_if_ge (q := 30) 34 X dX8_measure_27 (by decide) rfl (fun c7 => ?_) (fun c7 => ?_)
    · have h := h.1 c7
      refine g_aload_n (q := 35) 2 X dX8_measure_34 rfl rfl rfl ?_
      refine g_iload (q := 37) 6 X dX8_measure_35 rfl rfl ?_
      refine g_cv (q := 40) [aI x6] 0 X (ce_X0_owedAt hK  h) kV_X8_27 rfl (by decide) rfl (hK.n (by decide)) rfl rfl (Nat.le_of_ble_eq_true rfl) (by decide) dX8_measure_37 rfl (fun r n_ iv_ rv_ hf => ?_)
      obtain ⟨en_, ei_, er_, r8, rfl, h⟩ := hf; subst n_; subst iv_; subst rv_
      refine g_sub (L' := [aR (some 48), aR (some b1), aR (some 58), aI l3, aI l4, aI l5, aJ, aJ, aJ, aJ]) ⟨Or.inr rfl, Or.inr rfl, Or.inr rfl, Or.inr rfl, Or.inr rfl, Or.inr rfl, Or.inl rfl, Or.inl rfl, Or.inl rfl, Or.inl rfl, trivial⟩ ?_
      exact cb_X8_measure_40 X hR hK hb_b1 hP9 h
    · have h := h.2 c7
      refine g_iconst (q := 31) 0 X dX8_measure_30 rfl rfl ic_0 ?_
      refine g_goto (q := 40) X dX8_measure_31 (by decide) ?_
      refine g_sub (L' := [aR (some 48), aR (some b1), aR (some 58), aI l3, aI l4, aI l5, aJ, aJ, aJ, aJ]) ⟨Or.inr rfl, Or.inr rfl, Or.inr rfl, Or.inr rfl, Or.inr rfl, Or.inr rfl, Or.inl rfl, Or.inl rfl, Or.inl rfl, Or.inl rfl, trivial⟩ ?_
      exact cb_X8_measure_40 X hR hK hb_b1 hP9 h
def wl_X8_measure_9 (b1 : Nat) (l3 l4 l5 : Int) (iv : IV) (rv : RV) (K : IV → Prop) : Prop :=
  ∀ P : Int → Int → Int → IV → Prop, (∀ (l3' l4' l5' : Int) (iv' : IV), bd_X8_measure_9 b1 P l3' l4' l5' iv' rv K → P l3' l4' l5' iv') → P l3 l4 l5 iv
theorem cl_X8_measure_9 {Γ : GX} {n : Nat} {iv : IV} {rv : RV} {K : IV → Prop} {b1 : Nat} {l3 l4 l5 : Int} (X : Cx Γ RX8 cX8_measure 10 2) (hR : Rt Γ none 0 0 (fV1 n rv K)) (hK : Lk n rv) (hb_b1 : isR b1) (h : wl_X8_measure_9 b1 l3 l4 l5 iv rv K) : G Γ 10 9 [aR (some 48), aR (some b1), aR (some 58), aI l3, aI l4, aI l5, aJ, aJ, aJ, aJ] [] n iv rv 0 0 := by
  exact h (fun l3' l4' l5' iv' =>  G Γ 10 9 [aR (some 48), aR (some b1), aR (some 58), aI (l3'), aI (l4'), aI (l5'), aJ, aJ, aJ, aJ] [] n iv' rv 0 0) (fun l3' l4' l5' iv' hb => cb_X8_measure_9 X hR hK hb_b1  (fun l3' l4' l5' iv' hp => hp) hb)
def wp_X8_measure (b1 : Nat) (a3 : Int) (iv : IV) (rv : RV) (K : IV → Prop) : Prop :=
  wp_X5_links b1 iv rv (fun r1 => wl_X8_measure_9 b1 a3 r1 0 iv rv K)
set_option maxRecDepth 10000 in
theorem ce_X8_measure {n : Nat} {iv : IV} {rv : RV} {K : IV → Prop} {b1 : Nat} {a3 : Int} (hK : Lk n rv) (hb_b1 : isR b1) (h : wp_X8_measure b1 a3 iv rv K) : Call 2 0 0 yX8_measure cX8_measure 10 none [aR (some 48), aR (some b1), aR (some 58), aI a3] n iv rv (fV1 n rv K) := by
  refine Call.by (L := [aR (some 48), aR (some b1), aR (some 58), aI a3, aJ, aJ, aJ, aJ, aJ, aJ]) (by decide) rfl ⟨trivial, trivial, trivial, trivial, trivial⟩ rfl (Nat.le_of_ble_eq_true rfl) (fun Γ X hR => ?_)
  unfold wp_X8_measure at h
  refine g_aload_n (q := 1) 1 X dX8_measure_0 rfl rfl rfl ?_
  refine g_cv (q := 4) [] 5 X (ce_X5_links hK hb_b1 h) kV_X8_18 rfl (by decide) (shR_0 hb_b1) (isR_n0 hK hb_b1) rfl rfl (Nat.le_of_ble_eq_true rfl) (by decide) dX8_measure_1 rfl (fun r n_ iv_ rv_ hf => ?_)
  obtain ⟨en_, ei_, er_, r1, rfl, h⟩ := hf; subst n_; subst iv_; subst rv_
  refine g_istore (q := 6) (k0 := 0) 4 (L' := [aR (some 48), aR (some b1), aR (some 58), aI a3, aI r1, aJ, aJ, aJ, aJ, aJ]) X dX8_measure_4 rfl (by decide) rfl rfl ?_
  refine g_iconst (q := 7) 0 X dX8_measure_6 rfl rfl ic_0 ?_
  refine g_istore (q := 9) (k0 := 0) 5 (L' := [aR (some 48), aR (some b1), aR (some 58), aI a3, aI r1, aI 0, aJ, aJ, aJ, aJ]) X dX8_measure_7 rfl (by decide) rfl rfl ?_
  exact cl_X8_measure_9 X hR hK hb_b1  h
def wp_X8_farEnd (b1 : Nat) (a2 : Int) (a3 : Int) (iv : IV) (rv : RV) (K : Int → Prop) : Prop :=
  (0 ≤ a2 ∧ a2 < 20) ∧ (((iv (b1 + 4) a2.toNat) ≠ a3) → ((0 ≤ a2 ∧ a2 < 20) ∧ (((iv (b1 + 5) a2.toNat) ≠ a3) → (K (-1))) ∧ (((iv (b1 + 5) a2.toNat) = a3) → ((0 ≤ a2 ∧ a2 < 20) ∧ K (iv (b1 + 4) a2.toNat))))) ∧ (((iv (b1 + 4) a2.toNat) = a3) → ((0 ≤ a2 ∧ a2 < 20) ∧ K (iv (b1 + 5) a2.toNat)))
set_option maxRecDepth 10000 in
theorem ce_X8_farEnd {n : Nat} {iv : IV} {rv : RV} {K : Int → Prop} {b1 : Nat} {a2 : Int} {a3 : Int} (hK : Lk n rv) (hb_b1 : isR b1) (h : wp_X8_farEnd b1 a2 a3 iv rv K) : Call 0 0 0 yX8_farEnd cX8_farEnd 4 (some .int) [aR (some 48), aR (some b1), aI a2, aI a3] n iv rv (fI0 n iv rv K) := by
  refine Call.by (L := [aR (some 48), aR (some b1), aI a2, aI a3]) (by decide) rfl ⟨trivial, trivial, trivial, trivial, trivial⟩ rfl (Nat.le_of_ble_eq_true rfl) (fun Γ X hR => ?_)
  unfold wp_X8_farEnd at h
  refine g_aload_n (q := 1) 1 X dX8_farEnd_0 rfl rfl rfl ?_
  refine g_getR (q := 4) (r := some (b1 + 4)) 5 3 X (lkR_3 hK hb_b1) (lt2000 (c := 0) (isR_lt hb_b1 (by decide))) kf_X8_43 (by decide) (by decide) rfl (shR_0 hb_b1) (isR_n0 hK hb_b1) dX8_farEnd_1 rfl ?_
  refine g_iload_n (q := 5) 2 X dX8_farEnd_4 rfl rfl rfl ?_
  obtain ⟨s1, h⟩ := h
  refine g_iald (q := 6) X (shR_4 hb_b1) (isR_n hK hb_b1 (by decide)) s1 dX8_farEnd_5 rfl ?_
  refine g_iload_n (q := 7) 3 X dX8_farEnd_6 rfl rfl rfl ?_
  refine g_icmp_ne (q := 10) 17 X dX8_farEnd_7 (by decide) rfl (fun c2 => ?_) (fun c2 => ?_)
  · have h := h.1 c2
    refine g_aload_n (q := 18) 1 X dX8_farEnd_17 rfl rfl rfl ?_
    refine g_getR (q := 21) (r := some (b1 + 5)) 5 4 X (lkR_4 hK hb_b1) (lt2000 (c := 0) (isR_lt hb_b1 (by decide))) kf_X8_46 (by decide) (by decide) rfl (shR_0 hb_b1) (isR_n0 hK hb_b1) dX8_farEnd_18 rfl ?_
    refine g_iload_n (q := 22) 2 X dX8_farEnd_21 rfl rfl rfl ?_
    obtain ⟨s3, h⟩ := h
    refine g_iald (q := 23) X (shR_5 hb_b1) (isR_n hK hb_b1 (by decide)) s3 dX8_farEnd_22 rfl ?_
    refine g_iload_n (q := 24) 3 X dX8_farEnd_23 rfl rfl rfl ?_
    refine g_icmp_ne (q := 27) 36 X dX8_farEnd_24 (by decide) rfl (fun c4 => ?_) (fun c4 => ?_)
    · have h := h.1 c4
      refine g_iconst (q := 37) (-1) X dX8_farEnd_36 rfl rfl ic_m1 ?_
      exact g_iret (q := 0) X hR dX8_farEnd_37 rfl ⟨rfl, rfl, rfl, _, rfl, h⟩
    · have h := h.2 c4
      refine g_aload_n (q := 28) 1 X dX8_farEnd_27 rfl rfl rfl ?_
      refine g_getR (q := 31) (r := some (b1 + 4)) 5 3 X (lkR_3 hK hb_b1) (lt2000 (c := 0) (isR_lt hb_b1 (by decide))) kf_X8_43 (by decide) (by decide) rfl (shR_0 hb_b1) (isR_n0 hK hb_b1) dX8_farEnd_28 rfl ?_
      refine g_iload_n (q := 32) 2 X dX8_farEnd_31 rfl rfl rfl ?_
      obtain ⟨s5, h⟩ := h
      refine g_iald (q := 33) X (shR_4 hb_b1) (isR_n hK hb_b1 (by decide)) s5 dX8_farEnd_32 rfl ?_
      refine g_goto (q := 37) X dX8_farEnd_33 (by decide) ?_
      exact g_iret (q := 0) X hR dX8_farEnd_37 rfl ⟨rfl, rfl, rfl, _, rfl, h⟩
  · have h := h.2 c2
    refine g_aload_n (q := 11) 1 X dX8_farEnd_10 rfl rfl rfl ?_
    refine g_getR (q := 14) (r := some (b1 + 5)) 5 4 X (lkR_4 hK hb_b1) (lt2000 (c := 0) (isR_lt hb_b1 (by decide))) kf_X8_46 (by decide) (by decide) rfl (shR_0 hb_b1) (isR_n0 hK hb_b1) dX8_farEnd_11 rfl ?_
    refine g_iload_n (q := 15) 2 X dX8_farEnd_14 rfl rfl rfl ?_
    obtain ⟨s6, h⟩ := h
    refine g_iald (q := 16) X (shR_5 hb_b1) (isR_n hK hb_b1 (by decide)) s6 dX8_farEnd_15 rfl ?_
    exact g_iret (q := 0) X hR dX8_farEnd_16 rfl ⟨rfl, rfl, rfl, _, rfl, h⟩
def bd_X8_nextLink_71 (b1 : Nat) (P9 : Int → Int → Int → Int → Prop) (l2 l3 l4 l5 : Int) (iv : IV) (rv : RV) (K : Int → Prop) : Prop :=
  P9 l2 l3 l4 (w32 (l5 + 1))
set_option maxRecDepth 10000 in
theorem cb_X8_nextLink_71 {Γ : GX} {n : Nat} {iv : IV} {rv : RV} {K : Int → Prop} {b1 : Nat} {P9 : Int → Int → Int → Int → Prop} {l2 l3 l4 l5 : Int} (X : Cx Γ RX8 cX8_nextLink 7 1) (hR : Rt Γ (some .int) 0 0 (fI0 n iv rv K)) (hK : Lk n rv) (hb_b1 : isR b1) (hP9 : ∀ (l2' l3' l4' l5' : Int), P9 l2' l3' l4' l5' → G Γ 7 9 [aR (some 48), aR (some b1), aI (l2'), aI (l3'), aI (l4'), aI (l5'), aJ] [] n iv rv 0 0) (h : bd_X8_nextLink_71 b1 P9 l2 l3 l4 l5 iv rv K) : G Γ 7 71 [aR (some 48), aR (some b1), aI l2, aI l3, aI l4, aI l5, aJ] [] n iv rv 0 0 := by
  unfold bd_X8_nextLink_71 at h
  refine g_iinc (q := 74) 5 (L' := [aR (some 48), aR (some b1), aI l2, aI l3, aI l4, aI (w32 (l5 + 1)), aJ]) X dX8_nextLink_71 rfl (by decide) rfl rfl rfl ?_
  refine g_goto (q := 9) X dX8_nextLink_74 (by decide) ?_
  exact hP9 _ _ _ _ h
def bd_X8_nextLink_9 (b1 : Nat) (P9 : Int → Int → Int → Int → Prop) (l2 l3 l4 l5 : Int) (iv : IV) (rv : RV) (K : Int → Prop) : Prop :=
  wp_X5_links b1 iv rv (fun r1 => ((r1 ≤ l5) → (K l3)) ∧ ((¬ (r1 ≤ l5)) → (wp_X8_farEnd b1 l5 l2 iv rv (fun r3 => ((r3 < 0) → (bd_X8_nextLink_71 b1 P9 l2 l3 l4 l5 iv rv K)) ∧ ((¬ (r3 < 0)) → (((l4 ≤ r3) → (bd_X8_nextLink_71 b1 P9 l2 l3 l4 l5 iv rv K)) ∧ ((¬ (l4 ≤ r3)) → ((0 ≤ r3 ∧ r3 < 8) ∧ (0 ≤ l5 ∧ l5 < 20) ∧ (0 ≤ l2 ∧ l2 < 8) ∧ (((w32 ((iv 50 r3.toNat) + (iv 49 l5.toNat))) ≠ (iv 50 l2.toNat)) → (bd_X8_nextLink_71 b1 P9 l2 l3 l4 l5 iv rv K)) ∧ (((w32 ((iv 50 r3.toNat) + (iv 49 l5.toNat))) = (iv 50 l2.toNat)) → (bd_X8_nextLink_71 b1 P9 l2 l5 r3 l5 iv rv K))))))))))
set_option maxRecDepth 10000 in
theorem cb_X8_nextLink_9 {Γ : GX} {n : Nat} {iv : IV} {rv : RV} {K : Int → Prop} {b1 : Nat} {P9 : Int → Int → Int → Int → Prop} {l2 l3 l4 l5 : Int} (X : Cx Γ RX8 cX8_nextLink 7 1) (hR : Rt Γ (some .int) 0 0 (fI0 n iv rv K)) (hK : Lk n rv) (hb_b1 : isR b1) (hP9 : ∀ (l2' l3' l4' l5' : Int), P9 l2' l3' l4' l5' → G Γ 7 9 [aR (some 48), aR (some b1), aI (l2'), aI (l3'), aI (l4'), aI (l5'), aJ] [] n iv rv 0 0) (h : bd_X8_nextLink_9 b1 P9 l2 l3 l4 l5 iv rv K) : G Γ 7 9 [aR (some 48), aR (some b1), aI l2, aI l3, aI l4, aI l5, aJ] [] n iv rv 0 0 := by
  unfold bd_X8_nextLink_9 at h
  refine g_iload (q := 11) 5 X dX8_nextLink_9 rfl rfl ?_
  refine g_aload_n (q := 12) 1 X dX8_nextLink_11 rfl rfl rfl ?_
  refine g_cv (q := 15) [] 5 X (ce_X5_links hK hb_b1 h) kV_X8_18 rfl (by decide) (shR_0 hb_b1) (isR_n0 hK hb_b1) rfl rfl (Nat.le_of_ble_eq_true rfl) (by decide) dX8_nextLink_12 rfl (fun r n_ iv_ rv_ hf => ?_)
  obtain ⟨en_, ei_, er_, r1, rfl, h⟩ := hf; subst n_; subst iv_; subst rv_
  refine g_icmp_ge (q := 18) 77 X dX8_nextLink_15 (by decide) rfl (fun c2 => ?_) (fun c2 => ?_)
  · have h := h.1 c2
    refine g_iload_n (q := 78) 3 X dX8_nextLink_77 rfl rfl rfl ?_
    exact g_iret (q := 0) X hR dX8_nextLink_78 rfl ⟨rfl, rfl, rfl, _, rfl, h⟩
  · have h := h.2 c2
    refine g_aload_n (q := 19) 0 X dX8_nextLink_18 rfl rfl rfl ?_
    refine g_aload_n (q := 20) 1 X dX8_nextLink_19 rfl rfl rfl ?_
    refine g_iload (q := 22) 5 X dX8_nextLink_20 rfl rfl ?_
    refine g_iload_n (q := 23) 2 X dX8_nextLink_22 rfl rfl rfl ?_
    refine g_cv (q := 26) [aR (some b1), aI l5, aI l2] 8 X (ce_X8_farEnd hK hb_b1 h) kV_X8_49 rfl (by decide) rfl (hK.n (by decide)) rfl rfl (Nat.le_of_ble_eq_true rfl) (by decide) dX8_nextLink_23 rfl (fun r n_ iv_ rv_ hf => ?_)
    obtain ⟨en_, ei_, er_, r3, rfl, h⟩ := hf; subst n_; subst iv_; subst rv_
    refine g_istore (q := 28) (k0 := 0) 6 (L' := [aR (some 48), aR (some b1), aI l2, aI l3, aI l4, aI l5, aI r3]) X dX8_nextLink_26 rfl (by decide) rfl rfl ?_
    refine g_iload (q := 30) 6 X dX8_nextLink_28 rfl rfl ?_
    refine g_if_lt (q := 33) 71 X dX8_nextLink_30 (by decide) rfl (fun c4 => ?_) (fun c4 => ?_)
    · have h := h.1 c4
      refine g_sub (L' := [aR (some 48), aR (some b1), aI l2, aI l3, aI l4, aI l5, aJ]) ⟨Or.inr rfl, Or.inr rfl, Or.inr rfl, Or.inr rfl, Or.inr rfl, Or.inr rfl, Or.inl rfl, trivial⟩ ?_
      exact cb_X8_nextLink_71 X hR hK hb_b1 hP9 h
    · have h := h.2 c4
      refine g_iload (q := 35) 6 X dX8_nextLink_33 rfl rfl ?_
      refine g_iload (q := 37) 4 X dX8_nextLink_35 rfl rfl ?_
      refine g_icmp_ge (q := 40) 71 X dX8_nextLink_37 (by decide) rfl (fun c5 => ?_) (fun c5 => ?_)
      · have h := h.1 c5
        refine g_sub (L' := [aR (some 48), aR (some b1), aI l2, aI l3, aI l4, aI l5, aJ]) ⟨Or.inr rfl, Or.inr rfl, Or.inr rfl, Or.inr rfl, Or.inr rfl, Or.inr rfl, Or.inl rfl, trivial⟩ ?_
        exact cb_X8_nextLink_71 X hR hK hb_b1 hP9 h
      · have h := h.2 c5
        refine g_aload_n (q := 41) 0 X dX8_nextLink_40 rfl rfl rfl ?_
        refine g_getR (q := 44) (r := some 50) 8 1 X (lk_48_1 hK) (lt2000 (c := 0) (by decide)) kf_X8_15 (by decide) (by decide) rfl rfl (hK.n (by decide)) dX8_nextLink_41 rfl ?_
        refine g_iload (q := 46) 6 X dX8_nextLink_44 rfl rfl ?_
        obtain ⟨s6, h⟩ := h
        refine g_iald (q := 47) X rfl (hK.n (by decide)) s6 dX8_nextLink_46 rfl ?_
        refine g_aload_n (q := 48) 0 X dX8_nextLink_47 rfl rfl rfl ?_
        refine g_getR (q := 51) (r := some 49) 8 0 X (lk_48_0 hK) (lt2000 (c := 0) (by decide)) kf_X8_9 (by decide) (by decide) rfl rfl (hK.n (by decide)) dX8_nextLink_48 rfl ?_
        refine g_iload (q := 53) 5 X dX8_nextLink_51 rfl rfl ?_
        obtain ⟨s7, h⟩ := h
        refine g_iald (q := 54) X rfl (hK.n (by decide)) s7 dX8_nextLink_53 rfl ?_
        refine g_iadd (q := 55) X dX8_nextLink_54 rfl ?_
        refine g_aload_n (q := 56) 0 X dX8_nextLink_55 rfl rfl rfl ?_
        refine g_getR (q := 59) (r := some 50) 8 1 X (lk_48_1 hK) (lt2000 (c := 0) (by decide)) kf_X8_15 (by decide) (by decide) rfl rfl (hK.n (by decide)) dX8_nextLink_56 rfl ?_
        refine g_iload_n (q := 60) 2 X dX8_nextLink_59 rfl rfl rfl ?_
        obtain ⟨s8, h⟩ := h
        refine g_iald (q := 61) X rfl (hK.n (by decide)) s8 dX8_nextLink_60 rfl ?_
        refine g_icmp_ne (q := 64) 71 X dX8_nextLink_61 (by decide) rfl (fun c9 => ?_) (fun c9 => ?_)
        · have h := h.1 c9
          refine g_sub (L' := [aR (some 48), aR (some b1), aI l2, aI l3, aI l4, aI l5, aJ]) ⟨Or.inr rfl, Or.inr rfl, Or.inr rfl, Or.inr rfl, Or.inr rfl, Or.inr rfl, Or.inl rfl, trivial⟩ ?_
          exact cb_X8_nextLink_71 X hR hK hb_b1 hP9 h
        · have h := h.2 c9
          refine g_iload (q := 66) 5 X dX8_nextLink_64 rfl rfl ?_
          refine g_istore_n (q := 67) 3 (L' := [aR (some 48), aR (some b1), aI l2, aI l5, aI l4, aI l5, aI r3]) X dX8_nextLink_66 rfl rfl (by decide) rfl rfl ?_
          refine g_iload (q := 69) 6 X dX8_nextLink_67 rfl rfl ?_
          refine g_istore (q := 71) (k0 := 0) 4 (L' := [aR (some 48), aR (some b1), aI l2, aI l5, aI r3, aI l5, aI r3]) X dX8_nextLink_69 rfl (by decide) rfl rfl ?_
          refine g_sub (L' := [aR (some 48), aR (some b1), aI l2, aI l5, aI r3, aI l5, aJ]) ⟨Or.inr rfl, Or.inr rfl, Or.inr rfl, Or.inr rfl, Or.inr rfl, Or.inr rfl, Or.inl rfl, trivial⟩ ?_
          exact cb_X8_nextLink_71 X hR hK hb_b1 hP9 h
def wl_X8_nextLink_9 (b1 : Nat) (l2 l3 l4 l5 : Int) (iv : IV) (rv : RV) (K : Int → Prop) : Prop :=
  ∀ P : Int → Int → Int → Int → Prop, (∀ (l2' l3' l4' l5' : Int), bd_X8_nextLink_9 b1 P l2' l3' l4' l5' iv rv K → P l2' l3' l4' l5') → P l2 l3 l4 l5
theorem cl_X8_nextLink_9 {Γ : GX} {n : Nat} {iv : IV} {rv : RV} {K : Int → Prop} {b1 : Nat} {l2 l3 l4 l5 : Int} (X : Cx Γ RX8 cX8_nextLink 7 1) (hR : Rt Γ (some .int) 0 0 (fI0 n iv rv K)) (hK : Lk n rv) (hb_b1 : isR b1) (h : wl_X8_nextLink_9 b1 l2 l3 l4 l5 iv rv K) : G Γ 7 9 [aR (some 48), aR (some b1), aI l2, aI l3, aI l4, aI l5, aJ] [] n iv rv 0 0 := by
  exact h (fun l2' l3' l4' l5' =>  G Γ 7 9 [aR (some 48), aR (some b1), aI (l2'), aI (l3'), aI (l4'), aI (l5'), aJ] [] n iv rv 0 0) (fun l2' l3' l4' l5' hb => cb_X8_nextLink_9 X hR hK hb_b1  (fun l2' l3' l4' l5' hp => hp) hb)
def wp_X8_nextLink (b1 : Nat) (a2 : Int) (iv : IV) (rv : RV) (K : Int → Prop) : Prop :=
  wl_X8_nextLink_9 b1 a2 (-1) 8 0 iv rv K
set_option maxRecDepth 10000 in
theorem ce_X8_nextLink {n : Nat} {iv : IV} {rv : RV} {K : Int → Prop} {b1 : Nat} {a2 : Int} (hK : Lk n rv) (hb_b1 : isR b1) (h : wp_X8_nextLink b1 a2 iv rv K) : Call 1 0 0 yX8_nextLink cX8_nextLink 7 (some .int) [aR (some 48), aR (some b1), aI a2] n iv rv (fI0 n iv rv K) := by
  refine Call.by (L := [aR (some 48), aR (some b1), aI a2, aJ, aJ, aJ, aJ]) (by decide) rfl ⟨trivial, trivial, trivial, trivial⟩ rfl (Nat.le_of_ble_eq_true rfl) (fun Γ X hR => ?_)
  unfold wp_X8_nextLink at h
  refine g_iconst (q := 1) (-1) X dX8_nextLink_0 rfl rfl ic_m1 ?_
  refine g_istore_n (q := 2) 3 (L' := [aR (some 48), aR (some b1), aI a2, aI (-1), aJ, aJ, aJ]) X dX8_nextLink_1 rfl rfl (by decide) rfl rfl ?_
  refine g_bipush (q := 4) 8 X dX8_nextLink_2 rfl bc_8 ic_8 ?_
  refine g_istore (q := 6) (k0 := 0) 4 (L' := [aR (some 48), aR (some b1), aI a2, aI (-1), aI 8, aJ, aJ]) X dX8_nextLink_4 rfl (by decide) rfl rfl ?_
  refine g_iconst (q := 7) 0 X dX8_nextLink_6 rfl rfl ic_0 ?_
  refine g_istore (q := 9) (k0 := 0) 5 (L' := [aR (some 48), aR (some b1), aI a2, aI (-1), aI 8, aI 0, aJ]) X dX8_nextLink_7 rfl (by decide) rfl rfl ?_
  exact cl_X8_nextLink_9 X hR hK hb_b1  h
