def bd_X7_advance_263 (l1 t0 : Int) (iv : IV) (rv : RV) (K : IV → Prop) : Prop :=
  ∀ iv1, iv1 = w2 iv 46 3 t0 → ∀ iv2, iv2 = w2 iv1 46 2 l1 → K iv2
set_option maxRecDepth 10000 in
theorem cb_X7_advance_263 {Γ : GX} {n : Nat} {iv : IV} {rv : RV} {K : IV → Prop} {l1 t0 : Int} (X : Cx Γ RX7 cX7_advance 8 0) (hR : Rt Γ none 0 0 (fV1 n rv K)) (hK : Lk n rv)  (h : bd_X7_advance_263 l1 t0 iv rv K) : G Γ 8 263 [aR (some 46), aI l1, aJ, aJ, aJ, aJ, aJ, aJ] [aI t0, aR (some 46)] n iv rv 0 0 := by
  unfold bd_X7_advance_263 at h
  refine g_putI (q := 266) 7 3 X (Or.inl rfl) rfl kf_X7_42 (by decide) (by decide) rfl (hK.n (by decide)) dX7_advance_263 rfl ?_
  refine g_nmM (fun iv1 eiv1 => ?_)
  have h := h iv1 eiv1
  refine g_goto (q := 303) X dX7_advance_266 (by decide) ?_
  refine g_aload_n (q := 304) 0 X dX7_advance_303 rfl rfl rfl ?_
  refine g_iload_n (q := 305) 1 X dX7_advance_304 rfl rfl rfl ?_
  refine g_putI (q := 308) 7 2 X (Or.inl rfl) rfl kf_X7_25 (by decide) (by decide) rfl (hK.n (by decide)) dX7_advance_305 rfl ?_
  refine g_nmM (fun iv2 eiv2 => ?_)
  have h := h iv2 eiv2
  exact g_vret (q := 0) X hR dX7_advance_308 rfl ⟨rfl, rfl, rfl, h⟩
def bd_X7_advance_242 (l1 l3 t0 : Int) (iv : IV) (rv : RV) (K : IV → Prop) : Prop :=
  ((t0 = 0) → (((l3 = 0) → (bd_X7_advance_263 l1 2 iv rv K)) ∧ ((¬ (l3 = 0)) → (bd_X7_advance_263 l1 1 iv rv K)))) ∧ ((¬ (t0 = 0)) → (bd_X7_advance_263 l1 4 iv rv K))
set_option maxRecDepth 10000 in
theorem cb_X7_advance_242 {Γ : GX} {n : Nat} {iv : IV} {rv : RV} {K : IV → Prop} {l1 l3 t0 : Int} (X : Cx Γ RX7 cX7_advance 8 0) (hR : Rt Γ none 0 0 (fV1 n rv K)) (hK : Lk n rv)  (h : bd_X7_advance_242 l1 l3 t0 iv rv K) : G Γ 8 242 [aR (some 46), aI l1, aJ, aI l3, aJ, aJ, aJ, aJ] [aI t0] n iv rv 0 0 := by
  unfold bd_X7_advance_242 at h
  refine g_istore (q := 244) (k0 := 0) 7 (L' := [aR (some 46), aI l1, aJ, aI l3, aJ, aJ, aJ, aI t0]) X dX7_advance_242 rfl (by decide) rfl rfl ?_
  refine g_aload_n (q := 245) 0 X dX7_advance_244 rfl rfl rfl ?_
  refine g_iload (q := 247) 7 X dX7_advance_245 rfl rfl ?_
  refine g_if_eq (q := 250) 254 X dX7_advance_247 (by decide) rfl (fun c1 => ?_) (fun c1 => ?_)
  · have h := h.1 c1
    refine g_iload_n (q := 255) 3 X dX7_advance_254 rfl rfl rfl ?_
    refine g_if_eq (q := 258) 262 X dX7_advance_255 (by decide) rfl (fun c2 => ?_) (fun c2 => ?_)
    · have h := h.1 c2
      refine g_iconst (q := 263) 2 X dX7_advance_262 rfl rfl ic_2 ?_
      refine g_sub (L' := [aR (some 46), aI l1, aJ, aJ, aJ, aJ, aJ, aJ]) ⟨Or.inr rfl, Or.inr rfl, Or.inl rfl, Or.inl rfl, Or.inl rfl, Or.inl rfl, Or.inl rfl, Or.inl rfl, trivial⟩ ?_
      exact cb_X7_advance_263 X hR hK   h
    · have h := h.2 c2
      refine g_iconst (q := 259) 1 X dX7_advance_258 rfl rfl ic_1 ?_
      refine g_goto (q := 263) X dX7_advance_259 (by decide) ?_
      refine g_sub (L' := [aR (some 46), aI l1, aJ, aJ, aJ, aJ, aJ, aJ]) ⟨Or.inr rfl, Or.inr rfl, Or.inl rfl, Or.inl rfl, Or.inl rfl, Or.inl rfl, Or.inl rfl, Or.inl rfl, trivial⟩ ?_
      exact cb_X7_advance_263 X hR hK   h
  · have h := h.2 c1
    refine g_iconst (q := 251) 4 X dX7_advance_250 rfl rfl ic_4 ?_
    refine g_goto (q := 263) X dX7_advance_251 (by decide) ?_
    refine g_sub (L' := [aR (some 46), aI l1, aJ, aJ, aJ, aJ, aJ, aJ]) ⟨Or.inr rfl, Or.inr rfl, Or.inl rfl, Or.inl rfl, Or.inl rfl, Or.inl rfl, Or.inl rfl, Or.inl rfl, trivial⟩ ?_
    exact cb_X7_advance_263 X hR hK   h
def bd_X7_advance_234 (l1 l3 t0 t1 : Int) (iv : IV) (rv : RV) (K : IV → Prop) : Prop :=
  ((t1 ≤ t0) → (bd_X7_advance_242 l1 l3 0 iv rv K)) ∧ ((¬ (t1 ≤ t0)) → (bd_X7_advance_242 l1 l3 1 iv rv K))
set_option maxRecDepth 10000 in
theorem cb_X7_advance_234 {Γ : GX} {n : Nat} {iv : IV} {rv : RV} {K : IV → Prop} {l1 l3 t0 t1 : Int} (X : Cx Γ RX7 cX7_advance 8 0) (hR : Rt Γ none 0 0 (fV1 n rv K)) (hK : Lk n rv)  (h : bd_X7_advance_234 l1 l3 t0 t1 iv rv K) : G Γ 8 234 [aR (some 46), aI l1, aJ, aI l3, aJ, aJ, aJ, aJ] [aI t0, aI t1] n iv rv 0 0 := by
  unfold bd_X7_advance_234 at h
  refine g_icmp_le (q := 237) 241 X dX7_advance_234 (by decide) rfl (fun c1 => ?_) (fun c1 => ?_)
  · have h := h.1 c1
    refine g_iconst (q := 242) 0 X dX7_advance_241 rfl rfl ic_0 ?_
    exact cb_X7_advance_242 X hR hK   h
  · have h := h.2 c1
    refine g_iconst (q := 238) 1 X dX7_advance_237 rfl rfl ic_1 ?_
    refine g_goto (q := 242) X dX7_advance_238 (by decide) ?_
    exact cb_X7_advance_242 X hR hK   h
def bd_X7_advance_218 (l1 l3 : Int) (iv : IV) (rv : RV) (K : IV → Prop) : Prop :=
  ((l3 = 0) → (bd_X7_advance_234 l1 l3 3 (w32 (l1 - (iv 46 4))) iv rv K)) ∧ ((¬ (l3 = 0)) → (bd_X7_advance_234 l1 l3 8 (w32 (l1 - (iv 46 4))) iv rv K))
set_option maxRecDepth 10000 in
theorem cb_X7_advance_218 {Γ : GX} {n : Nat} {iv : IV} {rv : RV} {K : IV → Prop} {l1 l3 : Int} (X : Cx Γ RX7 cX7_advance 8 0) (hR : Rt Γ none 0 0 (fV1 n rv K)) (hK : Lk n rv)  (h : bd_X7_advance_218 l1 l3 iv rv K) : G Γ 8 218 [aR (some 46), aI l1, aJ, aI l3, aJ, aJ, aJ, aJ] [] n iv rv 0 0 := by
  unfold bd_X7_advance_218 at h
  refine g_iload_n (q := 219) 1 X dX7_advance_218 rfl rfl rfl ?_
  refine g_aload_n (q := 220) 0 X dX7_advance_219 rfl rfl rfl ?_
  refine g_getI (q := 223) 7 4 X kf_X7_31 (by decide) (by decide) rfl rfl (hK.n (by decide)) dX7_advance_220 rfl ?_
  refine g_isub (q := 224) X dX7_advance_223 rfl ?_
  refine g_iload_n (q := 225) 3 X dX7_advance_224 rfl rfl rfl ?_
  refine g_if_eq (q := 228) 233 X dX7_advance_225 (by decide) rfl (fun c1 => ?_) (fun c1 => ?_)
  · have h := h.1 c1
    refine g_iconst (q := 234) 3 X dX7_advance_233 rfl rfl ic_3 ?_
    exact cb_X7_advance_234 X hR hK   h
  · have h := h.2 c1
    refine g_bipush (q := 230) 8 X dX7_advance_228 rfl bc_8 ic_8 ?_
    refine g_goto (q := 234) X dX7_advance_230 (by decide) ?_
    exact cb_X7_advance_234 X hR hK   h
def bd_X7_advance_209 (P131 : Int → Int → Int → Int → IV → Prop) (l1 l3 l5 l6 t0 : Int) (iv : IV) (rv : RV) (K : IV → Prop) : Prop :=
  ∀ iv1, iv1 = w2 iv 46 5 t0 → P131 (w32 (l1 + 1)) l3 l5 l6 iv1
set_option maxRecDepth 10000 in
theorem cb_X7_advance_209 {Γ : GX} {n : Nat} {iv : IV} {rv : RV} {K : IV → Prop} {P131 : Int → Int → Int → Int → IV → Prop} {l1 l3 l5 l6 t0 : Int} (X : Cx Γ RX7 cX7_advance 8 0) (hR : Rt Γ none 0 0 (fV1 n rv K)) (hK : Lk n rv)  (hP131 : ∀ (l1' l3' l5' l6' : Int) (iv' : IV), P131 l1' l3' l5' l6' iv' → G Γ 8 131 [aR (some 46), aI (l1'), aJ, aI (l3'), aJ, aI (l5'), aI (l6'), aJ] [] n iv' rv 0 0) (h : bd_X7_advance_209 P131 l1 l3 l5 l6 t0 iv rv K) : G Γ 8 209 [aR (some 46), aI l1, aJ, aI l3, aJ, aI l5, aI l6, aJ] [aL t0, aR (some 46)] n iv rv 0 0 := by
  unfold bd_X7_advance_209 at h
  refine g_putL (q := 212) 7 5 X rfl rfl kf_X7_34 (by decide) (by decide) rfl (hK.n (by decide)) dX7_advance_209 rfl ?_
  refine g_nmM (fun iv1 eiv1 => ?_)
  have h := h iv1 eiv1
  refine g_iinc (q := 215) 1 (L' := [aR (some 46), aI (w32 (l1 + 1)), aJ, aI l3, aJ, aI l5, aI l6, aJ]) X dX7_advance_212 rfl (by decide) rfl rfl rfl ?_
  refine g_goto (q := 131) X dX7_advance_215 (by decide) ?_
  exact hP131 _ _ _ _ _ h
def bd_X7_advance_131 (P131 : Int → Int → Int → Int → IV → Prop) (l1 l3 l5 l6 : Int) (iv : IV) (rv : RV) (K : IV → Prop) : Prop :=
  (((iv 46 1) ≤ l1) → (bd_X7_advance_218 l1 l3 iv rv K)) ∧ ((¬ ((iv 46 1) ≤ l1)) → ((0 ≤ l1 ∧ l1 < 900) ∧ (((iv 1 l1.toNat) < l5) → (bd_X7_advance_218 l1 l3 iv rv K)) ∧ ((¬ ((iv 1 l1.toNat) < l5)) → ((0 ≤ l1 ∧ l1 < 900) ∧ ((l6 < (iv 1 l1.toNat)) → (bd_X7_advance_218 l1 l3 iv rv K)) ∧ ((¬ (l6 < (iv 1 l1.toNat))) → (((l3 = 0) → ((0 ≤ l1 ∧ l1 < 900) ∧ bd_X7_advance_209 P131 l1 l3 l5 l6 (w64 ((w64 ((iv 46 5) * 10)) + (w32 ((iv 1 l1.toNat) - 48)))) iv rv K)) ∧ ((¬ (l3 = 0)) → ((0 ≤ l1 ∧ l1 < 900) ∧ bd_X7_advance_209 P131 l1 l3 l5 l6 (w64 ((w64 ((iv 46 5) * 32)) + (w32 ((w32 ((iv 1 l1.toNat) - 97)) + 1)))) iv rv K))))))))
set_option maxRecDepth 10000 in
theorem cb_X7_advance_131 {Γ : GX} {n : Nat} {iv : IV} {rv : RV} {K : IV → Prop} {P131 : Int → Int → Int → Int → IV → Prop} {l1 l3 l5 l6 : Int} (X : Cx Γ RX7 cX7_advance 8 0) (hR : Rt Γ none 0 0 (fV1 n rv K)) (hK : Lk n rv)  (hP131 : ∀ (l1' l3' l5' l6' : Int) (iv' : IV), P131 l1' l3' l5' l6' iv' → G Γ 8 131 [aR (some 46), aI (l1'), aJ, aI (l3'), aJ, aI (l5'), aI (l6'), aJ] [] n iv' rv 0 0) (h : bd_X7_advance_131 P131 l1 l3 l5 l6 iv rv K) : G Γ 8 131 [aR (some 46), aI l1, aJ, aI l3, aJ, aI l5, aI l6, aJ] [] n iv rv 0 0 := by
  unfold bd_X7_advance_131 at h
  refine g_iload_n (q := 132) 1 X dX7_advance_131 rfl rfl rfl ?_
  refine g_aload_n (q := 133) 0 X dX7_advance_132 rfl rfl rfl ?_
  refine g_getI (q := 136) 7 1 X kf_X7_21 (by decide) (by decide) rfl rfl (hK.n (by decide)) dX7_advance_133 rfl ?_
  refine g_icmp_ge (q := 139) 218 X dX7_advance_136 (by decide) rfl (fun c1 => ?_) (fun c1 => ?_)
  · have h := h.1 c1
    refine g_sub (L' := [aR (some 46), aI l1, aJ, aI l3, aJ, aJ, aJ, aJ]) ⟨Or.inr rfl, Or.inr rfl, Or.inl rfl, Or.inr rfl, Or.inl rfl, Or.inl rfl, Or.inl rfl, Or.inl rfl, trivial⟩ ?_
    exact cb_X7_advance_218 X hR hK   h
  · have h := h.2 c1
    refine g_aload_n (q := 140) 0 X dX7_advance_139 rfl rfl rfl ?_
    refine g_getR (q := 143) (r := some 1) 7 0 X (lk_46_0 hK) (lt2000 (c := 0) (by decide)) kf_X7_9 (by decide) (by decide) rfl rfl (hK.n (by decide)) dX7_advance_140 rfl ?_
    refine g_iload_n (q := 144) 1 X dX7_advance_143 rfl rfl rfl ?_
    obtain ⟨s2, h⟩ := h
    refine g_bald (q := 145) X rfl (hK.n (by decide)) s2 dX7_advance_144 rfl ?_
    refine g_iload (q := 147) 5 X dX7_advance_145 rfl rfl ?_
    refine g_icmp_lt (q := 150) 218 X dX7_advance_147 (by decide) rfl (fun c3 => ?_) (fun c3 => ?_)
    · have h := h.1 c3
      refine g_sub (L' := [aR (some 46), aI l1, aJ, aI l3, aJ, aJ, aJ, aJ]) ⟨Or.inr rfl, Or.inr rfl, Or.inl rfl, Or.inr rfl, Or.inl rfl, Or.inl rfl, Or.inl rfl, Or.inl rfl, trivial⟩ ?_
      exact cb_X7_advance_218 X hR hK   h
    · have h := h.2 c3
      refine g_aload_n (q := 151) 0 X dX7_advance_150 rfl rfl rfl ?_
      refine g_getR (q := 154) (r := some 1) 7 0 X (lk_46_0 hK) (lt2000 (c := 0) (by decide)) kf_X7_9 (by decide) (by decide) rfl rfl (hK.n (by decide)) dX7_advance_151 rfl ?_
      refine g_iload_n (q := 155) 1 X dX7_advance_154 rfl rfl rfl ?_
      obtain ⟨s4, h⟩ := h
      refine g_bald (q := 156) X rfl (hK.n (by decide)) s4 dX7_advance_155 rfl ?_
      refine g_iload (q := 158) 6 X dX7_advance_156 rfl rfl ?_
      refine g_icmp_gt (q := 161) 218 X dX7_advance_158 (by decide) rfl (fun c5 => ?_) (fun c5 => ?_)
      · have h := h.1 c5
        refine g_sub (L' := [aR (some 46), aI l1, aJ, aI l3, aJ, aJ, aJ, aJ]) ⟨Or.inr rfl, Or.inr rfl, Or.inl rfl, Or.inr rfl, Or.inl rfl, Or.inl rfl, Or.inl rfl, Or.inl rfl, trivial⟩ ?_
        exact cb_X7_advance_218 X hR hK   h
      · have h := h.2 c5
        refine g_aload_n (q := 162) 0 X dX7_advance_161 rfl rfl rfl ?_
        refine g_iload_n (q := 163) 3 X dX7_advance_162 rfl rfl rfl ?_
        refine g_if_eq (q := 166) 190 X dX7_advance_163 (by decide) rfl (fun c6 => ?_) (fun c6 => ?_)
        · have h := h.1 c6
          refine g_aload_n (q := 191) 0 X dX7_advance_190 rfl rfl rfl ?_
          refine g_getL (q := 194) 7 5 X kf_X7_34 (by decide) (by decide) rfl rfl (hK.n (by decide)) dX7_advance_191 rfl ?_
          refine g_ldc2 (q := 197) 10 X kl_X7_40 dX7_advance_194 rfl (by unfold inL; omega) ?_
          refine g_lmul (q := 198) X dX7_advance_197 rfl ?_
          refine g_aload_n (q := 199) 0 X dX7_advance_198 rfl rfl rfl ?_
          refine g_getR (q := 202) (r := some 1) 7 0 X (lk_46_0 hK) (lt2000 (c := 0) (by decide)) kf_X7_9 (by decide) (by decide) rfl rfl (hK.n (by decide)) dX7_advance_199 rfl ?_
          refine g_iload_n (q := 203) 1 X dX7_advance_202 rfl rfl rfl ?_
          obtain ⟨s7, h⟩ := h
          refine g_bald (q := 204) X rfl (hK.n (by decide)) s7 dX7_advance_203 rfl ?_
          refine g_bipush (q := 206) 48 X dX7_advance_204 rfl bc_48 ic_48 ?_
          refine g_isub (q := 207) X dX7_advance_206 rfl ?_
          refine g_i2l (q := 208) X dX7_advance_207 rfl ?_
          refine g_ladd (q := 209) X dX7_advance_208 rfl ?_
          exact cb_X7_advance_209 X hR hK  hP131 h
        · have h := h.2 c6
          refine g_aload_n (q := 167) 0 X dX7_advance_166 rfl rfl rfl ?_
          refine g_getL (q := 170) 7 5 X kf_X7_34 (by decide) (by decide) rfl rfl (hK.n (by decide)) dX7_advance_167 rfl ?_
          refine g_ldc2 (q := 173) 32 X kl_X7_38 dX7_advance_170 rfl (by unfold inL; omega) ?_
          refine g_lmul (q := 174) X dX7_advance_173 rfl ?_
          refine g_aload_n (q := 175) 0 X dX7_advance_174 rfl rfl rfl ?_
          refine g_getR (q := 178) (r := some 1) 7 0 X (lk_46_0 hK) (lt2000 (c := 0) (by decide)) kf_X7_9 (by decide) (by decide) rfl rfl (hK.n (by decide)) dX7_advance_175 rfl ?_
          refine g_iload_n (q := 179) 1 X dX7_advance_178 rfl rfl rfl ?_
          obtain ⟨s8, h⟩ := h
          refine g_bald (q := 180) X rfl (hK.n (by decide)) s8 dX7_advance_179 rfl ?_
          refine g_bipush (q := 182) 97 X dX7_advance_180 rfl bc_97 ic_97 ?_
          refine g_isub (q := 183) X dX7_advance_182 rfl ?_
          refine g_iconst (q := 184) 1 X dX7_advance_183 rfl rfl ic_1 ?_
          refine g_iadd (q := 185) X dX7_advance_184 rfl ?_
          refine g_i2l (q := 186) X dX7_advance_185 rfl ?_
          refine g_ladd (q := 187) X dX7_advance_186 rfl ?_
          refine g_goto (q := 209) X dX7_advance_187 (by decide) ?_
          exact cb_X7_advance_209 X hR hK  hP131 h
def wl_X7_advance_131 (l1 l3 l5 l6 : Int) (iv : IV) (rv : RV) (K : IV → Prop) : Prop :=
  ∀ P : Int → Int → Int → Int → IV → Prop, (∀ (l1' l3' l5' l6' : Int) (iv' : IV), bd_X7_advance_131  P l1' l3' l5' l6' iv' rv K → P l1' l3' l5' l6' iv') → P l1 l3 l5 l6 iv
theorem cl_X7_advance_131 {Γ : GX} {n : Nat} {iv : IV} {rv : RV} {K : IV → Prop} {l1 l3 l5 l6 : Int} (X : Cx Γ RX7 cX7_advance 8 0) (hR : Rt Γ none 0 0 (fV1 n rv K)) (hK : Lk n rv)  (h : wl_X7_advance_131 l1 l3 l5 l6 iv rv K) : G Γ 8 131 [aR (some 46), aI l1, aJ, aI l3, aJ, aI l5, aI l6, aJ] [] n iv rv 0 0 := by
  exact h (fun l1' l3' l5' l6' iv' =>  G Γ 8 131 [aR (some 46), aI (l1'), aJ, aI (l3'), aJ, aI (l5'), aI (l6'), aJ] [] n iv' rv 0 0) (fun l1' l3' l5' l6' iv' hb => cb_X7_advance_131 X hR hK   (fun l1' l3' l5' l6' iv' hp => hp) hb)
def bd_X7_advance_129 (l1 l3 l5 t0 : Int) (iv : IV) (rv : RV) (K : IV → Prop) : Prop :=
  wl_X7_advance_131 l1 l3 l5 t0 iv rv K
set_option maxRecDepth 10000 in
theorem cb_X7_advance_129 {Γ : GX} {n : Nat} {iv : IV} {rv : RV} {K : IV → Prop} {l1 l3 l5 t0 : Int} (X : Cx Γ RX7 cX7_advance 8 0) (hR : Rt Γ none 0 0 (fV1 n rv K)) (hK : Lk n rv)  (h : bd_X7_advance_129 l1 l3 l5 t0 iv rv K) : G Γ 8 129 [aR (some 46), aI l1, aJ, aI l3, aJ, aI l5, aJ, aJ] [aI t0] n iv rv 0 0 := by
  unfold bd_X7_advance_129 at h
  refine g_istore (q := 131) (k0 := 0) 6 (L' := [aR (some 46), aI l1, aJ, aI l3, aJ, aI l5, aI t0, aJ]) X dX7_advance_129 rfl (by decide) rfl rfl ?_
  exact cl_X7_advance_131 X hR hK   h
def bd_X7_advance_116 (l1 l3 t0 : Int) (iv : IV) (rv : RV) (K : IV → Prop) : Prop :=
  ((l3 = 0) → (bd_X7_advance_129 l1 l3 t0 57 iv rv K)) ∧ ((¬ (l3 = 0)) → (bd_X7_advance_129 l1 l3 t0 122 iv rv K))
set_option maxRecDepth 10000 in
theorem cb_X7_advance_116 {Γ : GX} {n : Nat} {iv : IV} {rv : RV} {K : IV → Prop} {l1 l3 t0 : Int} (X : Cx Γ RX7 cX7_advance 8 0) (hR : Rt Γ none 0 0 (fV1 n rv K)) (hK : Lk n rv)  (h : bd_X7_advance_116 l1 l3 t0 iv rv K) : G Γ 8 116 [aR (some 46), aI l1, aJ, aI l3, aJ, aJ, aJ, aJ] [aI t0] n iv rv 0 0 := by
  unfold bd_X7_advance_116 at h
  refine g_istore (q := 118) (k0 := 0) 5 (L' := [aR (some 46), aI l1, aJ, aI l3, aJ, aI t0, aJ, aJ]) X dX7_advance_116 rfl (by decide) rfl rfl ?_
  refine g_iload_n (q := 119) 3 X dX7_advance_118 rfl rfl rfl ?_
  refine g_if_eq (q := 122) 127 X dX7_advance_119 (by decide) rfl (fun c1 => ?_) (fun c1 => ?_)
  · have h := h.1 c1
    refine g_bipush (q := 129) 57 X dX7_advance_127 rfl bc_57 ic_57 ?_
    exact cb_X7_advance_129 X hR hK   h
  · have h := h.2 c1
    refine g_bipush (q := 124) 122 X dX7_advance_122 rfl bc_122 ic_122 ?_
    refine g_goto (q := 129) X dX7_advance_124 (by decide) ?_
    exact cb_X7_advance_129 X hR hK   h
def bd_X7_advance_105 (l1 l3 : Int) (iv : IV) (rv : RV) (K : IV → Prop) : Prop :=
  ((l3 = 0) → (bd_X7_advance_116 l1 l3 48 iv rv K)) ∧ ((¬ (l3 = 0)) → (bd_X7_advance_116 l1 l3 97 iv rv K))
set_option maxRecDepth 10000 in
theorem cb_X7_advance_105 {Γ : GX} {n : Nat} {iv : IV} {rv : RV} {K : IV → Prop} {l1 l3 : Int} (X : Cx Γ RX7 cX7_advance 8 0) (hR : Rt Γ none 0 0 (fV1 n rv K)) (hK : Lk n rv)  (h : bd_X7_advance_105 l1 l3 iv rv K) : G Γ 8 105 [aR (some 46), aI l1, aJ, aI l3, aJ, aJ, aJ, aJ] [] n iv rv 0 0 := by
  unfold bd_X7_advance_105 at h
  refine g_iload_n (q := 106) 3 X dX7_advance_105 rfl rfl rfl ?_
  refine g_if_eq (q := 109) 114 X dX7_advance_106 (by decide) rfl (fun c1 => ?_) (fun c1 => ?_)
  · have h := h.1 c1
    refine g_bipush (q := 116) 48 X dX7_advance_114 rfl bc_48 ic_48 ?_
    exact cb_X7_advance_116 X hR hK   h
  · have h := h.2 c1
    refine g_bipush (q := 111) 97 X dX7_advance_109 rfl bc_97 ic_97 ?_
    refine g_goto (q := 116) X dX7_advance_111 (by decide) ?_
    exact cb_X7_advance_116 X hR hK   h
def bd_X7_advance_292 (l1 t0 : Int) (iv : IV) (rv : RV) (K : IV → Prop) : Prop :=
  ∀ iv1, iv1 = w2 iv 46 3 t0 → ∀ iv2, iv2 = w2 iv1 46 2 l1 → K iv2
set_option maxRecDepth 10000 in
theorem cb_X7_advance_292 {Γ : GX} {n : Nat} {iv : IV} {rv : RV} {K : IV → Prop} {l1 t0 : Int} (X : Cx Γ RX7 cX7_advance 8 0) (hR : Rt Γ none 0 0 (fV1 n rv K)) (hK : Lk n rv)  (h : bd_X7_advance_292 l1 t0 iv rv K) : G Γ 8 292 [aR (some 46), aI l1, aJ, aJ, aJ, aJ, aJ, aJ] [aI t0, aR (some 46)] n iv rv 0 0 := by
  unfold bd_X7_advance_292 at h
  refine g_putI (q := 295) 7 3 X (Or.inl rfl) rfl kf_X7_42 (by decide) (by decide) rfl (hK.n (by decide)) dX7_advance_292 rfl ?_
  refine g_nmM (fun iv1 eiv1 => ?_)
  have h := h iv1 eiv1
  refine g_goto (q := 303) X dX7_advance_295 (by decide) ?_
  refine g_aload_n (q := 304) 0 X dX7_advance_303 rfl rfl rfl ?_
  refine g_iload_n (q := 305) 1 X dX7_advance_304 rfl rfl rfl ?_
  refine g_putI (q := 308) 7 2 X (Or.inl rfl) rfl kf_X7_25 (by decide) (by decide) rfl (hK.n (by decide)) dX7_advance_305 rfl ?_
  refine g_nmM (fun iv2 eiv2 => ?_)
  have h := h iv2 eiv2
  exact g_vret (q := 0) X hR dX7_advance_308 rfl ⟨rfl, rfl, rfl, h⟩
def bd_X7_advance_94 (l1 l2 l3 t0 : Int) (iv : IV) (rv : RV) (K : IV → Prop) : Prop :=
  ((l3 ≠ 0) → (bd_X7_advance_105 l1 l3 iv rv K)) ∧ ((l3 = 0) → (((t0 = 0) → ((((iv 46 1) ≤ l1) → (∀ iv4, iv4 = w2 iv 46 3 0 → ∀ iv5, iv5 = w2 iv4 46 2 l1 → K iv5)) ∧ ((¬ ((iv 46 1) ≤ l1)) → (((l2 ≠ 59) → (bd_X7_advance_292 (w32 (l1 + 1)) 4 iv rv K)) ∧ ((l2 = 59) → (bd_X7_advance_292 (w32 (l1 + 1)) 3 iv rv K)))))) ∧ ((¬ (t0 = 0)) → (bd_X7_advance_105 l1 l3 iv rv K))))
set_option maxRecDepth 10000 in
theorem cb_X7_advance_94 {Γ : GX} {n : Nat} {iv : IV} {rv : RV} {K : IV → Prop} {l1 l2 l3 t0 : Int} (X : Cx Γ RX7 cX7_advance 8 0) (hR : Rt Γ none 0 0 (fV1 n rv K)) (hK : Lk n rv)  (h : bd_X7_advance_94 l1 l2 l3 t0 iv rv K) : G Γ 8 94 [aR (some 46), aI l1, aI l2, aI l3, aJ, aJ, aJ, aJ] [aI t0] n iv rv 0 0 := by
  unfold bd_X7_advance_94 at h
  refine g_istore (q := 96) (k0 := 0) 4 (L' := [aR (some 46), aI l1, aI l2, aI l3, aI t0, aJ, aJ, aJ]) X dX7_advance_94 rfl (by decide) rfl rfl ?_
  refine g_iload_n (q := 97) 3 X dX7_advance_96 rfl rfl rfl ?_
  refine g_if_ne (q := 100) 105 X dX7_advance_97 (by decide) rfl (fun c1 => ?_) (fun c1 => ?_)
  · have h := h.1 c1
    refine g_sub (L' := [aR (some 46), aI l1, aJ, aI l3, aJ, aJ, aJ, aJ]) ⟨Or.inr rfl, Or.inr rfl, Or.inl rfl, Or.inr rfl, Or.inl rfl, Or.inl rfl, Or.inl rfl, Or.inl rfl, trivial⟩ ?_
    exact cb_X7_advance_105 X hR hK   h
  · have h := h.2 c1
    refine g_iload (q := 102) 4 X dX7_advance_100 rfl rfl ?_
    refine g_if_eq (q := 105) 269 X dX7_advance_102 (by decide) rfl (fun c2 => ?_) (fun c2 => ?_)
    · have h := h.1 c2
      refine g_iload_n (q := 270) 1 X dX7_advance_269 rfl rfl rfl ?_
      refine g_aload_n (q := 271) 0 X dX7_advance_270 rfl rfl rfl ?_
      refine g_getI (q := 274) 7 1 X kf_X7_21 (by decide) (by decide) rfl rfl (hK.n (by decide)) dX7_advance_271 rfl ?_
      refine g_icmp_ge (q := 277) 298 X dX7_advance_274 (by decide) rfl (fun c3 => ?_) (fun c3 => ?_)
      · have h := h.1 c3
        refine g_aload_n (q := 299) 0 X dX7_advance_298 rfl rfl rfl ?_
        refine g_iconst (q := 300) 0 X dX7_advance_299 rfl rfl ic_0 ?_
        refine g_putI (q := 303) 7 3 X (Or.inl rfl) rfl kf_X7_42 (by decide) (by decide) rfl (hK.n (by decide)) dX7_advance_300 rfl ?_
        refine g_nmM (fun iv4 eiv4 => ?_)
        have h := h iv4 eiv4
        refine g_aload_n (q := 304) 0 X dX7_advance_303 rfl rfl rfl ?_
        refine g_iload_n (q := 305) 1 X dX7_advance_304 rfl rfl rfl ?_
        refine g_putI (q := 308) 7 2 X (Or.inl rfl) rfl kf_X7_25 (by decide) (by decide) rfl (hK.n (by decide)) dX7_advance_305 rfl ?_
        refine g_nmM (fun iv5 eiv5 => ?_)
        have h := h iv5 eiv5
        exact g_vret (q := 0) X hR dX7_advance_308 rfl ⟨rfl, rfl, rfl, h⟩
      · have h := h.2 c3
        refine g_iinc (q := 280) 1 (L' := [aR (some 46), aI (w32 (l1 + 1)), aI l2, aI l3, aI t0, aJ, aJ, aJ]) X dX7_advance_277 rfl (by decide) rfl rfl rfl ?_
        refine g_aload_n (q := 281) 0 X dX7_advance_280 rfl rfl rfl ?_
        refine g_iload_n (q := 282) 2 X dX7_advance_281 rfl rfl rfl ?_
        refine g_bipush (q := 284) 59 X dX7_advance_282 rfl bc_59 ic_59 ?_
        refine g_icmp_ne (q := 287) 291 X dX7_advance_284 (by decide) rfl (fun c6 => ?_) (fun c6 => ?_)
        · have h := h.1 c6
          refine g_iconst (q := 292) 4 X dX7_advance_291 rfl rfl ic_4 ?_
          refine g_sub (L' := [aR (some 46), aI (w32 (l1 + 1)), aJ, aJ, aJ, aJ, aJ, aJ]) ⟨Or.inr rfl, Or.inr rfl, Or.inl rfl, Or.inl rfl, Or.inl rfl, Or.inl rfl, Or.inl rfl, Or.inl rfl, trivial⟩ ?_
          exact cb_X7_advance_292 X hR hK   h
        · have h := h.2 c6
          refine g_iconst (q := 288) 3 X dX7_advance_287 rfl rfl ic_3 ?_
          refine g_goto (q := 292) X dX7_advance_288 (by decide) ?_
          refine g_sub (L' := [aR (some 46), aI (w32 (l1 + 1)), aJ, aJ, aJ, aJ, aJ, aJ]) ⟨Or.inr rfl, Or.inr rfl, Or.inl rfl, Or.inl rfl, Or.inl rfl, Or.inl rfl, Or.inl rfl, Or.inl rfl, trivial⟩ ?_
          exact cb_X7_advance_292 X hR hK   h
    · have h := h.2 c2
      refine g_sub (L' := [aR (some 46), aI l1, aJ, aI l3, aJ, aJ, aJ, aJ]) ⟨Or.inr rfl, Or.inr rfl, Or.inl rfl, Or.inr rfl, Or.inl rfl, Or.inl rfl, Or.inl rfl, Or.inl rfl, trivial⟩ ?_
      exact cb_X7_advance_105 X hR hK   h
def bd_X7_advance_93 (l1 l2 l3 : Int) (iv : IV) (rv : RV) (K : IV → Prop) : Prop :=
  bd_X7_advance_94 l1 l2 l3 0 iv rv K
set_option maxRecDepth 10000 in
theorem cb_X7_advance_93 {Γ : GX} {n : Nat} {iv : IV} {rv : RV} {K : IV → Prop} {l1 l2 l3 : Int} (X : Cx Γ RX7 cX7_advance 8 0) (hR : Rt Γ none 0 0 (fV1 n rv K)) (hK : Lk n rv)  (h : bd_X7_advance_93 l1 l2 l3 iv rv K) : G Γ 8 93 [aR (some 46), aI l1, aI l2, aI l3, aJ, aJ, aJ, aJ] [] n iv rv 0 0 := by
  unfold bd_X7_advance_93 at h
  refine g_iconst (q := 94) 0 X dX7_advance_93 rfl rfl ic_0 ?_
  exact cb_X7_advance_94 X hR hK   h
def bd_X7_advance_76 (l1 l2 t0 : Int) (iv : IV) (rv : RV) (K : IV → Prop) : Prop :=
  ((l2 < 48) → (bd_X7_advance_93 l1 l2 t0 iv rv K)) ∧ ((¬ (l2 < 48)) → (((57 < l2) → (bd_X7_advance_93 l1 l2 t0 iv rv K)) ∧ ((¬ (57 < l2)) → (bd_X7_advance_94 l1 l2 t0 1 iv rv K))))
set_option maxRecDepth 10000 in
theorem cb_X7_advance_76 {Γ : GX} {n : Nat} {iv : IV} {rv : RV} {K : IV → Prop} {l1 l2 t0 : Int} (X : Cx Γ RX7 cX7_advance 8 0) (hR : Rt Γ none 0 0 (fV1 n rv K)) (hK : Lk n rv)  (h : bd_X7_advance_76 l1 l2 t0 iv rv K) : G Γ 8 76 [aR (some 46), aI l1, aI l2, aJ, aJ, aJ, aJ, aJ] [aI t0] n iv rv 0 0 := by
  unfold bd_X7_advance_76 at h
  refine g_istore_n (q := 77) 3 (L' := [aR (some 46), aI l1, aI l2, aI t0, aJ, aJ, aJ, aJ]) X dX7_advance_76 rfl rfl (by decide) rfl rfl ?_
  refine g_iload_n (q := 78) 2 X dX7_advance_77 rfl rfl rfl ?_
  refine g_bipush (q := 80) 48 X dX7_advance_78 rfl bc_48 ic_48 ?_
  refine g_icmp_lt (q := 83) 93 X dX7_advance_80 (by decide) rfl (fun c1 => ?_) (fun c1 => ?_)
  · have h := h.1 c1
    exact cb_X7_advance_93 X hR hK   h
  · have h := h.2 c1
    refine g_iload_n (q := 84) 2 X dX7_advance_83 rfl rfl rfl ?_
    refine g_bipush (q := 86) 57 X dX7_advance_84 rfl bc_57 ic_57 ?_
    refine g_icmp_gt (q := 89) 93 X dX7_advance_86 (by decide) rfl (fun c2 => ?_) (fun c2 => ?_)
    · have h := h.1 c2
      exact cb_X7_advance_93 X hR hK   h
    · have h := h.2 c2
      refine g_iconst (q := 90) 1 X dX7_advance_89 rfl rfl ic_1 ?_
      refine g_goto (q := 94) X dX7_advance_90 (by decide) ?_
      exact cb_X7_advance_94 X hR hK   h
def bd_X7_advance_75 (l1 l2 : Int) (iv : IV) (rv : RV) (K : IV → Prop) : Prop :=
  bd_X7_advance_76 l1 l2 0 iv rv K
set_option maxRecDepth 10000 in
theorem cb_X7_advance_75 {Γ : GX} {n : Nat} {iv : IV} {rv : RV} {K : IV → Prop} {l1 l2 : Int} (X : Cx Γ RX7 cX7_advance 8 0) (hR : Rt Γ none 0 0 (fV1 n rv K)) (hK : Lk n rv)  (h : bd_X7_advance_75 l1 l2 iv rv K) : G Γ 8 75 [aR (some 46), aI l1, aI l2, aJ, aJ, aJ, aJ, aJ] [] n iv rv 0 0 := by
  unfold bd_X7_advance_75 at h
  refine g_iconst (q := 76) 0 X dX7_advance_75 rfl rfl ic_0 ?_
  exact cb_X7_advance_76 X hR hK   h
def bd_X7_advance_58 (l1 t0 : Int) (iv : IV) (rv : RV) (K : IV → Prop) : Prop :=
  ((t0 < 97) → (bd_X7_advance_75 l1 t0 iv rv K)) ∧ ((¬ (t0 < 97)) → (((122 < t0) → (bd_X7_advance_75 l1 t0 iv rv K)) ∧ ((¬ (122 < t0)) → (bd_X7_advance_76 l1 t0 1 iv rv K))))
set_option maxRecDepth 10000 in
theorem cb_X7_advance_58 {Γ : GX} {n : Nat} {iv : IV} {rv : RV} {K : IV → Prop} {l1 t0 : Int} (X : Cx Γ RX7 cX7_advance 8 0) (hR : Rt Γ none 0 0 (fV1 n rv K)) (hK : Lk n rv)  (h : bd_X7_advance_58 l1 t0 iv rv K) : G Γ 8 58 [aR (some 46), aI l1, aJ, aJ, aJ, aJ, aJ, aJ] [aI t0] n iv rv 0 0 := by
  unfold bd_X7_advance_58 at h
  refine g_istore_n (q := 59) 2 (L' := [aR (some 46), aI l1, aI t0, aJ, aJ, aJ, aJ, aJ]) X dX7_advance_58 rfl rfl (by decide) rfl rfl ?_
  refine g_iload_n (q := 60) 2 X dX7_advance_59 rfl rfl rfl ?_
  refine g_bipush (q := 62) 97 X dX7_advance_60 rfl bc_97 ic_97 ?_
  refine g_icmp_lt (q := 65) 75 X dX7_advance_62 (by decide) rfl (fun c1 => ?_) (fun c1 => ?_)
  · have h := h.1 c1
    exact cb_X7_advance_75 X hR hK   h
  · have h := h.2 c1
    refine g_iload_n (q := 66) 2 X dX7_advance_65 rfl rfl rfl ?_
    refine g_bipush (q := 68) 122 X dX7_advance_66 rfl bc_122 ic_122 ?_
    refine g_icmp_gt (q := 71) 75 X dX7_advance_68 (by decide) rfl (fun c2 => ?_) (fun c2 => ?_)
    · have h := h.1 c2
      exact cb_X7_advance_75 X hR hK   h
    · have h := h.2 c2
      refine g_iconst (q := 72) 1 X dX7_advance_71 rfl rfl ic_1 ?_
      refine g_goto (q := 76) X dX7_advance_72 (by decide) ?_
      exact cb_X7_advance_76 X hR hK   h
def bd_X7_advance_30 (l1 : Int) (iv : IV) (rv : RV) (K : IV → Prop) : Prop :=
  ∀ iv1, iv1 = w2 iv 46 4 l1 → ∀ iv2, iv2 = w2 iv1 46 5 0 → (((iv2 46 1) ≤ l1) → (bd_X7_advance_58 l1 0 iv2 rv K)) ∧ ((¬ ((iv2 46 1) ≤ l1)) → ((0 ≤ l1 ∧ l1 < 900) ∧ bd_X7_advance_58 l1 (iv2 1 l1.toNat) iv2 rv K))
set_option maxRecDepth 10000 in
theorem cb_X7_advance_30 {Γ : GX} {n : Nat} {iv : IV} {rv : RV} {K : IV → Prop} {l1 : Int} (X : Cx Γ RX7 cX7_advance 8 0) (hR : Rt Γ none 0 0 (fV1 n rv K)) (hK : Lk n rv)  (h : bd_X7_advance_30 l1 iv rv K) : G Γ 8 30 [aR (some 46), aI l1, aJ, aJ, aJ, aJ, aJ, aJ] [] n iv rv 0 0 := by
  unfold bd_X7_advance_30 at h
  refine g_aload_n (q := 31) 0 X dX7_advance_30 rfl rfl rfl ?_
  refine g_iload_n (q := 32) 1 X dX7_advance_31 rfl rfl rfl ?_
  refine g_putI (q := 35) 7 4 X (Or.inl rfl) rfl kf_X7_31 (by decide) (by decide) rfl (hK.n (by decide)) dX7_advance_32 rfl ?_
  refine g_nmM (fun iv1 eiv1 => ?_)
  have h := h iv1 eiv1
  refine g_aload_n (q := 36) 0 X dX7_advance_35 rfl rfl rfl ?_
  refine g_lconst (q := 37) 0 X dX7_advance_36 rfl rfl (by unfold inL; omega) ?_
  refine g_putL (q := 40) 7 5 X rfl rfl kf_X7_34 (by decide) (by decide) rfl (hK.n (by decide)) dX7_advance_37 rfl ?_
  refine g_nmM (fun iv2 eiv2 => ?_)
  have h := h iv2 eiv2
  refine g_iload_n (q := 41) 1 X dX7_advance_40 rfl rfl rfl ?_
  refine g_aload_n (q := 42) 0 X dX7_advance_41 rfl rfl rfl ?_
  refine g_getI (q := 45) 7 1 X kf_X7_21 (by decide) (by decide) rfl rfl (hK.n (by decide)) dX7_advance_42 rfl ?_
  refine g_icmp_ge (q := 48) 57 X dX7_advance_45 (by decide) rfl (fun c3 => ?_) (fun c3 => ?_)
  · have h := h.1 c3
    refine g_iconst (q := 58) 0 X dX7_advance_57 rfl rfl ic_0 ?_
    exact cb_X7_advance_58 X hR hK   h
  · have h := h.2 c3
    refine g_aload_n (q := 49) 0 X dX7_advance_48 rfl rfl rfl ?_
    refine g_getR (q := 52) (r := some 1) 7 0 X (lk_46_0 hK) (lt2000 (c := 0) (by decide)) kf_X7_9 (by decide) (by decide) rfl rfl (hK.n (by decide)) dX7_advance_49 rfl ?_
    refine g_iload_n (q := 53) 1 X dX7_advance_52 rfl rfl rfl ?_
    obtain ⟨s4, h⟩ := h
    refine g_bald (q := 54) X rfl (hK.n (by decide)) s4 dX7_advance_53 rfl ?_
    refine g_goto (q := 58) X dX7_advance_54 (by decide) ?_
    exact cb_X7_advance_58 X hR hK   h
def bd_X7_advance_5 (P5 : Int → IV → Prop) (l1 : Int) (iv : IV) (rv : RV) (K : IV → Prop) : Prop :=
  (((iv 46 1) ≤ l1) → (bd_X7_advance_30 l1 iv rv K)) ∧ ((¬ ((iv 46 1) ≤ l1)) → ((0 ≤ l1 ∧ l1 < 900) ∧ (((iv 1 l1.toNat) ≠ 32) → (bd_X7_advance_30 l1 iv rv K)) ∧ (((iv 1 l1.toNat) = 32) → (P5 (w32 (l1 + 1)) iv))))
set_option maxRecDepth 10000 in
theorem cb_X7_advance_5 {Γ : GX} {n : Nat} {iv : IV} {rv : RV} {K : IV → Prop} {P5 : Int → IV → Prop} {l1 : Int} (X : Cx Γ RX7 cX7_advance 8 0) (hR : Rt Γ none 0 0 (fV1 n rv K)) (hK : Lk n rv)  (hP5 : ∀ (l1' : Int) (iv' : IV), P5 l1' iv' → G Γ 8 5 [aR (some 46), aI (l1'), aJ, aJ, aJ, aJ, aJ, aJ] [] n iv' rv 0 0) (h : bd_X7_advance_5 P5 l1 iv rv K) : G Γ 8 5 [aR (some 46), aI l1, aJ, aJ, aJ, aJ, aJ, aJ] [] n iv rv 0 0 := by
  unfold bd_X7_advance_5 at h
  refine g_iload_n (q := 6) 1 X dX7_advance_5 rfl rfl rfl ?_
  refine g_aload_n (q := 7) 0 X dX7_advance_6 rfl rfl rfl ?_
  refine g_getI (q := 10) 7 1 X kf_X7_21 (by decide) (by decide) rfl rfl (hK.n (by decide)) dX7_advance_7 rfl ?_
  refine g_icmp_ge (q := 13) 30 X dX7_advance_10 (by decide) rfl (fun c1 => ?_) (fun c1 => ?_)
  · have h := h.1 c1
    exact cb_X7_advance_30 X hR hK   h
  · have h := h.2 c1
    refine g_aload_n (q := 14) 0 X dX7_advance_13 rfl rfl rfl ?_
    refine g_getR (q := 17) (r := some 1) 7 0 X (lk_46_0 hK) (lt2000 (c := 0) (by decide)) kf_X7_9 (by decide) (by decide) rfl rfl (hK.n (by decide)) dX7_advance_14 rfl ?_
    refine g_iload_n (q := 18) 1 X dX7_advance_17 rfl rfl rfl ?_
    obtain ⟨s2, h⟩ := h
    refine g_bald (q := 19) X rfl (hK.n (by decide)) s2 dX7_advance_18 rfl ?_
    refine g_bipush (q := 21) 32 X dX7_advance_19 rfl bc_32 ic_32 ?_
    refine g_icmp_ne (q := 24) 30 X dX7_advance_21 (by decide) rfl (fun c3 => ?_) (fun c3 => ?_)
    · have h := h.1 c3
      exact cb_X7_advance_30 X hR hK   h
    · have h := h.2 c3
      refine g_iinc (q := 27) 1 (L' := [aR (some 46), aI (w32 (l1 + 1)), aJ, aJ, aJ, aJ, aJ, aJ]) X dX7_advance_24 rfl (by decide) rfl rfl rfl ?_
      refine g_goto (q := 5) X dX7_advance_27 (by decide) ?_
      exact hP5 _ _ h
def wl_X7_advance_5 (l1 : Int) (iv : IV) (rv : RV) (K : IV → Prop) : Prop :=
  ∀ P : Int → IV → Prop, (∀ (l1' : Int) (iv' : IV), bd_X7_advance_5  P l1' iv' rv K → P l1' iv') → P l1 iv
theorem cl_X7_advance_5 {Γ : GX} {n : Nat} {iv : IV} {rv : RV} {K : IV → Prop} {l1 : Int} (X : Cx Γ RX7 cX7_advance 8 0) (hR : Rt Γ none 0 0 (fV1 n rv K)) (hK : Lk n rv)  (h : wl_X7_advance_5 l1 iv rv K) : G Γ 8 5 [aR (some 46), aI l1, aJ, aJ, aJ, aJ, aJ, aJ] [] n iv rv 0 0 := by
  exact h (fun l1' iv' =>  G Γ 8 5 [aR (some 46), aI (l1'), aJ, aJ, aJ, aJ, aJ, aJ] [] n iv' rv 0 0) (fun l1' iv' hb => cb_X7_advance_5 X hR hK   (fun l1' iv' hp => hp) hb)
def wp_X7_advance (iv : IV) (rv : RV) (K : IV → Prop) : Prop :=
  ∀ x1, x1 = iv 46 2 → wl_X7_advance_5 x1 iv rv K
set_option maxRecDepth 10000 in
theorem ce_X7_advance {n : Nat} {iv : IV} {rv : RV} {K : IV → Prop} (hK : Lk n rv)  (h : wp_X7_advance  iv rv K) : Call 0 0 0 yX7_advance cX7_advance 8 none [aR (some 46)] n iv rv (fV1 n rv K) := by
  refine Call.by (L := [aR (some 46), aJ, aJ, aJ, aJ, aJ, aJ, aJ]) (by decide) rfl ⟨trivial, trivial⟩ rfl (Nat.le_of_ble_eq_true rfl) (fun Γ X hR => ?_)
  unfold wp_X7_advance at h
  refine g_aload_n (q := 1) 0 X dX7_advance_0 rfl rfl rfl ?_
  refine g_getI (q := 4) 7 2 X kf_X7_25 (by decide) (by decide) rfl rfl (hK.n (by decide)) dX7_advance_1 rfl ?_
  refine g_nmI (fun x1 ex1 => ?_)
  have h := h x1 ex1
  refine g_istore_n (q := 5) 1 (L' := [aR (some 46), aI x1, aJ, aJ, aJ, aJ, aJ, aJ]) X dX7_advance_4 rfl rfl (by decide) rfl rfl ?_
  exact cl_X7_advance_5 X hR hK   h
def wp_X7_open (a1 : Int) (iv : IV) (rv : RV) (K : IV → Prop) : Prop :=
  ∀ r1, r1 = min a1 900 → ∀ iv2, iv2 = w2 iv 46 1 r1 → ∀ iv3, iv3 = w2 iv2 46 2 0 → wp_X7_advance iv3 rv (fun iv4 => K iv4)
set_option maxRecDepth 10000 in
theorem ce_X7_open {n : Nat} {iv : IV} {rv : RV} {K : IV → Prop} {a1 : Int} (hK : Lk n rv)  (h : wp_X7_open a1 iv rv K) : Call 1 0 0 yX7_open cX7_open 2 none [aR (some 46), aI a1] n iv rv (fV1 n rv K) := by
  refine Call.by (L := [aR (some 46), aI a1]) (by decide) rfl ⟨trivial, trivial, trivial⟩ rfl (Nat.le_of_ble_eq_true rfl) (fun Γ X hR => ?_)
  unfold wp_X7_open at h
  refine g_aload_n (q := 1) 0 X dX7_open_0 rfl rfl rfl ?_
  refine g_iload_n (q := 2) 1 X dX7_open_1 rfl rfl rfl ?_
  refine g_aload_n (q := 3) 0 X dX7_open_2 rfl rfl rfl ?_
  refine g_getR (q := 6) (r := some 1) 7 0 X (lk_46_0 hK) (lt2000 (c := 0) (by decide)) kf_X7_9 (by decide) (by decide) rfl rfl (hK.n (by decide)) dX7_open_3 rfl ?_
  refine g_alen (q := 7) .byte X rfl (Or.inl rfl) (by decide) (hK.n (by decide)) dX7_open_6 rfl ?_
  refine g_cs (q := 10) [aI a1, aI 900] X (ce_min n iv rv a1 900) kS_X7_15 rfl rfl (Nat.le_of_ble_eq_true rfl) (by decide) dX7_open_7 rfl (fun r n_ iv_ rv_ hf => ?_)
  obtain ⟨en_, ei_, er_, r1, rfl, er1⟩ := hf; subst n_; subst iv_; subst rv_
  have h := h r1 er1
  refine g_putI (q := 13) 7 1 X (Or.inl rfl) rfl kf_X7_21 (by decide) (by decide) rfl (hK.n (by decide)) dX7_open_10 rfl ?_
  refine g_nmM (fun iv2 eiv2 => ?_)
  have h := h iv2 eiv2
  refine g_aload_n (q := 14) 0 X dX7_open_13 rfl rfl rfl ?_
  refine g_iconst (q := 15) 0 X dX7_open_14 rfl rfl ic_0 ?_
  refine g_putI (q := 18) 7 2 X (Or.inl rfl) rfl kf_X7_25 (by decide) (by decide) rfl (hK.n (by decide)) dX7_open_15 rfl ?_
  refine g_nmM (fun iv3 eiv3 => ?_)
  have h := h iv3 eiv3
  refine g_aload_n (q := 19) 0 X dX7_open_18 rfl rfl rfl ?_
  refine g_cv (q := 22) [] 7 X (ce_X7_advance hK  h) kV_X7_28 rfl (by decide) rfl (hK.n (by decide)) rfl rfl (Nat.le_of_ble_eq_true rfl) (by decide) dX7_open_19 rfl (fun r n_ iv_ rv_ hf => ?_)
  obtain ⟨en_, er_, rfl, h⟩ := hf; subst n_; subst rv_
  generalize iv_ = iv4 at h ⊢
  exact g_vret (q := 0) X hR dX7_open_22 rfl ⟨rfl, rfl, rfl, h⟩
def bd_X7_among_75 (w1 : Nat) (P17 : Int → Int → Int → Prop) (l2 l3 l5 : Int) (iv : IV) (rv : RV) (K : Int → Prop) : Prop :=
  P17 l2 l3 (w32 (l5 + 1))
set_option maxRecDepth 10000 in
theorem cb_X7_among_75 {Γ : GX} {n : Nat} {iv : IV} {rv : RV} {K : Int → Prop} {w1 : Nat} {P17 : Int → Int → Int → Prop} {l2 l3 l5 : Int} (X : Cx Γ RX7 cX7_among 7 4) (hR : Rt Γ (some .int) 0 0 (fI0 n iv rv K)) (hK : Lk n rv) (hw_w1 : w1 < 51) (hP17 : ∀ (l2' l3' l5' : Int), P17 l2' l3' l5' → G Γ 7 17 [aR (some 46), aR (some (1000 + w1)), aI (l2'), aL (l3'), aJ, aI (l5'), aJ] [] n iv rv 0 0) (h : bd_X7_among_75 w1 P17 l2 l3 l5 iv rv K) : G Γ 7 75 [aR (some 46), aR (some (1000 + w1)), aI l2, aL l3, aJ, aI l5, aJ] [] n iv rv 0 0 := by
  unfold bd_X7_among_75 at h
  refine g_iinc (q := 78) 5 (L' := [aR (some 46), aR (some (1000 + w1)), aI l2, aL l3, aJ, aI (w32 (l5 + 1)), aJ]) X dX7_among_75 rfl (by decide) rfl rfl rfl ?_
  refine g_goto (q := 17) X dX7_among_78 (by decide) ?_
  exact hP17 _ _ _ h
def bd_X7_among_17 (w1 : Nat) (P17 : Int → Int → Int → Prop) (l2 l3 l5 : Int) (iv : IV) (rv : RV) (K : Int → Prop) : Prop :=
  ∀ r1, r1 = ((sLen.getD w1 0 : Nat) : Int) → ((r1 ≤ l5) → ((((if iv 46 5 < l3 then 1 else if l3 = iv 46 5 then 0 else -1) ≠ 0) → (K (-1))) ∧ (((if iv 46 5 < l3 then 1 else if l3 = iv 46 5 then 0 else -1) = 0) → (K l2)))) ∧ ((¬ (r1 ≤ l5)) → ((0 ≤ l5 ∧ l5 < ((sLen.getD w1 0 : Nat) : Int)) ∧ ∀ r4, r4 = sAt w1 l5.toNat → ((r4 = 32) → ((((if iv 46 5 < l3 then 1 else if l3 = iv 46 5 then 0 else -1) ≠ 0) → (bd_X7_among_75 w1 P17 (w32 (l2 + 1)) 0 l5 iv rv K)) ∧ (((if iv 46 5 < l3 then 1 else if l3 = iv 46 5 then 0 else -1) = 0) → (K l2)))) ∧ ((¬ (r4 = 32)) → (∀ x8, x8 = w64 ((w64 (l3 * 32)) + (w32 ((w32 (r4 - 97)) + 1))) → bd_X7_among_75 w1 P17 l2 x8 l5 iv rv K))))
set_option maxRecDepth 10000 in
theorem cb_X7_among_17 {Γ : GX} {n : Nat} {iv : IV} {rv : RV} {K : Int → Prop} {w1 : Nat} {P17 : Int → Int → Int → Prop} {l2 l3 l5 : Int} (X : Cx Γ RX7 cX7_among 7 4) (hR : Rt Γ (some .int) 0 0 (fI0 n iv rv K)) (hK : Lk n rv) (hw_w1 : w1 < 51) (hP17 : ∀ (l2' l3' l5' : Int), P17 l2' l3' l5' → G Γ 7 17 [aR (some 46), aR (some (1000 + w1)), aI (l2'), aL (l3'), aJ, aI (l5'), aJ] [] n iv rv 0 0) (h : bd_X7_among_17 w1 P17 l2 l3 l5 iv rv K) : G Γ 7 17 [aR (some 46), aR (some (1000 + w1)), aI l2, aL l3, aJ, aI l5, aJ] [] n iv rv 0 0 := by
  unfold bd_X7_among_17 at h
  refine g_iload (q := 19) 5 X dX7_among_17 rfl rfl ?_
  refine g_aload_n (q := 20) 1 X dX7_among_19 rfl rfl rfl ?_
  refine g_cstr (q := 23) [] X (ce_slen n iv rv hw_w1) kQ_X7_45 hw_w1 rfl rfl (Nat.le_of_ble_eq_true rfl) (by decide) dX7_among_20 rfl (fun r n_ iv_ rv_ hf => ?_)
  obtain ⟨en_, ei_, er_, r1, rfl, er1⟩ := hf; subst n_; subst iv_; subst rv_
  have h := h r1 er1
  refine g_icmp_ge (q := 26) 81 X dX7_among_23 (by decide) rfl (fun c2 => ?_) (fun c2 => ?_)
  · have h := h.1 c2
    refine g_lload_n (q := 82) 3 X dX7_among_81 rfl rfl rfl ?_
    refine g_aload_n (q := 83) 0 X dX7_among_82 rfl rfl rfl ?_
    refine g_getL (q := 86) 7 5 X kf_X7_34 (by decide) (by decide) rfl rfl (hK.n (by decide)) dX7_among_83 rfl ?_
    refine g_lcmp (q := 87) X dX7_among_86 rfl ?_
    refine g_if_ne (q := 90) 94 X dX7_among_87 (by decide) rfl (fun c3 => ?_) (fun c3 => ?_)
    · have h := h.1 c3
      refine g_iconst (q := 95) (-1) X dX7_among_94 rfl rfl ic_m1 ?_
      exact g_iret (q := 0) X hR dX7_among_95 rfl ⟨rfl, rfl, rfl, _, rfl, h⟩
    · have h := h.2 c3
      refine g_iload_n (q := 91) 2 X dX7_among_90 rfl rfl rfl ?_
      refine g_goto (q := 95) X dX7_among_91 (by decide) ?_
      exact g_iret (q := 0) X hR dX7_among_95 rfl ⟨rfl, rfl, rfl, _, rfl, h⟩
  · have h := h.2 c2
    refine g_aload_n (q := 27) 1 X dX7_among_26 rfl rfl rfl ?_
    refine g_iload (q := 29) 5 X dX7_among_27 rfl rfl ?_
    obtain ⟨s5, h⟩ := h
    refine g_cstr (q := 32) [aI l5] X (ce_schar n iv rv hw_w1 s5) kQ_X7_51 hw_w1 rfl rfl (Nat.le_of_ble_eq_true rfl) (by decide) dX7_among_29 rfl (fun r n_ iv_ rv_ hf => ?_)
    obtain ⟨en_, ei_, er_, r4, rfl, er4⟩ := hf; subst n_; subst iv_; subst rv_
    have h := h r4 er4
    refine g_istore (q := 34) (k0 := 0) 6 (L' := [aR (some 46), aR (some (1000 + w1)), aI l2, aL l3, aJ, aI l5, aI r4]) X dX7_among_32 rfl (by decide) rfl rfl ?_
    refine g_iload (q := 36) 6 X dX7_among_34 rfl rfl ?_
    refine g_bipush (q := 38) 32 X dX7_among_36 rfl bc_32 ic_32 ?_
    refine g_icmp_eq (q := 41) 59 X dX7_among_38 (by decide) rfl (fun c6 => ?_) (fun c6 => ?_)
    · have h := h.1 c6
      refine g_lload_n (q := 60) 3 X dX7_among_59 rfl rfl rfl ?_
      refine g_aload_n (q := 61) 0 X dX7_among_60 rfl rfl rfl ?_
      refine g_getL (q := 64) 7 5 X kf_X7_34 (by decide) (by decide) rfl rfl (hK.n (by decide)) dX7_among_61 rfl ?_
      refine g_lcmp (q := 65) X dX7_among_64 rfl ?_
      refine g_if_ne (q := 68) 70 X dX7_among_65 (by decide) rfl (fun c7 => ?_) (fun c7 => ?_)
      · have h := h.1 c7
        refine g_iinc (q := 73) 2 (L' := [aR (some 46), aR (some (1000 + w1)), aI (w32 (l2 + 1)), aL l3, aJ, aI l5, aI r4]) X dX7_among_70 rfl (by decide) rfl rfl rfl ?_
        refine g_lconst (q := 74) 0 X dX7_among_73 rfl rfl (by unfold inL; omega) ?_
        refine g_lstore_n (q := 75) 3 (L' := [aR (some 46), aR (some (1000 + w1)), aI (w32 (l2 + 1)), aL 0, aJ, aI l5, aI r4]) X dX7_among_74 rfl rfl (by decide) rfl rfl ?_
        refine g_sub (L' := [aR (some 46), aR (some (1000 + w1)), aI (w32 (l2 + 1)), aL 0, aJ, aI l5, aJ]) ⟨Or.inr rfl, Or.inr rfl, Or.inr rfl, Or.inr rfl, Or.inl rfl, Or.inr rfl, Or.inl rfl, trivial⟩ ?_
        exact cb_X7_among_75 X hR hK hw_w1 hP17 h
      · have h := h.2 c7
        refine g_iload_n (q := 69) 2 X dX7_among_68 rfl rfl rfl ?_
        exact g_iret (q := 0) X hR dX7_among_69 rfl ⟨rfl, rfl, rfl, _, rfl, h⟩
    · have h := h.2 c6
      refine g_lload_n (q := 42) 3 X dX7_among_41 rfl rfl rfl ?_
      refine g_ldc2 (q := 45) 32 X kl_X7_38 dX7_among_42 rfl (by unfold inL; omega) ?_
      refine g_lmul (q := 46) X dX7_among_45 rfl ?_
      refine g_iload (q := 48) 6 X dX7_among_46 rfl rfl ?_
      refine g_bipush (q := 50) 97 X dX7_among_48 rfl bc_97 ic_97 ?_
      refine g_isub (q := 51) X dX7_among_50 rfl ?_
      refine g_iconst (q := 52) 1 X dX7_among_51 rfl rfl ic_1 ?_
      refine g_iadd (q := 53) X dX7_among_52 rfl ?_
      refine g_i2l (q := 54) X dX7_among_53 rfl ?_
      refine g_ladd (q := 55) X dX7_among_54 rfl ?_
      refine g_nmJ (fun x8 ex8 => ?_)
      have h := h x8 ex8
      refine g_lstore_n (q := 56) 3 (L' := [aR (some 46), aR (some (1000 + w1)), aI l2, aL x8, aJ, aI l5, aI r4]) X dX7_among_55 rfl rfl (by decide) rfl rfl ?_
      refine g_goto (q := 75) X dX7_among_56 (by decide) ?_
      refine g_sub (L' := [aR (some 46), aR (some (1000 + w1)), aI l2, aL x8, aJ, aI l5, aJ]) ⟨Or.inr rfl, Or.inr rfl, Or.inr rfl, Or.inr rfl, Or.inl rfl, Or.inr rfl, Or.inl rfl, trivial⟩ ?_
      exact cb_X7_among_75 X hR hK hw_w1 hP17 h
def wl_X7_among_17 (w1 : Nat) (l2 l3 l5 : Int) (iv : IV) (rv : RV) (K : Int → Prop) : Prop :=
  ∀ P : Int → Int → Int → Prop, (∀ (l2' l3' l5' : Int), bd_X7_among_17 w1 P l2' l3' l5' iv rv K → P l2' l3' l5') → P l2 l3 l5
theorem cl_X7_among_17 {Γ : GX} {n : Nat} {iv : IV} {rv : RV} {K : Int → Prop} {w1 : Nat} {l2 l3 l5 : Int} (X : Cx Γ RX7 cX7_among 7 4) (hR : Rt Γ (some .int) 0 0 (fI0 n iv rv K)) (hK : Lk n rv) (hw_w1 : w1 < 51) (h : wl_X7_among_17 w1 l2 l3 l5 iv rv K) : G Γ 7 17 [aR (some 46), aR (some (1000 + w1)), aI l2, aL l3, aJ, aI l5, aJ] [] n iv rv 0 0 := by
  exact h (fun l2' l3' l5' =>  G Γ 7 17 [aR (some 46), aR (some (1000 + w1)), aI (l2'), aL (l3'), aJ, aI (l5'), aJ] [] n iv rv 0 0) (fun l2' l3' l5' hb => cb_X7_among_17 X hR hK hw_w1  (fun l2' l3' l5' hp => hp) hb)
def wp_X7_among (w1 : Nat) (iv : IV) (rv : RV) (K : Int → Prop) : Prop :=
  (((iv 46 3) = 1) → (wl_X7_among_17 w1 0 0 0 iv rv K)) ∧ ((¬ ((iv 46 3) = 1)) → (K (-1)))
set_option maxRecDepth 10000 in
theorem ce_X7_among {n : Nat} {iv : IV} {rv : RV} {K : Int → Prop} {w1 : Nat} (hK : Lk n rv) (hw_w1 : w1 < 51) (h : wp_X7_among w1 iv rv K) : Call 4 0 0 yX7_among cX7_among 7 (some .int) [aR (some 46), aR (some (1000 + w1))] n iv rv (fI0 n iv rv K) := by
  refine Call.by (L := [aR (some 46), aR (some (1000 + w1)), aJ, aJ, aJ, aJ, aJ]) (by decide) rfl ⟨trivial, trivial, trivial⟩ rfl (Nat.le_of_ble_eq_true rfl) (fun Γ X hR => ?_)
  unfold wp_X7_among at h
  refine g_aload_n (q := 1) 0 X dX7_among_0 rfl rfl rfl ?_
  refine g_getI (q := 4) 7 3 X kf_X7_42 (by decide) (by decide) rfl rfl (hK.n (by decide)) dX7_among_1 rfl ?_
  refine g_iconst (q := 5) 1 X dX7_among_4 rfl rfl ic_1 ?_
  refine g_icmp_eq (q := 8) 10 X dX7_among_5 (by decide) rfl (fun c1 => ?_) (fun c1 => ?_)
  · have h := h.1 c1
    refine g_iconst (q := 11) 0 X dX7_among_10 rfl rfl ic_0 ?_
    refine g_istore_n (q := 12) 2 (L' := [aR (some 46), aR (some (1000 + w1)), aI 0, aJ, aJ, aJ, aJ]) X dX7_among_11 rfl rfl (by decide) rfl rfl ?_
    refine g_lconst (q := 13) 0 X dX7_among_12 rfl rfl (by unfold inL; omega) ?_
    refine g_lstore_n (q := 14) 3 (L' := [aR (some 46), aR (some (1000 + w1)), aI 0, aL 0, aJ, aJ, aJ]) X dX7_among_13 rfl rfl (by decide) rfl rfl ?_
    refine g_iconst (q := 15) 0 X dX7_among_14 rfl rfl ic_0 ?_
    refine g_istore (q := 17) (k0 := 0) 5 (L' := [aR (some 46), aR (some (1000 + w1)), aI 0, aL 0, aJ, aI 0, aJ]) X dX7_among_15 rfl (by decide) rfl rfl ?_
    exact cl_X7_among_17 X hR hK hw_w1  h
  · have h := h.2 c1
    refine g_iconst (q := 9) (-1) X dX7_among_8 rfl rfl ic_m1 ?_
    exact g_iret (q := 0) X hR dX7_among_9 rfl ⟨rfl, rfl, rfl, _, rfl, h⟩
