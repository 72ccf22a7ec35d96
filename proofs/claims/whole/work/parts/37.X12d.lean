def bd_X12_beats_210 (l3 l5 l10 : Int) (iv : IV) (rv : RV) (K : Int → Prop) : Prop :=
  wp_X12_dayBy l3 l5 iv rv (fun r1 => (rv 66 3 = some 80) ∧ (0 ≤ iv 66 20 ∧ iv 66 20 < 3) ∧ (((iv 96 (iv 66 20).toNat) = 0) → (((r1 < l10) → (K 0)) ∧ ((¬ (r1 < l10)) → (K 1)))) ∧ ((¬ ((iv 96 (iv 66 20).toNat) = 0)) → (((l10 < r1) → (K 0)) ∧ ((¬ (l10 < r1)) → (K 1)))))
set_option maxRecDepth 10000 in
theorem cb_X12_beats_210 {Γ : GX} {n : Nat} {iv : IV} {rv : RV} {K : Int → Prop} {l3 l5 l10 : Int} (X : Cx Γ RX12 cX12_beats 12 2) (hR : Rt Γ (some .boolean) 0 0 (fB0 n iv rv K)) (hK : Lk n rv)  (h : bd_X12_beats_210 l3 l5 l10 iv rv K) : G Γ 12 210 [aR (some 66), aJ, aJ, aI l3, aJ, aI l5, aJ, aJ, aJ, aJ, aI l10, aJ] [] n iv rv 0 0 := by
  unfold bd_X12_beats_210 at h
  refine g_aload_n (q := 211) 0 X dX12_beats_210 rfl rfl rfl ?_
  refine g_iload_n (q := 212) 3 X dX12_beats_211 rfl rfl rfl ?_
  refine g_iload (q := 214) 5 X dX12_beats_212 rfl rfl ?_
  refine g_cv (q := 217) [aI l3, aI l5] 12 X (ce_X12_dayBy hK  h) kV_X12_488 rfl (by decide) rfl (hK.n (by decide)) rfl rfl (Nat.le_of_ble_eq_true rfl) (by decide) dX12_beats_214 rfl (fun r n_ iv_ rv_ hf => ?_)
  obtain ⟨en_, ei_, er_, r1, rfl, h⟩ := hf; subst n_; subst iv_; subst rv_
  refine g_istore (q := 219) (k0 := 0) 11 (L' := [aR (some 66), aJ, aJ, aI l3, aJ, aI l5, aJ, aJ, aJ, aJ, aI l10, aI r1]) X dX12_beats_217 rfl (by decide) rfl rfl ?_
  refine g_aload_n (q := 220) 0 X dX12_beats_219 rfl rfl rfl ?_
  obtain ⟨hm80, h⟩ := h
  refine g_getR (q := 223) (r := some 80) 12 3 X hm80 (lt2000 (c := 0) (by decide)) kf_X12_442 (by decide) (by decide) rfl rfl (hK.n (by decide)) dX12_beats_220 rfl ?_
  refine g_getR (q := 226) (r := some 96) 11 29 X (lkM_29 hK (Or.inl rfl) (hK.2.2.2.2.2.2.1 80 hm80 (Or.inl rfl))) (lt2000 (c := 0) (by decide)) kf_X12_392 (by decide) (by decide) rfl rfl (Nat.lt_of_lt_of_le (by decide) (hK.2.2.2.2.2.2.1 80 hm80 (Or.inl rfl))) dX12_beats_223 rfl ?_
  refine g_aload_n (q := 227) 0 X dX12_beats_226 rfl rfl rfl ?_
  refine g_getI (q := 230) 12 20 X kf_X12_451 (by decide) (by decide) rfl rfl (hK.n (by decide)) dX12_beats_227 rfl ?_
  obtain ⟨s2, h⟩ := h
  refine g_zald (q := 231) X rfl (Nat.lt_of_lt_of_le (by decide) (hK.2.2.2.2.2.2.1 80 hm80 (Or.inl rfl))) s2 dX12_beats_230 rfl ?_
  refine g_if_eq (q := 234) 249 X dX12_beats_231 (by decide) rfl (fun c3 => ?_) (fun c3 => ?_)
  · have h := h.1 c3
    refine g_iload (q := 251) 10 X dX12_beats_249 rfl rfl ?_
    refine g_iload (q := 253) 11 X dX12_beats_251 rfl rfl ?_
    refine g_icmp_gt (q := 256) 260 X dX12_beats_253 (by decide) rfl (fun c4 => ?_) (fun c4 => ?_)
    · have h := h.1 c4
      refine g_iconst (q := 261) 0 X dX12_beats_260 rfl rfl ic_0 ?_
      exact g_zret (q := 0) .boolean X hR (nar_B (Or.inl rfl)) dX12_beats_261 rfl ⟨rfl, rfl, rfl, _, rfl, (Or.inl rfl), h⟩
    · have h := h.2 c4
      refine g_iconst (q := 257) 1 X dX12_beats_256 rfl rfl ic_1 ?_
      refine g_goto (q := 261) X dX12_beats_257 (by decide) ?_
      exact g_zret (q := 0) .boolean X hR (nar_B (Or.inr rfl)) dX12_beats_261 rfl ⟨rfl, rfl, rfl, _, rfl, (Or.inr rfl), h⟩
  · have h := h.2 c3
    refine g_iload (q := 236) 10 X dX12_beats_234 rfl rfl ?_
    refine g_iload (q := 238) 11 X dX12_beats_236 rfl rfl ?_
    refine g_icmp_lt (q := 241) 245 X dX12_beats_238 (by decide) rfl (fun c5 => ?_) (fun c5 => ?_)
    · have h := h.1 c5
      refine g_iconst (q := 246) 0 X dX12_beats_245 rfl rfl ic_0 ?_
      refine g_goto (q := 261) X dX12_beats_246 (by decide) ?_
      exact g_zret (q := 0) .boolean X hR (nar_B (Or.inl rfl)) dX12_beats_261 rfl ⟨rfl, rfl, rfl, _, rfl, (Or.inl rfl), h⟩
    · have h := h.2 c5
      refine g_iconst (q := 242) 1 X dX12_beats_241 rfl rfl ic_1 ?_
      refine g_goto (q := 261) X dX12_beats_242 (by decide) ?_
      exact g_zret (q := 0) .boolean X hR (nar_B (Or.inr rfl)) dX12_beats_261 rfl ⟨rfl, rfl, rfl, _, rfl, (Or.inr rfl), h⟩
def bd_X12_beats_162 (l1 l2 l3 l5 : Int) (iv : IV) (rv : RV) (K : Int → Prop) : Prop :=
  wp_X12_dayBy l1 l5 iv rv (fun r1 => ((l2 = (-1)) → (bd_X12_beats_210 l3 l5 r1 iv rv K)) ∧ ((¬ (l2 = (-1))) → ((rv 66 3 = some 80) ∧ (0 ≤ iv 66 20 ∧ iv 66 20 < 3) ∧ (((iv 97 (iv 66 20).toNat) ≠ 0) → (bd_X12_beats_210 l3 l5 r1 iv rv K)) ∧ (((iv 97 (iv 66 20).toNat) = 0) → ((0 ≤ l2 ∧ l2 < 16) ∧ (((iv 68 l2.toNat) ≤ r1) → (bd_X12_beats_210 l3 l5 r1 iv rv K)) ∧ ((¬ ((iv 68 l2.toNat) ≤ r1)) → ((0 ≤ l2 ∧ l2 < 16) ∧ ∀ x8, x8 = iv 68 l2.toNat → bd_X12_beats_210 l3 l5 x8 iv rv K)))))))
set_option maxRecDepth 10000 in
theorem cb_X12_beats_162 {Γ : GX} {n : Nat} {iv : IV} {rv : RV} {K : Int → Prop} {l1 l2 l3 l5 : Int} (X : Cx Γ RX12 cX12_beats 12 2) (hR : Rt Γ (some .boolean) 0 0 (fB0 n iv rv K)) (hK : Lk n rv)  (h : bd_X12_beats_162 l1 l2 l3 l5 iv rv K) : G Γ 12 162 [aR (some 66), aI l1, aI l2, aI l3, aJ, aI l5, aJ, aJ, aJ, aJ, aJ, aJ] [] n iv rv 0 0 := by
  unfold bd_X12_beats_162 at h
  refine g_aload_n (q := 163) 0 X dX12_beats_162 rfl rfl rfl ?_
  refine g_iload_n (q := 164) 1 X dX12_beats_163 rfl rfl rfl ?_
  refine g_iload (q := 166) 5 X dX12_beats_164 rfl rfl ?_
  refine g_cv (q := 169) [aI l1, aI l5] 12 X (ce_X12_dayBy hK  h) kV_X12_488 rfl (by decide) rfl (hK.n (by decide)) rfl rfl (Nat.le_of_ble_eq_true rfl) (by decide) dX12_beats_166 rfl (fun r n_ iv_ rv_ hf => ?_)
  obtain ⟨en_, ei_, er_, r1, rfl, h⟩ := hf; subst n_; subst iv_; subst rv_
  refine g_istore (q := 171) (k0 := 0) 10 (L' := [aR (some 66), aI l1, aI l2, aI l3, aJ, aI l5, aJ, aJ, aJ, aJ, aI r1, aJ]) X dX12_beats_169 rfl (by decide) rfl rfl ?_
  refine g_iload_n (q := 172) 2 X dX12_beats_171 rfl rfl rfl ?_
  refine g_iconst (q := 173) (-1) X dX12_beats_172 rfl rfl ic_m1 ?_
  refine g_icmp_eq (q := 176) 210 X dX12_beats_173 (by decide) rfl (fun c2 => ?_) (fun c2 => ?_)
  · have h := h.1 c2
    refine g_sub (L' := [aR (some 66), aJ, aJ, aI l3, aJ, aI l5, aJ, aJ, aJ, aJ, aI r1, aJ]) ⟨Or.inr rfl, Or.inl rfl, Or.inl rfl, Or.inr rfl, Or.inl rfl, Or.inr rfl, Or.inl rfl, Or.inl rfl, Or.inl rfl, Or.inl rfl, Or.inr rfl, Or.inl rfl, trivial⟩ ?_
    exact cb_X12_beats_210 X hR hK   h
  · have h := h.2 c2
    refine g_aload_n (q := 177) 0 X dX12_beats_176 rfl rfl rfl ?_
    obtain ⟨hm80, h⟩ := h
    refine g_getR (q := 180) (r := some 80) 12 3 X hm80 (lt2000 (c := 0) (by decide)) kf_X12_442 (by decide) (by decide) rfl rfl (hK.n (by decide)) dX12_beats_177 rfl ?_
    refine g_getR (q := 183) (r := some 97) 11 30 X (lkM_30 hK (Or.inl rfl) (hK.2.2.2.2.2.2.1 80 hm80 (Or.inl rfl))) (lt2000 (c := 0) (by decide)) kf_X12_396 (by decide) (by decide) rfl rfl (Nat.lt_of_lt_of_le (by decide) (hK.2.2.2.2.2.2.1 80 hm80 (Or.inl rfl))) dX12_beats_180 rfl ?_
    refine g_aload_n (q := 184) 0 X dX12_beats_183 rfl rfl rfl ?_
    refine g_getI (q := 187) 12 20 X kf_X12_451 (by decide) (by decide) rfl rfl (hK.n (by decide)) dX12_beats_184 rfl ?_
    obtain ⟨s3, h⟩ := h
    refine g_zald (q := 188) X rfl (Nat.lt_of_lt_of_le (by decide) (hK.2.2.2.2.2.2.1 80 hm80 (Or.inl rfl))) s3 dX12_beats_187 rfl ?_
    refine g_if_ne (q := 191) 210 X dX12_beats_188 (by decide) rfl (fun c4 => ?_) (fun c4 => ?_)
    · have h := h.1 c4
      refine g_sub (L' := [aR (some 66), aJ, aJ, aI l3, aJ, aI l5, aJ, aJ, aJ, aJ, aI r1, aJ]) ⟨Or.inr rfl, Or.inl rfl, Or.inl rfl, Or.inr rfl, Or.inl rfl, Or.inr rfl, Or.inl rfl, Or.inl rfl, Or.inl rfl, Or.inl rfl, Or.inr rfl, Or.inl rfl, trivial⟩ ?_
      exact cb_X12_beats_210 X hR hK   h
    · have h := h.2 c4
      refine g_aload_n (q := 192) 0 X dX12_beats_191 rfl rfl rfl ?_
      refine g_getR (q := 195) (r := some 68) 12 15 X (lk_66_15 hK) (lt2000 (c := 0) (by decide)) kf_X12_17 (by decide) (by decide) rfl rfl (hK.n (by decide)) dX12_beats_192 rfl ?_
      refine g_iload_n (q := 196) 2 X dX12_beats_195 rfl rfl rfl ?_
      obtain ⟨s5, h⟩ := h
      refine g_iald (q := 197) X rfl (hK.n (by decide)) s5 dX12_beats_196 rfl ?_
      refine g_iload (q := 199) 10 X dX12_beats_197 rfl rfl ?_
      refine g_icmp_le (q := 202) 210 X dX12_beats_199 (by decide) rfl (fun c6 => ?_) (fun c6 => ?_)
      · have h := h.1 c6
        refine g_sub (L' := [aR (some 66), aJ, aJ, aI l3, aJ, aI l5, aJ, aJ, aJ, aJ, aI r1, aJ]) ⟨Or.inr rfl, Or.inl rfl, Or.inl rfl, Or.inr rfl, Or.inl rfl, Or.inr rfl, Or.inl rfl, Or.inl rfl, Or.inl rfl, Or.inl rfl, Or.inr rfl, Or.inl rfl, trivial⟩ ?_
        exact cb_X12_beats_210 X hR hK   h
      · have h := h.2 c6
        refine g_aload_n (q := 203) 0 X dX12_beats_202 rfl rfl rfl ?_
        refine g_getR (q := 206) (r := some 68) 12 15 X (lk_66_15 hK) (lt2000 (c := 0) (by decide)) kf_X12_17 (by decide) (by decide) rfl rfl (hK.n (by decide)) dX12_beats_203 rfl ?_
        refine g_iload_n (q := 207) 2 X dX12_beats_206 rfl rfl rfl ?_
        obtain ⟨s7, h⟩ := h
        refine g_iald (q := 208) X rfl (hK.n (by decide)) s7 dX12_beats_207 rfl ?_
        refine g_nmI (fun x8 ex8 => ?_)
        have h := h x8 ex8
        refine g_istore (q := 210) (k0 := 0) 10 (L' := [aR (some 66), aI l1, aI l2, aI l3, aJ, aI l5, aJ, aJ, aJ, aJ, aI x8, aJ]) X dX12_beats_208 rfl (by decide) rfl rfl ?_
        refine g_sub (L' := [aR (some 66), aJ, aJ, aI l3, aJ, aI l5, aJ, aJ, aJ, aJ, aI x8, aJ]) ⟨Or.inr rfl, Or.inl rfl, Or.inl rfl, Or.inr rfl, Or.inl rfl, Or.inr rfl, Or.inl rfl, Or.inl rfl, Or.inl rfl, Or.inl rfl, Or.inr rfl, Or.inl rfl, trivial⟩ ?_
        exact cb_X12_beats_210 X hR hK   h
def bd_X12_beats_146 (l1 l2 l3 l5 l7 t0 t1 : Int) (iv : IV) (rv : RV) (K : Int → Prop) : Prop :=
  ((t1 = t0) → (bd_X12_beats_162 l1 l2 l3 l5 iv rv K)) ∧ ((¬ (t1 = t0)) → (((l7 = (-2)) → (K 0)) ∧ ((¬ (l7 = (-2))) → (K 1))))
set_option maxRecDepth 10000 in
theorem cb_X12_beats_146 {Γ : GX} {n : Nat} {iv : IV} {rv : RV} {K : Int → Prop} {l1 l2 l3 l5 l7 t0 t1 : Int} (X : Cx Γ RX12 cX12_beats 12 2) (hR : Rt Γ (some .boolean) 0 0 (fB0 n iv rv K)) (hK : Lk n rv)  (h : bd_X12_beats_146 l1 l2 l3 l5 l7 t0 t1 iv rv K) : G Γ 12 146 [aR (some 66), aI l1, aI l2, aI l3, aJ, aI l5, aJ, aI l7, aJ, aJ, aJ, aJ] [aI t0, aI t1] n iv rv 0 0 := by
  unfold bd_X12_beats_146 at h
  refine g_icmp_eq (q := 149) 162 X dX12_beats_146 (by decide) rfl (fun c1 => ?_) (fun c1 => ?_)
  · have h := h.1 c1
    refine g_sub (L' := [aR (some 66), aI l1, aI l2, aI l3, aJ, aI l5, aJ, aJ, aJ, aJ, aJ, aJ]) ⟨Or.inr rfl, Or.inr rfl, Or.inr rfl, Or.inr rfl, Or.inl rfl, Or.inr rfl, Or.inl rfl, Or.inl rfl, Or.inl rfl, Or.inl rfl, Or.inl rfl, Or.inl rfl, trivial⟩ ?_
    exact cb_X12_beats_162 X hR hK   h
  · have h := h.2 c1
    refine g_iload (q := 151) 7 X dX12_beats_149 rfl rfl ?_
    refine g_bipush (q := 153) (-2) X dX12_beats_151 rfl bc_m2 ic_m2 ?_
    refine g_icmp_eq (q := 156) 160 X dX12_beats_153 (by decide) rfl (fun c2 => ?_) (fun c2 => ?_)
    · have h := h.1 c2
      refine g_iconst (q := 161) 0 X dX12_beats_160 rfl rfl ic_0 ?_
      exact g_zret (q := 0) .boolean X hR (nar_B (Or.inl rfl)) dX12_beats_161 rfl ⟨rfl, rfl, rfl, _, rfl, (Or.inl rfl), h⟩
    · have h := h.2 c2
      refine g_iconst (q := 157) 1 X dX12_beats_156 rfl rfl ic_1 ?_
      refine g_goto (q := 161) X dX12_beats_157 (by decide) ?_
      exact g_zret (q := 0) .boolean X hR (nar_B (Or.inr rfl)) dX12_beats_161 rfl ⟨rfl, rfl, rfl, _, rfl, (Or.inr rfl), h⟩
def bd_X12_beats_134 (l1 l2 l3 l5 l7 l9 t0 : Int) (iv : IV) (rv : RV) (K : Int → Prop) : Prop :=
  ((l9 ≠ (-2)) → (bd_X12_beats_146 l1 l2 l3 l5 l7 0 t0 iv rv K)) ∧ ((l9 = (-2)) → (bd_X12_beats_146 l1 l2 l3 l5 l7 1 t0 iv rv K))
set_option maxRecDepth 10000 in
theorem cb_X12_beats_134 {Γ : GX} {n : Nat} {iv : IV} {rv : RV} {K : Int → Prop} {l1 l2 l3 l5 l7 l9 t0 : Int} (X : Cx Γ RX12 cX12_beats 12 2) (hR : Rt Γ (some .boolean) 0 0 (fB0 n iv rv K)) (hK : Lk n rv)  (h : bd_X12_beats_134 l1 l2 l3 l5 l7 l9 t0 iv rv K) : G Γ 12 134 [aR (some 66), aI l1, aI l2, aI l3, aJ, aI l5, aJ, aI l7, aJ, aI l9, aJ, aJ] [aI t0] n iv rv 0 0 := by
  unfold bd_X12_beats_134 at h
  refine g_iload (q := 136) 9 X dX12_beats_134 rfl rfl ?_
  refine g_bipush (q := 138) (-2) X dX12_beats_136 rfl bc_m2 ic_m2 ?_
  refine g_icmp_ne (q := 141) 145 X dX12_beats_138 (by decide) rfl (fun c1 => ?_) (fun c1 => ?_)
  · have h := h.1 c1
    refine g_iconst (q := 146) 0 X dX12_beats_145 rfl rfl ic_0 ?_
    refine g_sub (L' := [aR (some 66), aI l1, aI l2, aI l3, aJ, aI l5, aJ, aI l7, aJ, aJ, aJ, aJ]) ⟨Or.inr rfl, Or.inr rfl, Or.inr rfl, Or.inr rfl, Or.inl rfl, Or.inr rfl, Or.inl rfl, Or.inr rfl, Or.inl rfl, Or.inl rfl, Or.inl rfl, Or.inl rfl, trivial⟩ ?_
    exact cb_X12_beats_146 X hR hK   h
  · have h := h.2 c1
    refine g_iconst (q := 142) 1 X dX12_beats_141 rfl rfl ic_1 ?_
    refine g_goto (q := 146) X dX12_beats_142 (by decide) ?_
    refine g_sub (L' := [aR (some 66), aI l1, aI l2, aI l3, aJ, aI l5, aJ, aI l7, aJ, aJ, aJ, aJ]) ⟨Or.inr rfl, Or.inr rfl, Or.inr rfl, Or.inr rfl, Or.inl rfl, Or.inr rfl, Or.inl rfl, Or.inr rfl, Or.inl rfl, Or.inl rfl, Or.inl rfl, Or.inl rfl, trivial⟩ ?_
    exact cb_X12_beats_146 X hR hK   h
def bd_X12_beats_98 (l1 l2 l3 l5 l7 : Int) (iv : IV) (rv : RV) (K : Int → Prop) : Prop :=
  wp_X12_goodsOf l3 l5 iv rv (fun r1 => (rv 66 3 = some 80) ∧ (0 ≤ iv 66 20 ∧ iv 66 20 < 3) ∧ (((iv 98 (iv 66 20).toNat) = 0) → (bd_X12_beats_162 l1 l2 l3 l5 iv rv K)) ∧ ((¬ ((iv 98 (iv 66 20).toNat) = 0)) → (((l7 ≠ (-2)) → (bd_X12_beats_134 l1 l2 l3 l5 l7 r1 0 iv rv K)) ∧ ((l7 = (-2)) → (bd_X12_beats_134 l1 l2 l3 l5 l7 r1 1 iv rv K)))))
set_option maxRecDepth 10000 in
theorem cb_X12_beats_98 {Γ : GX} {n : Nat} {iv : IV} {rv : RV} {K : Int → Prop} {l1 l2 l3 l5 l7 : Int} (X : Cx Γ RX12 cX12_beats 12 2) (hR : Rt Γ (some .boolean) 0 0 (fB0 n iv rv K)) (hK : Lk n rv)  (h : bd_X12_beats_98 l1 l2 l3 l5 l7 iv rv K) : G Γ 12 98 [aR (some 66), aI l1, aI l2, aI l3, aJ, aI l5, aJ, aI l7, aJ, aJ, aJ, aJ] [] n iv rv 0 0 := by
  unfold bd_X12_beats_98 at h
  refine g_aload_n (q := 99) 0 X dX12_beats_98 rfl rfl rfl ?_
  refine g_iload_n (q := 100) 3 X dX12_beats_99 rfl rfl rfl ?_
  refine g_iload (q := 102) 5 X dX12_beats_100 rfl rfl ?_
  refine g_cv (q := 105) [aI l3, aI l5] 12 X (ce_X12_goodsOf hK  h) kV_X12_485 rfl (by decide) rfl (hK.n (by decide)) rfl rfl (Nat.le_of_ble_eq_true rfl) (by decide) dX12_beats_102 rfl (fun r n_ iv_ rv_ hf => ?_)
  obtain ⟨en_, ei_, er_, r1, rfl, h⟩ := hf; subst n_; subst iv_; subst rv_
  refine g_istore (q := 107) (k0 := 0) 9 (L' := [aR (some 66), aI l1, aI l2, aI l3, aJ, aI l5, aJ, aI l7, aJ, aI r1, aJ, aJ]) X dX12_beats_105 rfl (by decide) rfl rfl ?_
  refine g_aload_n (q := 108) 0 X dX12_beats_107 rfl rfl rfl ?_
  obtain ⟨hm80, h⟩ := h
  refine g_getR (q := 111) (r := some 80) 12 3 X hm80 (lt2000 (c := 0) (by decide)) kf_X12_442 (by decide) (by decide) rfl rfl (hK.n (by decide)) dX12_beats_108 rfl ?_
  refine g_getR (q := 114) (r := some 98) 11 31 X (lkM_31 hK (Or.inl rfl) (hK.2.2.2.2.2.2.1 80 hm80 (Or.inl rfl))) (lt2000 (c := 0) (by decide)) kf_X12_399 (by decide) (by decide) rfl rfl (Nat.lt_of_lt_of_le (by decide) (hK.2.2.2.2.2.2.1 80 hm80 (Or.inl rfl))) dX12_beats_111 rfl ?_
  refine g_aload_n (q := 115) 0 X dX12_beats_114 rfl rfl rfl ?_
  refine g_getI (q := 118) 12 20 X kf_X12_451 (by decide) (by decide) rfl rfl (hK.n (by decide)) dX12_beats_115 rfl ?_
  obtain ⟨s2, h⟩ := h
  refine g_zald (q := 119) X rfl (Nat.lt_of_lt_of_le (by decide) (hK.2.2.2.2.2.2.1 80 hm80 (Or.inl rfl))) s2 dX12_beats_118 rfl ?_
  refine g_if_eq (q := 122) 162 X dX12_beats_119 (by decide) rfl (fun c3 => ?_) (fun c3 => ?_)
  · have h := h.1 c3
    refine g_sub (L' := [aR (some 66), aI l1, aI l2, aI l3, aJ, aI l5, aJ, aJ, aJ, aJ, aJ, aJ]) ⟨Or.inr rfl, Or.inr rfl, Or.inr rfl, Or.inr rfl, Or.inl rfl, Or.inr rfl, Or.inl rfl, Or.inl rfl, Or.inl rfl, Or.inl rfl, Or.inl rfl, Or.inl rfl, trivial⟩ ?_
    exact cb_X12_beats_162 X hR hK   h
  · have h := h.2 c3
    refine g_iload (q := 124) 7 X dX12_beats_122 rfl rfl ?_
    refine g_bipush (q := 126) (-2) X dX12_beats_124 rfl bc_m2 ic_m2 ?_
    refine g_icmp_ne (q := 129) 133 X dX12_beats_126 (by decide) rfl (fun c4 => ?_) (fun c4 => ?_)
    · have h := h.1 c4
      refine g_iconst (q := 134) 0 X dX12_beats_133 rfl rfl ic_0 ?_
      exact cb_X12_beats_134 X hR hK   h
    · have h := h.2 c4
      refine g_iconst (q := 130) 1 X dX12_beats_129 rfl rfl ic_1 ?_
      refine g_goto (q := 134) X dX12_beats_130 (by decide) ?_
      exact cb_X12_beats_134 X hR hK   h
def bd_X12_beats_75 (l1 l2 l3 l4 l5 l7 l8 : Int) (iv : IV) (rv : RV) (K : Int → Prop) : Prop :=
  ((l8 = 2) → (bd_X12_beats_98 l1 l2 l3 l5 l7 iv rv K)) ∧ ((¬ (l8 = 2)) → ((rv 66 3 = some 80) ∧ (0 ≤ l4 ∧ l4 < 6) ∧ ((l8 = (iv 102 l4.toNat)) → (bd_X12_beats_98 l1 l2 l3 l5 l7 iv rv K)) ∧ ((¬ (l8 = (iv 102 l4.toNat))) → (K 0))))
set_option maxRecDepth 10000 in
theorem cb_X12_beats_75 {Γ : GX} {n : Nat} {iv : IV} {rv : RV} {K : Int → Prop} {l1 l2 l3 l4 l5 l7 l8 : Int} (X : Cx Γ RX12 cX12_beats 12 2) (hR : Rt Γ (some .boolean) 0 0 (fB0 n iv rv K)) (hK : Lk n rv)  (h : bd_X12_beats_75 l1 l2 l3 l4 l5 l7 l8 iv rv K) : G Γ 12 75 [aR (some 66), aI l1, aI l2, aI l3, aI l4, aI l5, aJ, aI l7, aI l8, aJ, aJ, aJ] [] n iv rv 0 0 := by
  unfold bd_X12_beats_75 at h
  refine g_iload (q := 77) 8 X dX12_beats_75 rfl rfl ?_
  refine g_iconst (q := 78) 2 X dX12_beats_77 rfl rfl ic_2 ?_
  refine g_icmp_eq (q := 81) 98 X dX12_beats_78 (by decide) rfl (fun c1 => ?_) (fun c1 => ?_)
  · have h := h.1 c1
    refine g_sub (L' := [aR (some 66), aI l1, aI l2, aI l3, aJ, aI l5, aJ, aI l7, aJ, aJ, aJ, aJ]) ⟨Or.inr rfl, Or.inr rfl, Or.inr rfl, Or.inr rfl, Or.inl rfl, Or.inr rfl, Or.inl rfl, Or.inr rfl, Or.inl rfl, Or.inl rfl, Or.inl rfl, Or.inl rfl, trivial⟩ ?_
    exact cb_X12_beats_98 X hR hK   h
  · have h := h.2 c1
    refine g_iload (q := 83) 8 X dX12_beats_81 rfl rfl ?_
    refine g_aload_n (q := 84) 0 X dX12_beats_83 rfl rfl rfl ?_
    obtain ⟨hm80, h⟩ := h
    refine g_getR (q := 87) (r := some 80) 12 3 X hm80 (lt2000 (c := 0) (by decide)) kf_X12_442 (by decide) (by decide) rfl rfl (hK.n (by decide)) dX12_beats_84 rfl ?_
    refine g_getR (q := 90) (r := some 102) 11 35 X (lkM_35 hK (Or.inl rfl) (hK.2.2.2.2.2.2.1 80 hm80 (Or.inl rfl))) (lt2000 (c := 0) (by decide)) kf_X12_420 (by decide) (by decide) rfl rfl (Nat.lt_of_lt_of_le (by decide) (hK.2.2.2.2.2.2.1 80 hm80 (Or.inl rfl))) dX12_beats_87 rfl ?_
    refine g_iload (q := 92) 4 X dX12_beats_90 rfl rfl ?_
    obtain ⟨s2, h⟩ := h
    refine g_iald (q := 93) X rfl (Nat.lt_of_lt_of_le (by decide) (hK.2.2.2.2.2.2.1 80 hm80 (Or.inl rfl))) s2 dX12_beats_92 rfl ?_
    refine g_icmp_eq (q := 96) 98 X dX12_beats_93 (by decide) rfl (fun c3 => ?_) (fun c3 => ?_)
    · have h := h.1 c3
      refine g_sub (L' := [aR (some 66), aI l1, aI l2, aI l3, aJ, aI l5, aJ, aI l7, aJ, aJ, aJ, aJ]) ⟨Or.inr rfl, Or.inr rfl, Or.inr rfl, Or.inr rfl, Or.inl rfl, Or.inr rfl, Or.inl rfl, Or.inr rfl, Or.inl rfl, Or.inl rfl, Or.inl rfl, Or.inl rfl, trivial⟩ ?_
      exact cb_X12_beats_98 X hR hK   h
    · have h := h.2 c3
      refine g_iconst (q := 97) 0 X dX12_beats_96 rfl rfl ic_0 ?_
      exact g_zret (q := 0) .boolean X hR (nar_B (Or.inl rfl)) dX12_beats_97 rfl ⟨rfl, rfl, rfl, _, rfl, (Or.inl rfl), h⟩
def bd_X12_beats_51 (l1 l2 l3 l4 l5 l7 t0 : Int) (iv : IV) (rv : RV) (K : Int → Prop) : Prop :=
  ((l7 = (-2)) → (bd_X12_beats_75 l1 l2 l3 l4 l5 l7 t0 iv rv K)) ∧ ((¬ (l7 = (-2))) → ((rv 66 3 = some 80) ∧ (0 ≤ l4 ∧ l4 < 6) ∧ ((l7 ≠ (iv 101 l4.toNat)) → (K 0)) ∧ ((l7 = (iv 101 l4.toNat)) → (bd_X12_beats_75 l1 l2 l3 l4 l5 l7 t0 iv rv K))))
set_option maxRecDepth 10000 in
theorem cb_X12_beats_51 {Γ : GX} {n : Nat} {iv : IV} {rv : RV} {K : Int → Prop} {l1 l2 l3 l4 l5 l7 t0 : Int} (X : Cx Γ RX12 cX12_beats 12 2) (hR : Rt Γ (some .boolean) 0 0 (fB0 n iv rv K)) (hK : Lk n rv)  (h : bd_X12_beats_51 l1 l2 l3 l4 l5 l7 t0 iv rv K) : G Γ 12 51 [aR (some 66), aI l1, aI l2, aI l3, aI l4, aI l5, aJ, aI l7, aJ, aJ, aJ, aJ] [aI t0] n iv rv 0 0 := by
  unfold bd_X12_beats_51 at h
  refine g_istore (q := 53) (k0 := 0) 8 (L' := [aR (some 66), aI l1, aI l2, aI l3, aI l4, aI l5, aJ, aI l7, aI t0, aJ, aJ, aJ]) X dX12_beats_51 rfl (by decide) rfl rfl ?_
  refine g_iload (q := 55) 7 X dX12_beats_53 rfl rfl ?_
  refine g_bipush (q := 57) (-2) X dX12_beats_55 rfl bc_m2 ic_m2 ?_
  refine g_icmp_eq (q := 60) 75 X dX12_beats_57 (by decide) rfl (fun c1 => ?_) (fun c1 => ?_)
  · have h := h.1 c1
    exact cb_X12_beats_75 X hR hK   h
  · have h := h.2 c1
    refine g_iload (q := 62) 7 X dX12_beats_60 rfl rfl ?_
    refine g_aload_n (q := 63) 0 X dX12_beats_62 rfl rfl rfl ?_
    obtain ⟨hm80, h⟩ := h
    refine g_getR (q := 66) (r := some 80) 12 3 X hm80 (lt2000 (c := 0) (by decide)) kf_X12_442 (by decide) (by decide) rfl rfl (hK.n (by decide)) dX12_beats_63 rfl ?_
    refine g_getR (q := 69) (r := some 101) 11 34 X (lkM_34 hK (Or.inl rfl) (hK.2.2.2.2.2.2.1 80 hm80 (Or.inl rfl))) (lt2000 (c := 0) (by decide)) kf_X12_417 (by decide) (by decide) rfl rfl (Nat.lt_of_lt_of_le (by decide) (hK.2.2.2.2.2.2.1 80 hm80 (Or.inl rfl))) dX12_beats_66 rfl ?_
    refine g_iload (q := 71) 4 X dX12_beats_69 rfl rfl ?_
    obtain ⟨s2, h⟩ := h
    refine g_iald (q := 72) X rfl (Nat.lt_of_lt_of_le (by decide) (hK.2.2.2.2.2.2.1 80 hm80 (Or.inl rfl))) s2 dX12_beats_71 rfl ?_
    refine g_icmp_ne (q := 75) 96 X dX12_beats_72 (by decide) rfl (fun c3 => ?_) (fun c3 => ?_)
    · have h := h.1 c3
      refine g_iconst (q := 97) 0 X dX12_beats_96 rfl rfl ic_0 ?_
      exact g_zret (q := 0) .boolean X hR (nar_B (Or.inl rfl)) dX12_beats_97 rfl ⟨rfl, rfl, rfl, _, rfl, (Or.inl rfl), h⟩
    · have h := h.2 c3
      exact cb_X12_beats_75 X hR hK   h
def wp_X12_beats (a1 : Int) (a2 : Int) (a3 : Int) (a4 : Int) (a5 : Int) (iv : IV) (rv : RV) (K : Int → Prop) : Prop :=
  wp_X12_renewalOf a1 a5 iv rv (fun r1 => wp_X12_howOf r1 iv rv (fun r2 => wp_X12_goodsOf a1 a5 iv rv (fun r3 => ((r2 ≠ 1) → (((r2 ≠ 2) → ((rv 66 3 = some 80) ∧ (0 ≤ a1 ∧ a1 < 16) ∧ bd_X12_beats_51 a1 a2 a3 a4 a5 r3 (iv 89 a1.toNat) iv rv K)) ∧ ((r2 = 2) → (bd_X12_beats_51 a1 a2 a3 a4 a5 r3 0 iv rv K)))) ∧ ((r2 = 1) → (bd_X12_beats_51 a1 a2 a3 a4 a5 r3 2 iv rv K)))))
set_option maxRecDepth 10000 in
theorem ce_X12_beats {n : Nat} {iv : IV} {rv : RV} {K : Int → Prop} {a1 : Int} {a2 : Int} {a3 : Int} {a4 : Int} {a5 : Int} (hK : Lk n rv)  (h : wp_X12_beats a1 a2 a3 a4 a5 iv rv K) : Call 2 0 0 yX12_beats cX12_beats 12 (some .boolean) [aR (some 66), aI a1, aI a2, aI a3, aI a4, aI a5] n iv rv (fB0 n iv rv K) := by
  refine Call.by (L := [aR (some 66), aI a1, aI a2, aI a3, aI a4, aI a5, aJ, aJ, aJ, aJ, aJ, aJ]) (by decide) rfl ⟨trivial, trivial, trivial, trivial, trivial, trivial, trivial⟩ rfl (Nat.le_of_ble_eq_true rfl) (fun Γ X hR => ?_)
  unfold wp_X12_beats at h
  refine g_aload_n (q := 1) 0 X dX12_beats_0 rfl rfl rfl ?_
  refine g_aload_n (q := 2) 0 X dX12_beats_1 rfl rfl rfl ?_
  refine g_iload_n (q := 3) 1 X dX12_beats_2 rfl rfl rfl ?_
  refine g_iload (q := 5) 5 X dX12_beats_3 rfl rfl ?_
  refine g_cv (q := 8) [aI a1, aI a5] 12 X (ce_X12_renewalOf hK  h) kV_X12_469 rfl (by decide) rfl (hK.n (by decide)) rfl rfl (Nat.le_of_ble_eq_true rfl) (by decide) dX12_beats_5 rfl (fun r n_ iv_ rv_ hf => ?_)
  obtain ⟨en_, ei_, er_, r1, rfl, h⟩ := hf; subst n_; subst iv_; subst rv_
  refine g_cv (q := 11) [aI r1] 12 X (ce_X12_howOf hK  h) kV_X12_472 rfl (by decide) rfl (hK.n (by decide)) rfl rfl (Nat.le_of_ble_eq_true rfl) (by decide) dX12_beats_8 rfl (fun r n_ iv_ rv_ hf => ?_)
  obtain ⟨en_, ei_, er_, r2, rfl, h⟩ := hf; subst n_; subst iv_; subst rv_
  refine g_istore (q := 13) (k0 := 0) 6 (L' := [aR (some 66), aI a1, aI a2, aI a3, aI a4, aI a5, aI r2, aJ, aJ, aJ, aJ, aJ]) X dX12_beats_11 rfl (by decide) rfl rfl ?_
  refine g_aload_n (q := 14) 0 X dX12_beats_13 rfl rfl rfl ?_
  refine g_iload_n (q := 15) 1 X dX12_beats_14 rfl rfl rfl ?_
  refine g_iload (q := 17) 5 X dX12_beats_15 rfl rfl ?_
  refine g_cv (q := 20) [aI a1, aI a5] 12 X (ce_X12_goodsOf hK  h) kV_X12_485 rfl (by decide) rfl (hK.n (by decide)) rfl rfl (Nat.le_of_ble_eq_true rfl) (by decide) dX12_beats_17 rfl (fun r n_ iv_ rv_ hf => ?_)
  obtain ⟨en_, ei_, er_, r3, rfl, h⟩ := hf; subst n_; subst iv_; subst rv_
  refine g_istore (q := 22) (k0 := 0) 7 (L' := [aR (some 66), aI a1, aI a2, aI a3, aI a4, aI a5, aI r2, aI r3, aJ, aJ, aJ, aJ]) X dX12_beats_20 rfl (by decide) rfl rfl ?_
  refine g_iload (q := 24) 6 X dX12_beats_22 rfl rfl ?_
  refine g_iconst (q := 25) 1 X dX12_beats_24 rfl rfl ic_1 ?_
  refine g_icmp_ne (q := 28) 32 X dX12_beats_25 (by decide) rfl (fun c4 => ?_) (fun c4 => ?_)
  · have h := h.1 c4
    refine g_iload (q := 34) 6 X dX12_beats_32 rfl rfl ?_
    refine g_iconst (q := 35) 2 X dX12_beats_34 rfl rfl ic_2 ?_
    refine g_icmp_ne (q := 38) 42 X dX12_beats_35 (by decide) rfl (fun c5 => ?_) (fun c5 => ?_)
    · have h := h.1 c5
      refine g_aload_n (q := 43) 0 X dX12_beats_42 rfl rfl rfl ?_
      obtain ⟨hm80, h⟩ := h
      refine g_getR (q := 46) (r := some 80) 12 3 X hm80 (lt2000 (c := 0) (by decide)) kf_X12_442 (by decide) (by decide) rfl rfl (hK.n (by decide)) dX12_beats_43 rfl ?_
      refine g_getR (q := 49) (r := some 89) 11 22 X (lkM_22 hK (Or.inl rfl) (hK.2.2.2.2.2.2.1 80 hm80 (Or.inl rfl))) (lt2000 (c := 0) (by decide)) kf_X12_331 (by decide) (by decide) rfl rfl (Nat.lt_of_lt_of_le (by decide) (hK.2.2.2.2.2.2.1 80 hm80 (Or.inl rfl))) dX12_beats_46 rfl ?_
      refine g_iload_n (q := 50) 1 X dX12_beats_49 rfl rfl rfl ?_
      obtain ⟨s6, h⟩ := h
      refine g_iald (q := 51) X rfl (Nat.lt_of_lt_of_le (by decide) (hK.2.2.2.2.2.2.1 80 hm80 (Or.inl rfl))) s6 dX12_beats_50 rfl ?_
      refine g_sub (L' := [aR (some 66), aI a1, aI a2, aI a3, aI a4, aI a5, aJ, aI r3, aJ, aJ, aJ, aJ]) ⟨Or.inr rfl, Or.inr rfl, Or.inr rfl, Or.inr rfl, Or.inr rfl, Or.inr rfl, Or.inl rfl, Or.inr rfl, Or.inl rfl, Or.inl rfl, Or.inl rfl, Or.inl rfl, trivial⟩ ?_
      exact cb_X12_beats_51 X hR hK   h
    · have h := h.2 c5
      refine g_iconst (q := 39) 0 X dX12_beats_38 rfl rfl ic_0 ?_
      refine g_goto (q := 51) X dX12_beats_39 (by decide) ?_
      refine g_sub (L' := [aR (some 66), aI a1, aI a2, aI a3, aI a4, aI a5, aJ, aI r3, aJ, aJ, aJ, aJ]) ⟨Or.inr rfl, Or.inr rfl, Or.inr rfl, Or.inr rfl, Or.inr rfl, Or.inr rfl, Or.inl rfl, Or.inr rfl, Or.inl rfl, Or.inl rfl, Or.inl rfl, Or.inl rfl, trivial⟩ ?_
      exact cb_X12_beats_51 X hR hK   h
  · have h := h.2 c4
    refine g_iconst (q := 29) 2 X dX12_beats_28 rfl rfl ic_2 ?_
    refine g_goto (q := 51) X dX12_beats_29 (by decide) ?_
    refine g_sub (L' := [aR (some 66), aI a1, aI a2, aI a3, aI a4, aI a5, aJ, aI r3, aJ, aJ, aJ, aJ]) ⟨Or.inr rfl, Or.inr rfl, Or.inr rfl, Or.inr rfl, Or.inr rfl, Or.inr rfl, Or.inl rfl, Or.inr rfl, Or.inl rfl, Or.inl rfl, Or.inl rfl, Or.inl rfl, trivial⟩ ?_
    exact cb_X12_beats_51 X hR hK   h
def bd_X12_winner_125 (P25 : Int → Int → Int → Int → Int → IV → Prop) (P37 : Int → Int → Int → Int → Int → Int → IV → Prop) (l1 l2 l3 l4 l5 l6 : Int) (iv : IV) (rv : RV) (K : Int → IV → Prop) : Prop :=
  P37 l1 l2 l3 l4 l5 (w32 (l6 + 1)) iv
set_option maxRecDepth 10000 in
theorem cb_X12_winner_125 {Γ : GX} {n : Nat} {iv : IV} {rv : RV} {K : Int → IV → Prop} {P25 : Int → Int → Int → Int → Int → IV → Prop} {P37 : Int → Int → Int → Int → Int → Int → IV → Prop} {l1 l2 l3 l4 l5 l6 : Int} (X : Cx Γ RX12 cX12_winner 8 3) (hR : Rt Γ (some .int) 0 0 (fI1 n rv K)) (hK : Lk n rv)  (hP25 : ∀ (l1' l2' l3' l4' l5' : Int) (iv' : IV), P25 l1' l2' l3' l4' l5' iv' → G Γ 8 25 [aR (some 66), aI (l1'), aI (l2'), aI (l3'), aI (l4'), aI (l5'), aJ, aJ] [] n iv' rv 0 0) (hP37 : ∀ (l1' l2' l3' l4' l5' l6' : Int) (iv' : IV), P37 l1' l2' l3' l4' l5' l6' iv' → G Γ 8 37 [aR (some 66), aI (l1'), aI (l2'), aI (l3'), aI (l4'), aI (l5'), aI (l6'), aJ] [] n iv' rv 0 0) (h : bd_X12_winner_125 P25 P37 l1 l2 l3 l4 l5 l6 iv rv K) : G Γ 8 125 [aR (some 66), aI l1, aI l2, aI l3, aI l4, aI l5, aI l6, aJ] [] n iv rv 0 0 := by
  unfold bd_X12_winner_125 at h
  refine g_iinc (q := 128) 6 (L' := [aR (some 66), aI l1, aI l2, aI l3, aI l4, aI l5, aI (w32 (l6 + 1)), aJ]) X dX12_winner_125 rfl (by decide) rfl rfl rfl ?_
  refine g_goto (q := 37) X dX12_winner_128 (by decide) ?_
  exact hP37 _ _ _ _ _ _ _ h
def bd_X12_winner_102 (P25 : Int → Int → Int → Int → Int → IV → Prop) (P37 : Int → Int → Int → Int → Int → Int → IV → Prop) (l1 l2 l3 l4 l5 l6 l7 : Int) (iv : IV) (rv : RV) (K : Int → IV → Prop) : Prop :=
  (0 ≤ l5 ∧ l5 < 8) ∧ wp_X12_beats l7 (iv 71 l5.toNat) l1 l2 l3 iv rv (fun r2 => ((r2 = 0) → (bd_X12_winner_125 P25 P37 l1 l2 l3 l4 l5 l6 iv rv K)) ∧ ((¬ (r2 = 0)) → (bd_X12_winner_125 P25 P37 l1 l2 l3 l7 l5 l6 iv rv K)))
set_option maxRecDepth 10000 in
theorem cb_X12_winner_102 {Γ : GX} {n : Nat} {iv : IV} {rv : RV} {K : Int → IV → Prop} {P25 : Int → Int → Int → Int → Int → IV → Prop} {P37 : Int → Int → Int → Int → Int → Int → IV → Prop} {l1 l2 l3 l4 l5 l6 l7 : Int} (X : Cx Γ RX12 cX12_winner 8 3) (hR : Rt Γ (some .int) 0 0 (fI1 n rv K)) (hK : Lk n rv)  (hP25 : ∀ (l1' l2' l3' l4' l5' : Int) (iv' : IV), P25 l1' l2' l3' l4' l5' iv' → G Γ 8 25 [aR (some 66), aI (l1'), aI (l2'), aI (l3'), aI (l4'), aI (l5'), aJ, aJ] [] n iv' rv 0 0) (hP37 : ∀ (l1' l2' l3' l4' l5' l6' : Int) (iv' : IV), P37 l1' l2' l3' l4' l5' l6' iv' → G Γ 8 37 [aR (some 66), aI (l1'), aI (l2'), aI (l3'), aI (l4'), aI (l5'), aI (l6'), aJ] [] n iv' rv 0 0) (h : bd_X12_winner_102 P25 P37 l1 l2 l3 l4 l5 l6 l7 iv rv K) : G Γ 8 102 [aR (some 66), aI l1, aI l2, aI l3, aI l4, aI l5, aI l6, aI l7] [] n iv rv 0 0 := by
  unfold bd_X12_winner_102 at h
  refine g_aload_n (q := 103) 0 X dX12_winner_102 rfl rfl rfl ?_
  refine g_iload (q := 105) 7 X dX12_winner_103 rfl rfl ?_
  refine g_aload_n (q := 106) 0 X dX12_winner_105 rfl rfl rfl ?_
  refine g_getR (q := 109) (r := some 71) 12 24 X (lk_66_24 hK) (lt2000 (c := 0) (by decide)) kf_X12_27 (by decide) (by decide) rfl rfl (hK.n (by decide)) dX12_winner_106 rfl ?_
  refine g_iload (q := 111) 5 X dX12_winner_109 rfl rfl ?_
  obtain ⟨s1, h⟩ := h
  refine g_iald (q := 112) X rfl (hK.n (by decide)) s1 dX12_winner_111 rfl ?_
  refine g_iload_n (q := 113) 1 X dX12_winner_112 rfl rfl rfl ?_
  refine g_iload_n (q := 114) 2 X dX12_winner_113 rfl rfl rfl ?_
  refine g_iload_n (q := 115) 3 X dX12_winner_114 rfl rfl rfl ?_
  refine g_cv (q := 118) [aI l7, aI (iv 71 l5.toNat), aI l1, aI l2, aI l3] 12 X (ce_X12_beats hK  h) kV_X12_494 rfl (by decide) rfl (hK.n (by decide)) rfl rfl (Nat.le_of_ble_eq_true rfl) (by decide) dX12_winner_115 rfl (fun r n_ iv_ rv_ hf => ?_)
  obtain ⟨en_, ei_, er_, r2, rfl, br2, h⟩ := hf; subst n_; subst iv_; subst rv_
  refine g_if_eq (q := 121) 125 X dX12_winner_118 (by decide) rfl (fun c3 => ?_) (fun c3 => ?_)
  · have h := h.1 c3
    refine g_sub (L' := [aR (some 66), aI l1, aI l2, aI l3, aI l4, aI l5, aI l6, aJ]) ⟨Or.inr rfl, Or.inr rfl, Or.inr rfl, Or.inr rfl, Or.inr rfl, Or.inr rfl, Or.inr rfl, Or.inl rfl, trivial⟩ ?_
    exact cb_X12_winner_125 X hR hK  hP25 hP37 h
  · have h := h.2 c3
    refine g_iload (q := 123) 7 X dX12_winner_121 rfl rfl ?_
    refine g_istore (q := 125) (k0 := 0) 4 (L' := [aR (some 66), aI l1, aI l2, aI l3, aI l7, aI l5, aI l6, aI l7]) X dX12_winner_123 rfl (by decide) rfl rfl ?_
    refine g_sub (L' := [aR (some 66), aI l1, aI l2, aI l3, aI l7, aI l5, aI l6, aJ]) ⟨Or.inr rfl, Or.inr rfl, Or.inr rfl, Or.inr rfl, Or.inr rfl, Or.inr rfl, Or.inr rfl, Or.inl rfl, trivial⟩ ?_
    exact cb_X12_winner_125 X hR hK  hP25 hP37 h
def bd_X12_winner_37 (P25 : Int → Int → Int → Int → Int → IV → Prop) (P37 : Int → Int → Int → Int → Int → Int → IV → Prop) (l1 l2 l3 l4 l5 l6 : Int) (iv : IV) (rv : RV) (K : Int → IV → Prop) : Prop :=
  (rv 66 3 = some 80) ∧ (((iv 80 6) ≤ l6) → (P25 l1 l2 l3 l4 (w32 (l5 + 1)) iv)) ∧ ((¬ ((iv 80 6) ≤ l6)) → (∀ x2, x2 = w32 (6 + l6) → (0 ≤ x2 ∧ x2 < 16) ∧ (0 ≤ l5 ∧ l5 < 8) ∧ (((iv 87 x2.toNat) ≠ (iv 70 l5.toNat)) → (bd_X12_winner_125 P25 P37 l1 l2 l3 l4 l5 l6 iv rv K)) ∧ (((iv 87 x2.toNat) = (iv 70 l5.toNat)) → (wp_X12_inForce x2 l3 iv rv (fun r6 => ((r6 = 0) → (bd_X12_winner_125 P25 P37 l1 l2 l3 l4 l5 l6 iv rv K)) ∧ ((¬ (r6 = 0)) → (((l4 = (-1)) → (bd_X12_winner_102 P25 P37 l1 l2 l3 l4 l5 l6 x2 iv rv K)) ∧ ((¬ (l4 = (-1))) → (((x2 ≤ l4) → (bd_X12_winner_102 P25 P37 l1 l2 l3 l4 l5 l6 x2 iv rv K)) ∧ ((¬ (x2 ≤ l4)) → (bd_X12_winner_125 P25 P37 l1 l2 l3 l4 l5 l6 iv rv K)))))))))))
set_option maxRecDepth 10000 in
theorem cb_X12_winner_37 {Γ : GX} {n : Nat} {iv : IV} {rv : RV} {K : Int → IV → Prop} {P25 : Int → Int → Int → Int → Int → IV → Prop} {P37 : Int → Int → Int → Int → Int → Int → IV → Prop} {l1 l2 l3 l4 l5 l6 : Int} (X : Cx Γ RX12 cX12_winner 8 3) (hR : Rt Γ (some .int) 0 0 (fI1 n rv K)) (hK : Lk n rv)  (hP25 : ∀ (l1' l2' l3' l4' l5' : Int) (iv' : IV), P25 l1' l2' l3' l4' l5' iv' → G Γ 8 25 [aR (some 66), aI (l1'), aI (l2'), aI (l3'), aI (l4'), aI (l5'), aJ, aJ] [] n iv' rv 0 0) (hP37 : ∀ (l1' l2' l3' l4' l5' l6' : Int) (iv' : IV), P37 l1' l2' l3' l4' l5' l6' iv' → G Γ 8 37 [aR (some 66), aI (l1'), aI (l2'), aI (l3'), aI (l4'), aI (l5'), aI (l6'), aJ] [] n iv' rv 0 0) (h : bd_X12_winner_37 P25 P37 l1 l2 l3 l4 l5 l6 iv rv K) : G Γ 8 37 [aR (some 66), aI l1, aI l2, aI l3, aI l4, aI l5, aI l6, aJ] [] n iv rv 0 0 := by
  unfold bd_X12_winner_37 at h
  refine g_iload (q := 39) 6 X dX12_winner_37 rfl rfl ?_
  refine g_aload_n (q := 40) 0 X dX12_winner_39 rfl rfl rfl ?_
  obtain ⟨hm80, h⟩ := h
  refine g_getR (q := 43) (r := some 80) 12 3 X hm80 (lt2000 (c := 0) (by decide)) kf_X12_442 (by decide) (by decide) rfl rfl (hK.n (by decide)) dX12_winner_40 rfl ?_
  refine g_getI (q := 46) 11 6 X kf_X12_334 (by decide) (by decide) rfl rfl (Nat.lt_of_lt_of_le (by decide) (hK.2.2.2.2.2.2.1 80 hm80 (Or.inl rfl))) dX12_winner_43 rfl ?_
  refine g_icmp_ge (q := 49) 131 X dX12_winner_46 (by decide) rfl (fun c1 => ?_) (fun c1 => ?_)
  · have h := h.1 c1
    refine g_iinc (q := 134) 5 (L' := [aR (some 66), aI l1, aI l2, aI l3, aI l4, aI (w32 (l5 + 1)), aI l6, aJ]) X dX12_winner_131 rfl (by decide) rfl rfl rfl ?_
    refine g_goto (q := 25) X dX12_winner_134 (by decide) ?_
    refine g_sub (L' := [aR (some 66), aI l1, aI l2, aI l3, aI l4, aI (w32 (l5 + 1)), aJ, aJ]) ⟨Or.inr rfl, Or.inr rfl, Or.inr rfl, Or.inr rfl, Or.inr rfl, Or.inr rfl, Or.inl rfl, Or.inl rfl, trivial⟩ ?_
    exact hP25 _ _ _ _ _ _ h
  · have h := h.2 c1
    refine g_bipush (q := 51) 6 X dX12_winner_49 rfl bc_6 ic_6 ?_
    refine g_iload (q := 53) 6 X dX12_winner_51 rfl rfl ?_
    refine g_iadd (q := 54) X dX12_winner_53 rfl ?_
    refine g_nmI (fun x2 ex2 => ?_)
    have h := h x2 ex2
    refine g_istore (q := 56) (k0 := 0) 7 (L' := [aR (some 66), aI l1, aI l2, aI l3, aI l4, aI l5, aI l6, aI x2]) X dX12_winner_54 rfl (by decide) rfl rfl ?_
    refine g_aload_n (q := 57) 0 X dX12_winner_56 rfl rfl rfl ?_
    refine g_getR (q := 60) (r := some 80) 12 3 X hm80 (lt2000 (c := 0) (by decide)) kf_X12_442 (by decide) (by decide) rfl rfl (hK.n (by decide)) dX12_winner_57 rfl ?_
    refine g_getR (q := 63) (r := some 87) 11 20 X (lkM_20 hK (Or.inl rfl) (hK.2.2.2.2.2.2.1 80 hm80 (Or.inl rfl))) (lt2000 (c := 0) (by decide)) kf_X12_327 (by decide) (by decide) rfl rfl (Nat.lt_of_lt_of_le (by decide) (hK.2.2.2.2.2.2.1 80 hm80 (Or.inl rfl))) dX12_winner_60 rfl ?_
    refine g_iload (q := 65) 7 X dX12_winner_63 rfl rfl ?_
    obtain ⟨s3, h⟩ := h
    refine g_iald (q := 66) X rfl (Nat.lt_of_lt_of_le (by decide) (hK.2.2.2.2.2.2.1 80 hm80 (Or.inl rfl))) s3 dX12_winner_65 rfl ?_
    refine g_aload_n (q := 67) 0 X dX12_winner_66 rfl rfl rfl ?_
    refine g_getR (q := 70) (r := some 70) 12 23 X (lk_66_23 hK) (lt2000 (c := 0) (by decide)) kf_X12_24 (by decide) (by decide) rfl rfl (hK.n (by decide)) dX12_winner_67 rfl ?_
    refine g_iload (q := 72) 5 X dX12_winner_70 rfl rfl ?_
    obtain ⟨s4, h⟩ := h
    refine g_iald (q := 73) X rfl (hK.n (by decide)) s4 dX12_winner_72 rfl ?_
    refine g_icmp_ne (q := 76) 125 X dX12_winner_73 (by decide) rfl (fun c5 => ?_) (fun c5 => ?_)
    · have h := h.1 c5
      refine g_sub (L' := [aR (some 66), aI l1, aI l2, aI l3, aI l4, aI l5, aI l6, aJ]) ⟨Or.inr rfl, Or.inr rfl, Or.inr rfl, Or.inr rfl, Or.inr rfl, Or.inr rfl, Or.inr rfl, Or.inl rfl, trivial⟩ ?_
      exact cb_X12_winner_125 X hR hK  hP25 hP37 h
    · have h := h.2 c5
      refine g_aload_n (q := 77) 0 X dX12_winner_76 rfl rfl rfl ?_
      refine g_iload (q := 79) 7 X dX12_winner_77 rfl rfl ?_
      refine g_iload_n (q := 80) 3 X dX12_winner_79 rfl rfl rfl ?_
      refine g_cv (q := 83) [aI x2, aI l3] 12 X (ce_X12_inForce hK  h) kV_X12_478 rfl (by decide) rfl (hK.n (by decide)) rfl rfl (Nat.le_of_ble_eq_true rfl) (by decide) dX12_winner_80 rfl (fun r n_ iv_ rv_ hf => ?_)
      obtain ⟨en_, ei_, er_, r6, rfl, br6, h⟩ := hf; subst n_; subst iv_; subst rv_
      refine g_if_eq (q := 86) 125 X dX12_winner_83 (by decide) rfl (fun c7 => ?_) (fun c7 => ?_)
      · have h := h.1 c7
        refine g_sub (L' := [aR (some 66), aI l1, aI l2, aI l3, aI l4, aI l5, aI l6, aJ]) ⟨Or.inr rfl, Or.inr rfl, Or.inr rfl, Or.inr rfl, Or.inr rfl, Or.inr rfl, Or.inr rfl, Or.inl rfl, trivial⟩ ?_
        exact cb_X12_winner_125 X hR hK  hP25 hP37 h
      · have h := h.2 c7
        refine g_iload (q := 88) 4 X dX12_winner_86 rfl rfl ?_
        refine g_iconst (q := 89) (-1) X dX12_winner_88 rfl rfl ic_m1 ?_
        refine g_icmp_eq (q := 92) 102 X dX12_winner_89 (by decide) rfl (fun c8 => ?_) (fun c8 => ?_)
        · have h := h.1 c8
          exact cb_X12_winner_102 X hR hK  hP25 hP37 h
        · have h := h.2 c8
          refine g_iload (q := 94) 7 X dX12_winner_92 rfl rfl ?_
          refine g_iload (q := 96) 4 X dX12_winner_94 rfl rfl ?_
          refine g_icmp_le (q := 99) 102 X dX12_winner_96 (by decide) rfl (fun c9 => ?_) (fun c9 => ?_)
          · have h := h.1 c9
            exact cb_X12_winner_102 X hR hK  hP25 hP37 h
          · have h := h.2 c9
            refine g_goto (q := 125) X dX12_winner_99 (by decide) ?_
            refine g_sub (L' := [aR (some 66), aI l1, aI l2, aI l3, aI l4, aI l5, aI l6, aJ]) ⟨Or.inr rfl, Or.inr rfl, Or.inr rfl, Or.inr rfl, Or.inr rfl, Or.inr rfl, Or.inr rfl, Or.inl rfl, trivial⟩ ?_
            exact cb_X12_winner_125 X hR hK  hP25 hP37 h
def wl_X12_winner_37 (P25 : Int → Int → Int → Int → Int → IV → Prop) (l1 l2 l3 l4 l5 l6 : Int) (iv : IV) (rv : RV) (K : Int → IV → Prop) : Prop :=
  ∀ P : Int → Int → Int → Int → Int → Int → IV → Prop, (∀ (l1' l2' l3' l4' l5' l6' : Int) (iv' : IV), bd_X12_winner_37 P25 P l1' l2' l3' l4' l5' l6' iv' rv K → P l1' l2' l3' l4' l5' l6' iv') → P l1 l2 l3 l4 l5 l6 iv
theorem cl_X12_winner_37 {Γ : GX} {n : Nat} {iv : IV} {rv : RV} {K : Int → IV → Prop} {P25 : Int → Int → Int → Int → Int → IV → Prop} {l1 l2 l3 l4 l5 l6 : Int} (X : Cx Γ RX12 cX12_winner 8 3) (hR : Rt Γ (some .int) 0 0 (fI1 n rv K)) (hK : Lk n rv)  (hP25 : ∀ (l1' l2' l3' l4' l5' : Int) (iv' : IV), P25 l1' l2' l3' l4' l5' iv' → G Γ 8 25 [aR (some 66), aI (l1'), aI (l2'), aI (l3'), aI (l4'), aI (l5'), aJ, aJ] [] n iv' rv 0 0) (h : wl_X12_winner_37 P25 l1 l2 l3 l4 l5 l6 iv rv K) : G Γ 8 37 [aR (some 66), aI l1, aI l2, aI l3, aI l4, aI l5, aI l6, aJ] [] n iv rv 0 0 := by
  exact h (fun l1' l2' l3' l4' l5' l6' iv' =>  G Γ 8 37 [aR (some 66), aI (l1'), aI (l2'), aI (l3'), aI (l4'), aI (l5'), aI (l6'), aJ] [] n iv' rv 0 0) (fun l1' l2' l3' l4' l5' l6' iv' hb => cb_X12_winner_37 X hR hK  hP25 (fun l1' l2' l3' l4' l5' l6' iv' hp => hp) hb)
def bd_X12_winner_25 (P25 : Int → Int → Int → Int → Int → IV → Prop) (l1 l2 l3 l4 l5 : Int) (iv : IV) (rv : RV) (K : Int → IV → Prop) : Prop :=
  (((iv 66 26) ≤ l5) → (K l4 iv)) ∧ ((¬ ((iv 66 26) ≤ l5)) → (wl_X12_winner_37 P25 l1 l2 l3 l4 l5 0 iv rv K))
set_option maxRecDepth 10000 in
theorem cb_X12_winner_25 {Γ : GX} {n : Nat} {iv : IV} {rv : RV} {K : Int → IV → Prop} {P25 : Int → Int → Int → Int → Int → IV → Prop} {l1 l2 l3 l4 l5 : Int} (X : Cx Γ RX12 cX12_winner 8 3) (hR : Rt Γ (some .int) 0 0 (fI1 n rv K)) (hK : Lk n rv)  (hP25 : ∀ (l1' l2' l3' l4' l5' : Int) (iv' : IV), P25 l1' l2' l3' l4' l5' iv' → G Γ 8 25 [aR (some 66), aI (l1'), aI (l2'), aI (l3'), aI (l4'), aI (l5'), aJ, aJ] [] n iv' rv 0 0) (h : bd_X12_winner_25 P25 l1 l2 l3 l4 l5 iv rv K) : G Γ 8 25 [aR (some 66), aI l1, aI l2, aI l3, aI l4, aI l5, aJ, aJ] [] n iv rv 0 0 := by
  unfold bd_X12_winner_25 at h
  refine g_iload (q := 27) 5 X dX12_winner_25 rfl rfl ?_
  refine g_aload_n (q := 28) 0 X dX12_winner_27 rfl rfl rfl ?_
  refine g_getI (q := 31) 12 26 X kf_X12_475 (by decide) (by decide) rfl rfl (hK.n (by decide)) dX12_winner_28 rfl ?_
  refine g_icmp_ge (q := 34) 137 X dX12_winner_31 (by decide) rfl (fun c1 => ?_) (fun c1 => ?_)
  · have h := h.1 c1
    refine g_iload (q := 139) 4 X dX12_winner_137 rfl rfl ?_
    exact g_iret (q := 0) X hR dX12_winner_139 rfl ⟨rfl, rfl, _, rfl, h⟩
  · have h := h.2 c1
    refine g_iconst (q := 35) 0 X dX12_winner_34 rfl rfl ic_0 ?_
    refine g_istore (q := 37) (k0 := 0) 6 (L' := [aR (some 66), aI l1, aI l2, aI l3, aI l4, aI l5, aI 0, aJ]) X dX12_winner_35 rfl (by decide) rfl rfl ?_
    exact cl_X12_winner_37 X hR hK  hP25 h
def wl_X12_winner_25 (l1 l2 l3 l4 l5 : Int) (iv : IV) (rv : RV) (K : Int → IV → Prop) : Prop :=
  ∀ P : Int → Int → Int → Int → Int → IV → Prop, (∀ (l1' l2' l3' l4' l5' : Int) (iv' : IV), bd_X12_winner_25  P l1' l2' l3' l4' l5' iv' rv K → P l1' l2' l3' l4' l5' iv') → P l1 l2 l3 l4 l5 iv
theorem cl_X12_winner_25 {Γ : GX} {n : Nat} {iv : IV} {rv : RV} {K : Int → IV → Prop} {l1 l2 l3 l4 l5 : Int} (X : Cx Γ RX12 cX12_winner 8 3) (hR : Rt Γ (some .int) 0 0 (fI1 n rv K)) (hK : Lk n rv)  (h : wl_X12_winner_25 l1 l2 l3 l4 l5 iv rv K) : G Γ 8 25 [aR (some 66), aI l1, aI l2, aI l3, aI l4, aI l5, aJ, aJ] [] n iv rv 0 0 := by
  exact h (fun l1' l2' l3' l4' l5' iv' =>  G Γ 8 25 [aR (some 66), aI (l1'), aI (l2'), aI (l3'), aI (l4'), aI (l5'), aJ, aJ] [] n iv' rv 0 0) (fun l1' l2' l3' l4' l5' iv' hb => cb_X12_winner_25 X hR hK   (fun l1' l2' l3' l4' l5' iv' hp => hp) hb)
def wp_X12_winner (a1 : Int) (a2 : Int) (a3 : Int) (iv : IV) (rv : RV) (K : Int → IV → Prop) : Prop :=
  (((iv 66 22) ≤ a3) → (wp_X12_reach (iv 66 21) a3 iv rv (fun iv2 => wl_X12_winner_25 a1 a2 a3 (-1) 0 iv2 rv K))) ∧ ((¬ ((iv 66 22) ≤ a3)) → (K (-1) iv))
set_option maxRecDepth 10000 in
theorem ce_X12_winner {n : Nat} {iv : IV} {rv : RV} {K : Int → IV → Prop} {a1 : Int} {a2 : Int} {a3 : Int} (hK : Lk n rv)  (h : wp_X12_winner a1 a2 a3 iv rv K) : Call 3 0 0 yX12_winner cX12_winner 8 (some .int) [aR (some 66), aI a1, aI a2, aI a3] n iv rv (fI1 n rv K) := by
  refine Call.by (L := [aR (some 66), aI a1, aI a2, aI a3, aJ, aJ, aJ, aJ]) (by decide) rfl ⟨trivial, trivial, trivial, trivial, trivial⟩ rfl (Nat.le_of_ble_eq_true rfl) (fun Γ X hR => ?_)
  unfold wp_X12_winner at h
  refine g_aload_n (q := 1) 0 X dX12_winner_0 rfl rfl rfl ?_
  refine g_getI (q := 4) 12 22 X kf_X12_460 (by decide) (by decide) rfl rfl (hK.n (by decide)) dX12_winner_1 rfl ?_
  refine g_iload_n (q := 5) 3 X dX12_winner_4 rfl rfl rfl ?_
  refine g_icmp_le (q := 8) 10 X dX12_winner_5 (by decide) rfl (fun c1 => ?_) (fun c1 => ?_)
  · have h := h.1 c1
    refine g_aload_n (q := 11) 0 X dX12_winner_10 rfl rfl rfl ?_
    refine g_aload_n (q := 12) 0 X dX12_winner_11 rfl rfl rfl ?_
    refine g_getI (q := 15) 12 21 X kf_X12_457 (by decide) (by decide) rfl rfl (hK.n (by decide)) dX12_winner_12 rfl ?_
    refine g_iload_n (q := 16) 3 X dX12_winner_15 rfl rfl rfl ?_
    refine g_cv (q := 19) [aI (iv 66 21), aI a3] 12 X (ce_X12_reach hK  h) kV_X12_491 rfl (by decide) rfl (hK.n (by decide)) rfl rfl (Nat.le_of_ble_eq_true rfl) (by decide) dX12_winner_16 rfl (fun r n_ iv_ rv_ hf => ?_)
    obtain ⟨en_, er_, rfl, h⟩ := hf; subst n_; subst rv_
    generalize iv_ = iv2 at h ⊢
    refine g_iconst (q := 20) (-1) X dX12_winner_19 rfl rfl ic_m1 ?_
    refine g_istore (q := 22) (k0 := 0) 4 (L' := [aR (some 66), aI a1, aI a2, aI a3, aI (-1), aJ, aJ, aJ]) X dX12_winner_20 rfl (by decide) rfl rfl ?_
    refine g_iconst (q := 23) 0 X dX12_winner_22 rfl rfl ic_0 ?_
    refine g_istore (q := 25) (k0 := 0) 5 (L' := [aR (some 66), aI a1, aI a2, aI a3, aI (-1), aI 0, aJ, aJ]) X dX12_winner_23 rfl (by decide) rfl rfl ?_
    exact cl_X12_winner_25 X hR hK   h
  · have h := h.2 c1
    refine g_iconst (q := 9) (-1) X dX12_winner_8 rfl rfl ic_m1 ?_
    exact g_iret (q := 0) X hR dX12_winner_9 rfl ⟨rfl, rfl, _, rfl, h⟩
def bd_X12_owed_145 (P6 : Int → Int → Int → Int → Int → IV → Prop) (l1 l2 l3 l4 l5 : Int) (iv : IV) (rv : RV) (K : Int → IV → Prop) : Prop :=
  P6 l1 l2 l3 l4 (w32 (l5 + 1)) iv
set_option maxRecDepth 10000 in
theorem cb_X12_owed_145 {Γ : GX} {n : Nat} {iv : IV} {rv : RV} {K : Int → IV → Prop} {P6 : Int → Int → Int → Int → Int → IV → Prop} {l1 l2 l3 l4 l5 : Int} (X : Cx Γ RX12 cX12_owed 7 4) (hR : Rt Γ (some .int) 0 0 (fI1 n rv K)) (hK : Lk n rv)  (hP6 : ∀ (l1' l2' l3' l4' l5' : Int) (iv' : IV), P6 l1' l2' l3' l4' l5' iv' → G Γ 7 6 [aR (some 66), aI (l1'), aI (l2'), aI (l3'), aI (l4'), aI (l5'), aJ] [] n iv' rv 0 0) (h : bd_X12_owed_145 P6 l1 l2 l3 l4 l5 iv rv K) : G Γ 7 145 [aR (some 66), aI l1, aI l2, aI l3, aI l4, aI l5, aJ] [] n iv rv 0 0 := by
  unfold bd_X12_owed_145 at h
  refine g_iinc (q := 148) 5 (L' := [aR (some 66), aI l1, aI l2, aI l3, aI l4, aI (w32 (l5 + 1)), aJ]) X dX12_owed_145 rfl (by decide) rfl rfl rfl ?_
  refine g_goto (q := 6) X dX12_owed_148 (by decide) ?_
  exact hP6 _ _ _ _ _ _ h
def bd_X12_owed_132 (P6 : Int → Int → Int → Int → Int → IV → Prop) (l1 l2 l3 l5 t0 t1 : Int) (iv : IV) (rv : RV) (K : Int → IV → Prop) : Prop :=
  (rv 66 3 = some 80) ∧ (0 ≤ l1 ∧ l1 < 6) ∧ ∀ x2, x2 = w32 (t1 + (w32 (t0 * (iv 103 l1.toNat)))) → bd_X12_owed_145 P6 l1 l2 l3 x2 l5 iv rv K
set_option maxRecDepth 10000 in
theorem cb_X12_owed_132 {Γ : GX} {n : Nat} {iv : IV} {rv : RV} {K : Int → IV → Prop} {P6 : Int → Int → Int → Int → Int → IV → Prop} {l1 l2 l3 l5 t0 t1 : Int} (X : Cx Γ RX12 cX12_owed 7 4) (hR : Rt Γ (some .int) 0 0 (fI1 n rv K)) (hK : Lk n rv)  (hP6 : ∀ (l1' l2' l3' l4' l5' : Int) (iv' : IV), P6 l1' l2' l3' l4' l5' iv' → G Γ 7 6 [aR (some 66), aI (l1'), aI (l2'), aI (l3'), aI (l4'), aI (l5'), aJ] [] n iv' rv 0 0) (h : bd_X12_owed_132 P6 l1 l2 l3 l5 t0 t1 iv rv K) : G Γ 7 132 [aR (some 66), aI l1, aI l2, aI l3, aJ, aI l5, aJ] [aI t0, aI t1] n iv rv 0 0 := by
  unfold bd_X12_owed_132 at h
  refine g_aload_n (q := 133) 0 X dX12_owed_132 rfl rfl rfl ?_
  obtain ⟨hm80, h⟩ := h
  refine g_getR (q := 136) (r := some 80) 12 3 X hm80 (lt2000 (c := 0) (by decide)) kf_X12_442 (by decide) (by decide) rfl rfl (hK.n (by decide)) dX12_owed_133 rfl ?_
  refine g_getR (q := 139) (r := some 103) 11 36 X (lkM_36 hK (Or.inl rfl) (hK.2.2.2.2.2.2.1 80 hm80 (Or.inl rfl))) (lt2000 (c := 0) (by decide)) kf_X12_423 (by decide) (by decide) rfl rfl (Nat.lt_of_lt_of_le (by decide) (hK.2.2.2.2.2.2.1 80 hm80 (Or.inl rfl))) dX12_owed_136 rfl ?_
  refine g_iload_n (q := 140) 1 X dX12_owed_139 rfl rfl rfl ?_
  obtain ⟨s1, h⟩ := h
  refine g_iald (q := 141) X rfl (Nat.lt_of_lt_of_le (by decide) (hK.2.2.2.2.2.2.1 80 hm80 (Or.inl rfl))) s1 dX12_owed_140 rfl ?_
  refine g_imul (q := 142) X dX12_owed_141 rfl ?_
  refine g_iadd (q := 143) X dX12_owed_142 rfl ?_
  refine g_nmI (fun x2 ex2 => ?_)
  have h := h x2 ex2
  refine g_istore (q := 145) (k0 := 0) 4 (L' := [aR (some 66), aI l1, aI l2, aI l3, aI x2, aI l5, aJ]) X dX12_owed_143 rfl (by decide) rfl rfl ?_
  exact cb_X12_owed_145 X hR hK  hP6 h
def bd_X12_owed_75 (P6 : Int → Int → Int → Int → Int → IV → Prop) (l1 l2 l3 l4 l5 : Int) (iv : IV) (rv : RV) (K : Int → IV → Prop) : Prop :=
  wp_X12_winner l5 l1 l3 iv rv (fun r1 iv2 => ((r1 = (-1)) → (wp_X12_renewalOf l5 l3 iv2 rv (fun r4 => wp_X12_howOf r4 iv2 rv (fun r5 => ((r5 ≠ 2) → ((rv 66 3 = some 80) ∧ (0 ≤ l5 ∧ l5 < 16) ∧ bd_X12_owed_132 P6 l1 l2 l3 l5 (iv2 89 l5.toNat) l4 iv2 rv K)) ∧ ((r5 = 2) → ((rv 66 3 = some 80) ∧ (0 ≤ l5 ∧ l5 < 16) ∧ bd_X12_owed_132 P6 l1 l2 l3 l5 (w32 (Int.tdiv (iv2 89 l5.toNat) 2)) l4 iv2 rv K)))))) ∧ ((¬ (r1 = (-1))) → (bd_X12_owed_145 P6 l1 l2 l3 l4 l5 iv2 rv K)))
set_option maxRecDepth 10000 in
theorem cb_X12_owed_75 {Γ : GX} {n : Nat} {iv : IV} {rv : RV} {K : Int → IV → Prop} {P6 : Int → Int → Int → Int → Int → IV → Prop} {l1 l2 l3 l4 l5 : Int} (X : Cx Γ RX12 cX12_owed 7 4) (hR : Rt Γ (some .int) 0 0 (fI1 n rv K)) (hK : Lk n rv)  (hP6 : ∀ (l1' l2' l3' l4' l5' : Int) (iv' : IV), P6 l1' l2' l3' l4' l5' iv' → G Γ 7 6 [aR (some 66), aI (l1'), aI (l2'), aI (l3'), aI (l4'), aI (l5'), aJ] [] n iv' rv 0 0) (h : bd_X12_owed_75 P6 l1 l2 l3 l4 l5 iv rv K) : G Γ 7 75 [aR (some 66), aI l1, aI l2, aI l3, aI l4, aI l5, aJ] [] n iv rv 0 0 := by
  unfold bd_X12_owed_75 at h
  refine g_aload_n (q := 76) 0 X dX12_owed_75 rfl rfl rfl ?_
  refine g_iload (q := 78) 5 X dX12_owed_76 rfl rfl ?_
  refine g_iload_n (q := 79) 1 X dX12_owed_78 rfl rfl rfl ?_
  refine g_iload_n (q := 80) 3 X dX12_owed_79 rfl rfl rfl ?_
  refine g_cv (q := 83) [aI l5, aI l1, aI l3] 12 X (ce_X12_winner hK  h) kV_X12_498 rfl (by decide) rfl (hK.n (by decide)) rfl rfl (Nat.le_of_ble_eq_true rfl) (by decide) dX12_owed_80 rfl (fun r n_ iv_ rv_ hf => ?_)
  obtain ⟨en_, er_, r1, rfl, h⟩ := hf; subst n_; subst rv_
  generalize iv_ = iv2 at h ⊢
  refine g_iconst (q := 84) (-1) X dX12_owed_83 rfl rfl ic_m1 ?_
  refine g_icmp_eq (q := 87) 90 X dX12_owed_84 (by decide) rfl (fun c3 => ?_) (fun c3 => ?_)
  · have h := h.1 c3
    refine g_iload (q := 92) 4 X dX12_owed_90 rfl rfl ?_
    refine g_aload_n (q := 93) 0 X dX12_owed_92 rfl rfl rfl ?_
    refine g_aload_n (q := 94) 0 X dX12_owed_93 rfl rfl rfl ?_
    refine g_iload (q := 96) 5 X dX12_owed_94 rfl rfl ?_
    refine g_iload_n (q := 97) 3 X dX12_owed_96 rfl rfl rfl ?_
    refine g_cv (q := 100) [aI l5, aI l3] 12 X (ce_X12_renewalOf hK  h) kV_X12_469 rfl (by decide) rfl (hK.n (by decide)) rfl rfl (Nat.le_of_ble_eq_true rfl) (by decide) dX12_owed_97 rfl (fun r n_ iv_ rv_ hf => ?_)
    obtain ⟨en_, ei_, er_, r4, rfl, h⟩ := hf; subst n_; subst iv_; subst rv_
    refine g_cv (q := 103) [aI r4] 12 X (ce_X12_howOf hK  h) kV_X12_472 rfl (by decide) rfl (hK.n (by decide)) rfl rfl (Nat.le_of_ble_eq_true rfl) (by decide) dX12_owed_100 rfl (fun r n_ iv_ rv_ hf => ?_)
    obtain ⟨en_, ei_, er_, r5, rfl, h⟩ := hf; subst n_; subst iv_; subst rv_
    refine g_iconst (q := 104) 2 X dX12_owed_103 rfl rfl ic_2 ?_
    refine g_icmp_ne (q := 107) 122 X dX12_owed_104 (by decide) rfl (fun c6 => ?_) (fun c6 => ?_)
    · have h := h.1 c6
      refine g_aload_n (q := 123) 0 X dX12_owed_122 rfl rfl rfl ?_
      obtain ⟨hm80, h⟩ := h
      refine g_getR (q := 126) (r := some 80) 12 3 X hm80 (lt2000 (c := 0) (by decide)) kf_X12_442 (by decide) (by decide) rfl rfl (hK.n (by decide)) dX12_owed_123 rfl ?_
      refine g_getR (q := 129) (r := some 89) 11 22 X (lkM_22 hK (Or.inl rfl) (hK.2.2.2.2.2.2.1 80 hm80 (Or.inl rfl))) (lt2000 (c := 0) (by decide)) kf_X12_331 (by decide) (by decide) rfl rfl (Nat.lt_of_lt_of_le (by decide) (hK.2.2.2.2.2.2.1 80 hm80 (Or.inl rfl))) dX12_owed_126 rfl ?_
      refine g_iload (q := 131) 5 X dX12_owed_129 rfl rfl ?_
      obtain ⟨s7, h⟩ := h
      refine g_iald (q := 132) X rfl (Nat.lt_of_lt_of_le (by decide) (hK.2.2.2.2.2.2.1 80 hm80 (Or.inl rfl))) s7 dX12_owed_131 rfl ?_
      refine g_sub (L' := [aR (some 66), aI l1, aI l2, aI l3, aJ, aI l5, aJ]) ⟨Or.inr rfl, Or.inr rfl, Or.inr rfl, Or.inr rfl, Or.inl rfl, Or.inr rfl, Or.inl rfl, trivial⟩ ?_
      exact cb_X12_owed_132 X hR hK  hP6 h
    · have h := h.2 c6
      refine g_aload_n (q := 108) 0 X dX12_owed_107 rfl rfl rfl ?_
      obtain ⟨hm80, h⟩ := h
      refine g_getR (q := 111) (r := some 80) 12 3 X hm80 (lt2000 (c := 0) (by decide)) kf_X12_442 (by decide) (by decide) rfl rfl (hK.n (by decide)) dX12_owed_108 rfl ?_
      refine g_getR (q := 114) (r := some 89) 11 22 X (lkM_22 hK (Or.inl rfl) (hK.2.2.2.2.2.2.1 80 hm80 (Or.inl rfl))) (lt2000 (c := 0) (by decide)) kf_X12_331 (by decide) (by decide) rfl rfl (Nat.lt_of_lt_of_le (by decide) (hK.2.2.2.2.2.2.1 80 hm80 (Or.inl rfl))) dX12_owed_111 rfl ?_
      refine g_iload (q := 116) 5 X dX12_owed_114 rfl rfl ?_
      obtain ⟨s8, h⟩ := h
      refine g_iald (q := 117) X rfl (Nat.lt_of_lt_of_le (by decide) (hK.2.2.2.2.2.2.1 80 hm80 (Or.inl rfl))) s8 dX12_owed_116 rfl ?_
      refine g_iconst (q := 118) 2 X dX12_owed_117 rfl rfl ic_2 ?_
      refine g_idiv (q := 119) X (by decide) dX12_owed_118 rfl ?_
      refine g_goto (q := 132) X dX12_owed_119 (by decide) ?_
      refine g_sub (L' := [aR (some 66), aI l1, aI l2, aI l3, aJ, aI l5, aJ]) ⟨Or.inr rfl, Or.inr rfl, Or.inr rfl, Or.inr rfl, Or.inl rfl, Or.inr rfl, Or.inl rfl, trivial⟩ ?_
      exact cb_X12_owed_132 X hR hK  hP6 h
  · have h := h.2 c3
    refine g_goto (q := 145) X dX12_owed_87 (by decide) ?_
    exact cb_X12_owed_145 X hR hK  hP6 h
def bd_X12_owed_6 (P6 : Int → Int → Int → Int → Int → IV → Prop) (l1 l2 l3 l4 l5 : Int) (iv : IV) (rv : RV) (K : Int → IV → Prop) : Prop :=
  (rv 66 3 = some 80) ∧ (((iv 80 5) ≤ l5) → (K l4 iv)) ∧ ((¬ ((iv 80 5) ≤ l5)) → ((0 ≤ l5 ∧ l5 < 16) ∧ (((iv 87 l5.toNat) ≠ l2) → (bd_X12_owed_145 P6 l1 l2 l3 l4 l5 iv rv K)) ∧ (((iv 87 l5.toNat) = l2) → (wp_X12_inForce l5 l3 iv rv (fun r4 => ((r4 ≠ 0) → (wp_X12_goodsOf l5 l3 iv rv (fun r6 => ((r6 = (-2)) → (bd_X12_owed_75 P6 l1 l2 l3 l4 l5 iv rv K)) ∧ ((¬ (r6 = (-2))) → ((0 ≤ l1 ∧ l1 < 6) ∧ ((r6 ≠ (iv 101 l1.toNat)) → (bd_X12_owed_145 P6 l1 l2 l3 l4 l5 iv rv K)) ∧ ((r6 = (iv 101 l1.toNat)) → (bd_X12_owed_75 P6 l1 l2 l3 l4 l5 iv rv K))))))) ∧ ((r4 = 0) → (bd_X12_owed_145 P6 l1 l2 l3 l4 l5 iv rv K)))))))
set_option maxRecDepth 10000 in
theorem cb_X12_owed_6 {Γ : GX} {n : Nat} {iv : IV} {rv : RV} {K : Int → IV → Prop} {P6 : Int → Int → Int → Int → Int → IV → Prop} {l1 l2 l3 l4 l5 : Int} (X : Cx Γ RX12 cX12_owed 7 4) (hR : Rt Γ (some .int) 0 0 (fI1 n rv K)) (hK : Lk n rv)  (hP6 : ∀ (l1' l2' l3' l4' l5' : Int) (iv' : IV), P6 l1' l2' l3' l4' l5' iv' → G Γ 7 6 [aR (some 66), aI (l1'), aI (l2'), aI (l3'), aI (l4'), aI (l5'), aJ] [] n iv' rv 0 0) (h : bd_X12_owed_6 P6 l1 l2 l3 l4 l5 iv rv K) : G Γ 7 6 [aR (some 66), aI l1, aI l2, aI l3, aI l4, aI l5, aJ] [] n iv rv 0 0 := by
  unfold bd_X12_owed_6 at h
  refine g_iload (q := 8) 5 X dX12_owed_6 rfl rfl ?_
  refine g_aload_n (q := 9) 0 X dX12_owed_8 rfl rfl rfl ?_
  obtain ⟨hm80, h⟩ := h
  refine g_getR (q := 12) (r := some 80) 12 3 X hm80 (lt2000 (c := 0) (by decide)) kf_X12_442 (by decide) (by decide) rfl rfl (hK.n (by decide)) dX12_owed_9 rfl ?_
  refine g_getI (q := 15) 11 5 X kf_X12_313 (by decide) (by decide) rfl rfl (Nat.lt_of_lt_of_le (by decide) (hK.2.2.2.2.2.2.1 80 hm80 (Or.inl rfl))) dX12_owed_12 rfl ?_
  refine g_icmp_ge (q := 18) 151 X dX12_owed_15 (by decide) rfl (fun c1 => ?_) (fun c1 => ?_)
  · have h := h.1 c1
    refine g_iload (q := 153) 4 X dX12_owed_151 rfl rfl ?_
    exact g_iret (q := 0) X hR dX12_owed_153 rfl ⟨rfl, rfl, _, rfl, h⟩
  · have h := h.2 c1
    refine g_aload_n (q := 19) 0 X dX12_owed_18 rfl rfl rfl ?_
    refine g_getR (q := 22) (r := some 80) 12 3 X hm80 (lt2000 (c := 0) (by decide)) kf_X12_442 (by decide) (by decide) rfl rfl (hK.n (by decide)) dX12_owed_19 rfl ?_
    refine g_getR (q := 25) (r := some 87) 11 20 X (lkM_20 hK (Or.inl rfl) (hK.2.2.2.2.2.2.1 80 hm80 (Or.inl rfl))) (lt2000 (c := 0) (by decide)) kf_X12_327 (by decide) (by decide) rfl rfl (Nat.lt_of_lt_of_le (by decide) (hK.2.2.2.2.2.2.1 80 hm80 (Or.inl rfl))) dX12_owed_22 rfl ?_
    refine g_iload (q := 27) 5 X dX12_owed_25 rfl rfl ?_
    obtain ⟨s2, h⟩ := h
    refine g_iald (q := 28) X rfl (Nat.lt_of_lt_of_le (by decide) (hK.2.2.2.2.2.2.1 80 hm80 (Or.inl rfl))) s2 dX12_owed_27 rfl ?_
    refine g_iload_n (q := 29) 2 X dX12_owed_28 rfl rfl rfl ?_
    refine g_icmp_ne (q := 32) 145 X dX12_owed_29 (by decide) rfl (fun c3 => ?_) (fun c3 => ?_)
    · have h := h.1 c3
      exact cb_X12_owed_145 X hR hK  hP6 h
    · have h := h.2 c3
      refine g_aload_n (q := 33) 0 X dX12_owed_32 rfl rfl rfl ?_
      refine g_iload (q := 35) 5 X dX12_owed_33 rfl rfl ?_
      refine g_iload_n (q := 36) 3 X dX12_owed_35 rfl rfl rfl ?_
      refine g_cv (q := 39) [aI l5, aI l3] 12 X (ce_X12_inForce hK  h) kV_X12_478 rfl (by decide) rfl (hK.n (by decide)) rfl rfl (Nat.le_of_ble_eq_true rfl) (by decide) dX12_owed_36 rfl (fun r n_ iv_ rv_ hf => ?_)
      obtain ⟨en_, ei_, er_, r4, rfl, br4, h⟩ := hf; subst n_; subst iv_; subst rv_
      refine g_if_ne (q := 42) 45 X dX12_owed_39 (by decide) rfl (fun c5 => ?_) (fun c5 => ?_)
      · have h := h.1 c5
        refine g_aload_n (q := 46) 0 X dX12_owed_45 rfl rfl rfl ?_
        refine g_iload (q := 48) 5 X dX12_owed_46 rfl rfl ?_
        refine g_iload_n (q := 49) 3 X dX12_owed_48 rfl rfl rfl ?_
        refine g_cv (q := 52) [aI l5, aI l3] 12 X (ce_X12_goodsOf hK  h) kV_X12_485 rfl (by decide) rfl (hK.n (by decide)) rfl rfl (Nat.le_of_ble_eq_true rfl) (by decide) dX12_owed_49 rfl (fun r n_ iv_ rv_ hf => ?_)
        obtain ⟨en_, ei_, er_, r6, rfl, h⟩ := hf; subst n_; subst iv_; subst rv_
        refine g_istore (q := 54) (k0 := 0) 6 (L' := [aR (some 66), aI l1, aI l2, aI l3, aI l4, aI l5, aI r6]) X dX12_owed_52 rfl (by decide) rfl rfl ?_
        refine g_iload (q := 56) 6 X dX12_owed_54 rfl rfl ?_
        refine g_bipush (q := 58) (-2) X dX12_owed_56 rfl bc_m2 ic_m2 ?_
        refine g_icmp_eq (q := 61) 75 X dX12_owed_58 (by decide) rfl (fun c7 => ?_) (fun c7 => ?_)
        · have h := h.1 c7
          refine g_sub (L' := [aR (some 66), aI l1, aI l2, aI l3, aI l4, aI l5, aJ]) ⟨Or.inr rfl, Or.inr rfl, Or.inr rfl, Or.inr rfl, Or.inr rfl, Or.inr rfl, Or.inl rfl, trivial⟩ ?_
          exact cb_X12_owed_75 X hR hK  hP6 h
        · have h := h.2 c7
          refine g_iload (q := 63) 6 X dX12_owed_61 rfl rfl ?_
          refine g_aload_n (q := 64) 0 X dX12_owed_63 rfl rfl rfl ?_
          refine g_getR (q := 67) (r := some 80) 12 3 X hm80 (lt2000 (c := 0) (by decide)) kf_X12_442 (by decide) (by decide) rfl rfl (hK.n (by decide)) dX12_owed_64 rfl ?_
          refine g_getR (q := 70) (r := some 101) 11 34 X (lkM_34 hK (Or.inl rfl) (hK.2.2.2.2.2.2.1 80 hm80 (Or.inl rfl))) (lt2000 (c := 0) (by decide)) kf_X12_417 (by decide) (by decide) rfl rfl (Nat.lt_of_lt_of_le (by decide) (hK.2.2.2.2.2.2.1 80 hm80 (Or.inl rfl))) dX12_owed_67 rfl ?_
          refine g_iload_n (q := 71) 1 X dX12_owed_70 rfl rfl rfl ?_
          obtain ⟨s8, h⟩ := h
          refine g_iald (q := 72) X rfl (Nat.lt_of_lt_of_le (by decide) (hK.2.2.2.2.2.2.1 80 hm80 (Or.inl rfl))) s8 dX12_owed_71 rfl ?_
          refine g_icmp_ne (q := 75) 145 X dX12_owed_72 (by decide) rfl (fun c9 => ?_) (fun c9 => ?_)
          · have h := h.1 c9
            refine g_sub (L' := [aR (some 66), aI l1, aI l2, aI l3, aI l4, aI l5, aJ]) ⟨Or.inr rfl, Or.inr rfl, Or.inr rfl, Or.inr rfl, Or.inr rfl, Or.inr rfl, Or.inl rfl, trivial⟩ ?_
            exact cb_X12_owed_145 X hR hK  hP6 h
          · have h := h.2 c9
            refine g_sub (L' := [aR (some 66), aI l1, aI l2, aI l3, aI l4, aI l5, aJ]) ⟨Or.inr rfl, Or.inr rfl, Or.inr rfl, Or.inr rfl, Or.inr rfl, Or.inr rfl, Or.inl rfl, trivial⟩ ?_
            exact cb_X12_owed_75 X hR hK  hP6 h
      · have h := h.2 c5
        refine g_goto (q := 145) X dX12_owed_42 (by decide) ?_
        exact cb_X12_owed_145 X hR hK  hP6 h
def wl_X12_owed_6 (l1 l2 l3 l4 l5 : Int) (iv : IV) (rv : RV) (K : Int → IV → Prop) : Prop :=
  ∀ P : Int → Int → Int → Int → Int → IV → Prop, (∀ (l1' l2' l3' l4' l5' : Int) (iv' : IV), bd_X12_owed_6  P l1' l2' l3' l4' l5' iv' rv K → P l1' l2' l3' l4' l5' iv') → P l1 l2 l3 l4 l5 iv
theorem cl_X12_owed_6 {Γ : GX} {n : Nat} {iv : IV} {rv : RV} {K : Int → IV → Prop} {l1 l2 l3 l4 l5 : Int} (X : Cx Γ RX12 cX12_owed 7 4) (hR : Rt Γ (some .int) 0 0 (fI1 n rv K)) (hK : Lk n rv)  (h : wl_X12_owed_6 l1 l2 l3 l4 l5 iv rv K) : G Γ 7 6 [aR (some 66), aI l1, aI l2, aI l3, aI l4, aI l5, aJ] [] n iv rv 0 0 := by
  exact h (fun l1' l2' l3' l4' l5' iv' =>  G Γ 7 6 [aR (some 66), aI (l1'), aI (l2'), aI (l3'), aI (l4'), aI (l5'), aJ] [] n iv' rv 0 0) (fun l1' l2' l3' l4' l5' iv' hb => cb_X12_owed_6 X hR hK   (fun l1' l2' l3' l4' l5' iv' hp => hp) hb)
def wp_X12_owed (a1 : Int) (a2 : Int) (a3 : Int) (iv : IV) (rv : RV) (K : Int → IV → Prop) : Prop :=
  wl_X12_owed_6 a1 a2 a3 0 0 iv rv K
set_option maxRecDepth 10000 in
theorem ce_X12_owed {n : Nat} {iv : IV} {rv : RV} {K : Int → IV → Prop} {a1 : Int} {a2 : Int} {a3 : Int} (hK : Lk n rv)  (h : wp_X12_owed a1 a2 a3 iv rv K) : Call 4 0 0 yX12_owed cX12_owed 7 (some .int) [aR (some 66), aI a1, aI a2, aI a3] n iv rv (fI1 n rv K) := by
  refine Call.by (L := [aR (some 66), aI a1, aI a2, aI a3, aJ, aJ, aJ]) (by decide) rfl ⟨trivial, trivial, trivial, trivial, trivial⟩ rfl (Nat.le_of_ble_eq_true rfl) (fun Γ X hR => ?_)
  unfold wp_X12_owed at h
  refine g_iconst (q := 1) 0 X dX12_owed_0 rfl rfl ic_0 ?_
  refine g_istore (q := 3) (k0 := 0) 4 (L' := [aR (some 66), aI a1, aI a2, aI a3, aI 0, aJ, aJ]) X dX12_owed_1 rfl (by decide) rfl rfl ?_
  refine g_iconst (q := 4) 0 X dX12_owed_3 rfl rfl ic_0 ?_
  refine g_istore (q := 6) (k0 := 0) 5 (L' := [aR (some 66), aI a1, aI a2, aI a3, aI 0, aI 0, aJ]) X dX12_owed_4 rfl (by decide) rfl rfl ?_
  exact cl_X12_owed_6 X hR hK   h
def wp_X12_isCart (a1 : Int) (iv : IV) (rv : RV) (K : Int → Prop) : Prop :=
  (∀ z, rv 66 3 = some z → z = 80) ∧ ((rv 66 3 = none) → (K 0)) ∧ ((¬ (rv 66 3 = none)) → (((a1 < 0) → (K 0)) ∧ ((¬ (a1 < 0)) → ((rv 66 3 = some 80) ∧ (((iv 80 11) ≤ a1) → (K 0)) ∧ ((¬ ((iv 80 11) ≤ a1)) → (K 1))))))
set_option maxRecDepth 10000 in
theorem ce_X12_isCart {n : Nat} {iv : IV} {rv : RV} {K : Int → Prop} {a1 : Int} (hK : Lk n rv)  (h : wp_X12_isCart a1 iv rv K) : Call 0 0 0 yX12_isCart cX12_isCart 2 (some .boolean) [aR (some 66), aI a1] n iv rv (fB0 n iv rv K) := by
  refine Call.by (L := [aR (some 66), aI a1]) (by decide) rfl ⟨trivial, trivial, trivial⟩ rfl (Nat.le_of_ble_eq_true rfl) (fun Γ X hR => ?_)
  unfold wp_X12_isCart at h
  refine g_aload_n (q := 1) 0 X dX12_isCart_0 rfl rfl rfl ?_
  obtain ⟨s1, h⟩ := h
  refine g_getR (q := 4) (r := rv 66 3) 12 3 X rfl (fun z hz => by rw [s1 z hz]; decide) kf_X12_442 (by decide) (by decide) rfl rfl (hK.n (by decide)) dX12_isCart_1 rfl ?_
  refine g_ifnull (q := 7) 26 X dX12_isCart_4 (by decide) rfl (fun c2 => ?_) (fun c2 => ?_)
  · have h := h.1 c2
    refine g_iconst (q := 27) 0 X dX12_isCart_26 rfl rfl ic_0 ?_
    exact g_zret (q := 0) .boolean X hR (nar_B (Or.inl rfl)) dX12_isCart_27 rfl ⟨rfl, rfl, rfl, _, rfl, (Or.inl rfl), h⟩
  · have h := h.2 c2
    refine g_iload_n (q := 8) 1 X dX12_isCart_7 rfl rfl rfl ?_
    refine g_if_lt (q := 11) 26 X dX12_isCart_8 (by decide) rfl (fun c3 => ?_) (fun c3 => ?_)
    · have h := h.1 c3
      refine g_iconst (q := 27) 0 X dX12_isCart_26 rfl rfl ic_0 ?_
      exact g_zret (q := 0) .boolean X hR (nar_B (Or.inl rfl)) dX12_isCart_27 rfl ⟨rfl, rfl, rfl, _, rfl, (Or.inl rfl), h⟩
    · have h := h.2 c3
      refine g_iload_n (q := 12) 1 X dX12_isCart_11 rfl rfl rfl ?_
      refine g_aload_n (q := 13) 0 X dX12_isCart_12 rfl rfl rfl ?_
      obtain ⟨hm80, h⟩ := h
      refine g_getR (q := 16) (r := some 80) 12 3 X hm80 (lt2000 (c := 0) (by decide)) kf_X12_442 (by decide) (by decide) rfl rfl (hK.n (by decide)) dX12_isCart_13 rfl ?_
      refine g_getI (q := 19) 11 11 X kf_X12_405 (by decide) (by decide) rfl rfl (Nat.lt_of_lt_of_le (by decide) (hK.2.2.2.2.2.2.1 80 hm80 (Or.inl rfl))) dX12_isCart_16 rfl ?_
      refine g_icmp_ge (q := 22) 26 X dX12_isCart_19 (by decide) rfl (fun c4 => ?_) (fun c4 => ?_)
      · have h := h.1 c4
        refine g_iconst (q := 27) 0 X dX12_isCart_26 rfl rfl ic_0 ?_
        exact g_zret (q := 0) .boolean X hR (nar_B (Or.inl rfl)) dX12_isCart_27 rfl ⟨rfl, rfl, rfl, _, rfl, (Or.inl rfl), h⟩
      · have h := h.2 c4
        refine g_iconst (q := 23) 1 X dX12_isCart_22 rfl rfl ic_1 ?_
        refine g_goto (q := 27) X dX12_isCart_23 (by decide) ?_
        exact g_zret (q := 0) .boolean X hR (nar_B (Or.inr rfl)) dX12_isCart_27 rfl ⟨rfl, rfl, rfl, _, rfl, (Or.inr rfl), h⟩
def wp_X12_isLaw (a1 : Int) (iv : IV) (rv : RV) (K : Int → Prop) : Prop :=
  (∀ z, rv 66 3 = some z → z = 80) ∧ ((rv 66 3 = none) → (K 0)) ∧ ((¬ (rv 66 3 = none)) → (((a1 < 0) → (K 0)) ∧ ((¬ (a1 < 0)) → ((rv 66 3 = some 80) ∧ (((iv 80 10) ≤ a1) → (K 0)) ∧ ((¬ ((iv 80 10) ≤ a1)) → (K 1))))))
set_option maxRecDepth 10000 in
theorem ce_X12_isLaw {n : Nat} {iv : IV} {rv : RV} {K : Int → Prop} {a1 : Int} (hK : Lk n rv)  (h : wp_X12_isLaw a1 iv rv K) : Call 0 0 0 yX12_isLaw cX12_isLaw 2 (some .boolean) [aR (some 66), aI a1] n iv rv (fB0 n iv rv K) := by
  refine Call.by (L := [aR (some 66), aI a1]) (by decide) rfl ⟨trivial, trivial, trivial⟩ rfl (Nat.le_of_ble_eq_true rfl) (fun Γ X hR => ?_)
  unfold wp_X12_isLaw at h
  refine g_aload_n (q := 1) 0 X dX12_isLaw_0 rfl rfl rfl ?_
  obtain ⟨s1, h⟩ := h
  refine g_getR (q := 4) (r := rv 66 3) 12 3 X rfl (fun z hz => by rw [s1 z hz]; decide) kf_X12_442 (by decide) (by decide) rfl rfl (hK.n (by decide)) dX12_isLaw_1 rfl ?_
  refine g_ifnull (q := 7) 26 X dX12_isLaw_4 (by decide) rfl (fun c2 => ?_) (fun c2 => ?_)
  · have h := h.1 c2
    refine g_iconst (q := 27) 0 X dX12_isLaw_26 rfl rfl ic_0 ?_
    exact g_zret (q := 0) .boolean X hR (nar_B (Or.inl rfl)) dX12_isLaw_27 rfl ⟨rfl, rfl, rfl, _, rfl, (Or.inl rfl), h⟩
  · have h := h.2 c2
    refine g_iload_n (q := 8) 1 X dX12_isLaw_7 rfl rfl rfl ?_
    refine g_if_lt (q := 11) 26 X dX12_isLaw_8 (by decide) rfl (fun c3 => ?_) (fun c3 => ?_)
    · have h := h.1 c3
      refine g_iconst (q := 27) 0 X dX12_isLaw_26 rfl rfl ic_0 ?_
      exact g_zret (q := 0) .boolean X hR (nar_B (Or.inl rfl)) dX12_isLaw_27 rfl ⟨rfl, rfl, rfl, _, rfl, (Or.inl rfl), h⟩
    · have h := h.2 c3
      refine g_iload_n (q := 12) 1 X dX12_isLaw_11 rfl rfl rfl ?_
      refine g_aload_n (q := 13) 0 X dX12_isLaw_12 rfl rfl rfl ?_
      obtain ⟨hm80, h⟩ := h
      refine g_getR (q := 16) (r := some 80) 12 3 X hm80 (lt2000 (c := 0) (by decide)) kf_X12_442 (by decide) (by decide) rfl rfl (hK.n (by decide)) dX12_isLaw_13 rfl ?_
      refine g_getI (q := 19) 11 10 X kf_X12_199 (by decide) (by decide) rfl rfl (Nat.lt_of_lt_of_le (by decide) (hK.2.2.2.2.2.2.1 80 hm80 (Or.inl rfl))) dX12_isLaw_16 rfl ?_
      refine g_icmp_ge (q := 22) 26 X dX12_isLaw_19 (by decide) rfl (fun c4 => ?_) (fun c4 => ?_)
      · have h := h.1 c4
        refine g_iconst (q := 27) 0 X dX12_isLaw_26 rfl rfl ic_0 ?_
        exact g_zret (q := 0) .boolean X hR (nar_B (Or.inl rfl)) dX12_isLaw_27 rfl ⟨rfl, rfl, rfl, _, rfl, (Or.inl rfl), h⟩
      · have h := h.2 c4
        refine g_iconst (q := 23) 1 X dX12_isLaw_22 rfl rfl ic_1 ?_
        refine g_goto (q := 27) X dX12_isLaw_23 (by decide) ?_
        exact g_zret (q := 0) .boolean X hR (nar_B (Or.inr rfl)) dX12_isLaw_27 rfl ⟨rfl, rfl, rfl, _, rfl, (Or.inr rfl), h⟩
def wp_X12_isBridge (a1 : Int) (iv : IV) (rv : RV) (K : Int → Prop) : Prop :=
  (∀ z, rv 66 3 = some z → z = 80) ∧ ((rv 66 3 = none) → (K 0)) ∧ ((¬ (rv 66 3 = none)) → (((a1 < 0) → (K 0)) ∧ ((¬ (a1 < 0)) → ((rv 66 3 = some 80) ∧ (((iv 80 4) ≤ a1) → (K 0)) ∧ ((¬ ((iv 80 4) ≤ a1)) → (K 1))))))
set_option maxRecDepth 10000 in
theorem ce_X12_isBridge {n : Nat} {iv : IV} {rv : RV} {K : Int → Prop} {a1 : Int} (hK : Lk n rv)  (h : wp_X12_isBridge a1 iv rv K) : Call 0 0 0 yX12_isBridge cX12_isBridge 2 (some .boolean) [aR (some 66), aI a1] n iv rv (fB0 n iv rv K) := by
  refine Call.by (L := [aR (some 66), aI a1]) (by decide) rfl ⟨trivial, trivial, trivial⟩ rfl (Nat.le_of_ble_eq_true rfl) (fun Γ X hR => ?_)
  unfold wp_X12_isBridge at h
  refine g_aload_n (q := 1) 0 X dX12_isBridge_0 rfl rfl rfl ?_
  obtain ⟨s1, h⟩ := h
  refine g_getR (q := 4) (r := rv 66 3) 12 3 X rfl (fun z hz => by rw [s1 z hz]; decide) kf_X12_442 (by decide) (by decide) rfl rfl (hK.n (by decide)) dX12_isBridge_1 rfl ?_
  refine g_ifnull (q := 7) 26 X dX12_isBridge_4 (by decide) rfl (fun c2 => ?_) (fun c2 => ?_)
  · have h := h.1 c2
    refine g_iconst (q := 27) 0 X dX12_isBridge_26 rfl rfl ic_0 ?_
    exact g_zret (q := 0) .boolean X hR (nar_B (Or.inl rfl)) dX12_isBridge_27 rfl ⟨rfl, rfl, rfl, _, rfl, (Or.inl rfl), h⟩
  · have h := h.2 c2
    refine g_iload_n (q := 8) 1 X dX12_isBridge_7 rfl rfl rfl ?_
    refine g_if_lt (q := 11) 26 X dX12_isBridge_8 (by decide) rfl (fun c3 => ?_) (fun c3 => ?_)
    · have h := h.1 c3
      refine g_iconst (q := 27) 0 X dX12_isBridge_26 rfl rfl ic_0 ?_
      exact g_zret (q := 0) .boolean X hR (nar_B (Or.inl rfl)) dX12_isBridge_27 rfl ⟨rfl, rfl, rfl, _, rfl, (Or.inl rfl), h⟩
    · have h := h.2 c3
      refine g_iload_n (q := 12) 1 X dX12_isBridge_11 rfl rfl rfl ?_
      refine g_aload_n (q := 13) 0 X dX12_isBridge_12 rfl rfl rfl ?_
      obtain ⟨hm80, h⟩ := h
      refine g_getR (q := 16) (r := some 80) 12 3 X hm80 (lt2000 (c := 0) (by decide)) kf_X12_442 (by decide) (by decide) rfl rfl (hK.n (by decide)) dX12_isBridge_13 rfl ?_
      refine g_getI (q := 19) 11 4 X kf_X12_297 (by decide) (by decide) rfl rfl (Nat.lt_of_lt_of_le (by decide) (hK.2.2.2.2.2.2.1 80 hm80 (Or.inl rfl))) dX12_isBridge_16 rfl ?_
      refine g_icmp_ge (q := 22) 26 X dX12_isBridge_19 (by decide) rfl (fun c4 => ?_) (fun c4 => ?_)
      · have h := h.1 c4
        refine g_iconst (q := 27) 0 X dX12_isBridge_26 rfl rfl ic_0 ?_
        exact g_zret (q := 0) .boolean X hR (nar_B (Or.inl rfl)) dX12_isBridge_27 rfl ⟨rfl, rfl, rfl, _, rfl, (Or.inl rfl), h⟩
      · have h := h.2 c4
        refine g_iconst (q := 23) 1 X dX12_isBridge_22 rfl rfl ic_1 ?_
        refine g_goto (q := 27) X dX12_isBridge_23 (by decide) ?_
        exact g_zret (q := 0) .boolean X hR (nar_B (Or.inr rfl)) dX12_isBridge_27 rfl ⟨rfl, rfl, rfl, _, rfl, (Or.inr rfl), h⟩
def wp_X12_isPlace (a1 : Int) (iv : IV) (rv : RV) (K : Int → Prop) : Prop :=
  (∀ z, rv 66 3 = some z → z = 80) ∧ ((rv 66 3 = none) → (K 0)) ∧ ((¬ (rv 66 3 = none)) → (((a1 < 0) → (K 0)) ∧ ((¬ (a1 < 0)) → ((rv 66 3 = some 80) ∧ (((iv 80 0) ≤ a1) → (K 0)) ∧ ((¬ ((iv 80 0) ≤ a1)) → (K 1))))))
set_option maxRecDepth 10000 in
theorem ce_X12_isPlace {n : Nat} {iv : IV} {rv : RV} {K : Int → Prop} {a1 : Int} (hK : Lk n rv)  (h : wp_X12_isPlace a1 iv rv K) : Call 0 0 0 yX12_isPlace cX12_isPlace 2 (some .boolean) [aR (some 66), aI a1] n iv rv (fB0 n iv rv K) := by
  refine Call.by (L := [aR (some 66), aI a1]) (by decide) rfl ⟨trivial, trivial, trivial⟩ rfl (Nat.le_of_ble_eq_true rfl) (fun Γ X hR => ?_)
  unfold wp_X12_isPlace at h
  refine g_aload_n (q := 1) 0 X dX12_isPlace_0 rfl rfl rfl ?_
  obtain ⟨s1, h⟩ := h
  refine g_getR (q := 4) (r := rv 66 3) 12 3 X rfl (fun z hz => by rw [s1 z hz]; decide) kf_X12_442 (by decide) (by decide) rfl rfl (hK.n (by decide)) dX12_isPlace_1 rfl ?_
  refine g_ifnull (q := 7) 26 X dX12_isPlace_4 (by decide) rfl (fun c2 => ?_) (fun c2 => ?_)
  · have h := h.1 c2
    refine g_iconst (q := 27) 0 X dX12_isPlace_26 rfl rfl ic_0 ?_
    exact g_zret (q := 0) .boolean X hR (nar_B (Or.inl rfl)) dX12_isPlace_27 rfl ⟨rfl, rfl, rfl, _, rfl, (Or.inl rfl), h⟩
  · have h := h.2 c2
    refine g_iload_n (q := 8) 1 X dX12_isPlace_7 rfl rfl rfl ?_
    refine g_if_lt (q := 11) 26 X dX12_isPlace_8 (by decide) rfl (fun c3 => ?_) (fun c3 => ?_)
    · have h := h.1 c3
      refine g_iconst (q := 27) 0 X dX12_isPlace_26 rfl rfl ic_0 ?_
      exact g_zret (q := 0) .boolean X hR (nar_B (Or.inl rfl)) dX12_isPlace_27 rfl ⟨rfl, rfl, rfl, _, rfl, (Or.inl rfl), h⟩
    · have h := h.2 c3
      refine g_iload_n (q := 12) 1 X dX12_isPlace_11 rfl rfl rfl ?_
      refine g_aload_n (q := 13) 0 X dX12_isPlace_12 rfl rfl rfl ?_
      obtain ⟨hm80, h⟩ := h
      refine g_getR (q := 16) (r := some 80) 12 3 X hm80 (lt2000 (c := 0) (by decide)) kf_X12_442 (by decide) (by decide) rfl rfl (hK.n (by decide)) dX12_isPlace_13 rfl ?_
      refine g_getI (q := 19) 11 0 X kf_X12_196 (by decide) (by decide) rfl rfl (Nat.lt_of_lt_of_le (by decide) (hK.2.2.2.2.2.2.1 80 hm80 (Or.inl rfl))) dX12_isPlace_16 rfl ?_
      refine g_icmp_ge (q := 22) 26 X dX12_isPlace_19 (by decide) rfl (fun c4 => ?_) (fun c4 => ?_)
      · have h := h.1 c4
        refine g_iconst (q := 27) 0 X dX12_isPlace_26 rfl rfl ic_0 ?_
        exact g_zret (q := 0) .boolean X hR (nar_B (Or.inl rfl)) dX12_isPlace_27 rfl ⟨rfl, rfl, rfl, _, rfl, (Or.inl rfl), h⟩
      · have h := h.2 c4
        refine g_iconst (q := 23) 1 X dX12_isPlace_22 rfl rfl ic_1 ?_
        refine g_goto (q := 27) X dX12_isPlace_23 (by decide) ?_
        exact g_zret (q := 0) .boolean X hR (nar_B (Or.inr rfl)) dX12_isPlace_27 rfl ⟨rfl, rfl, rfl, _, rfl, (Or.inr rfl), h⟩
def wp_X12_isGrant (a1 : Int) (iv : IV) (rv : RV) (K : Int → Prop) : Prop :=
  (∀ z, rv 66 3 = some z → z = 80) ∧ ((rv 66 3 = none) → (K 0)) ∧ ((¬ (rv 66 3 = none)) → ((rv 66 3 = some 80) ∧ wp_X11_isGrant 80 a1 iv rv (fun r3 => ((r3 = 0) → (K 0)) ∧ ((¬ (r3 = 0)) → (K 1)))))
set_option maxRecDepth 10000 in
theorem ce_X12_isGrant {n : Nat} {iv : IV} {rv : RV} {K : Int → Prop} {a1 : Int} (hK : Lk n rv)  (h : wp_X12_isGrant a1 iv rv K) : Call 1 0 0 yX12_isGrant cX12_isGrant 2 (some .boolean) [aR (some 66), aI a1] n iv rv (fB0 n iv rv K) := by
  refine Call.by (L := [aR (some 66), aI a1]) (by decide) rfl ⟨trivial, trivial, trivial⟩ rfl (Nat.le_of_ble_eq_true rfl) (fun Γ X hR => ?_)
  unfold wp_X12_isGrant at h
  refine g_aload_n (q := 1) 0 X dX12_isGrant_0 rfl rfl rfl ?_
  obtain ⟨s1, h⟩ := h
  refine g_getR (q := 4) (r := rv 66 3) 12 3 X rfl (fun z hz => by rw [s1 z hz]; decide) kf_X12_442 (by decide) (by decide) rfl rfl (hK.n (by decide)) dX12_isGrant_1 rfl ?_
  refine g_ifnull (q := 7) 22 X dX12_isGrant_4 (by decide) rfl (fun c2 => ?_) (fun c2 => ?_)
  · have h := h.1 c2
    refine g_iconst (q := 23) 0 X dX12_isGrant_22 rfl rfl ic_0 ?_
    exact g_zret (q := 0) .boolean X hR (nar_B (Or.inl rfl)) dX12_isGrant_23 rfl ⟨rfl, rfl, rfl, _, rfl, (Or.inl rfl), h⟩
  · have h := h.2 c2
    refine g_aload_n (q := 8) 0 X dX12_isGrant_7 rfl rfl rfl ?_
    obtain ⟨hm80, h⟩ := h
    refine g_getR (q := 11) (r := some 80) 12 3 X hm80 (lt2000 (c := 0) (by decide)) kf_X12_442 (by decide) (by decide) rfl rfl (hK.n (by decide)) dX12_isGrant_8 rfl ?_
    refine g_iload_n (q := 12) 1 X dX12_isGrant_11 rfl rfl rfl ?_
    refine g_cv (q := 15) [aI a1] 11 X (ce_X11_isGrant hK (Or.inl rfl) (hK.2.2.2.2.2.2.1 80 hm80 (Or.inl rfl)) h) kV_X12_502 rfl (by decide) rfl (Nat.lt_of_lt_of_le (by decide) (hK.2.2.2.2.2.2.1 80 hm80 (Or.inl rfl))) rfl rfl (Nat.le_of_ble_eq_true rfl) (by decide) dX12_isGrant_12 rfl (fun r n_ iv_ rv_ hf => ?_)
    obtain ⟨en_, ei_, er_, r3, rfl, br3, h⟩ := hf; subst n_; subst iv_; subst rv_
    refine g_if_eq (q := 18) 22 X dX12_isGrant_15 (by decide) rfl (fun c4 => ?_) (fun c4 => ?_)
    · have h := h.1 c4
      refine g_iconst (q := 23) 0 X dX12_isGrant_22 rfl rfl ic_0 ?_
      exact g_zret (q := 0) .boolean X hR (nar_B (Or.inl rfl)) dX12_isGrant_23 rfl ⟨rfl, rfl, rfl, _, rfl, (Or.inl rfl), h⟩
    · have h := h.2 c4
      refine g_iconst (q := 19) 1 X dX12_isGrant_18 rfl rfl ic_1 ?_
      refine g_goto (q := 23) X dX12_isGrant_19 (by decide) ?_
      exact g_zret (q := 0) .boolean X hR (nar_B (Or.inr rfl)) dX12_isGrant_23 rfl ⟨rfl, rfl, rfl, _, rfl, (Or.inr rfl), h⟩
def bd_X12_refusesOwes_25 (iv : IV) (rv : RV) (K : Int → Prop) : Prop :=
  K 1
set_option maxRecDepth 10000 in
theorem cb_X12_refusesOwes_25 {Γ : GX} {n : Nat} {iv : IV} {rv : RV} {K : Int → Prop} (X : Cx Γ RX12 cX12_refusesOwes 5 1) (hR : Rt Γ (some .int) 0 0 (fI0 n iv rv K)) (hK : Lk n rv)  (h : bd_X12_refusesOwes_25 iv rv K) : G Γ 5 25 [aJ, aJ, aJ, aJ, aJ] [] n iv rv 0 0 := by
  unfold bd_X12_refusesOwes_25 at h
  refine g_iconst (q := 26) 1 X dX12_refusesOwes_25 rfl rfl ic_1 ?_
  refine g_goto (q := 45) X dX12_refusesOwes_26 (by decide) ?_
  exact g_iret (q := 0) X hR dX12_refusesOwes_45 rfl ⟨rfl, rfl, rfl, _, rfl, h⟩
def wp_X12_refusesOwes (a1 : Int) (a2 : Int) (a3 : Int) (a4 : Int) (iv : IV) (rv : RV) (K : Int → Prop) : Prop :=
  wp_X12_isCart a1 iv rv (fun r1 => ((r1 = 0) → (bd_X12_refusesOwes_25 iv rv K)) ∧ ((¬ (r1 = 0)) → (wp_X12_isBridge a2 iv rv (fun r3 => ((r3 = 0) → (bd_X12_refusesOwes_25 iv rv K)) ∧ ((¬ (r3 = 0)) → (wp_X12_isLaw a4 iv rv (fun r5 => ((r5 ≠ 0) → (wp_X12_in a3 0 999 iv rv (fun r7 => ((r7 = 0) → (K 2)) ∧ ((¬ (r7 = 0)) → (K 0))))) ∧ ((r5 = 0) → (bd_X12_refusesOwes_25 iv rv K)))))))))
set_option maxRecDepth 10000 in
theorem ce_X12_refusesOwes {n : Nat} {iv : IV} {rv : RV} {K : Int → Prop} {a1 : Int} {a2 : Int} {a3 : Int} {a4 : Int} (hK : Lk n rv)  (h : wp_X12_refusesOwes a1 a2 a3 a4 iv rv K) : Call 1 0 0 yX12_refusesOwes cX12_refusesOwes 5 (some .int) [aR (some 66), aI a1, aI a2, aI a3, aI a4] n iv rv (fI0 n iv rv K) := by
  refine Call.by (L := [aR (some 66), aI a1, aI a2, aI a3, aI a4]) (by decide) rfl ⟨trivial, trivial, trivial, trivial, trivial, trivial⟩ rfl (Nat.le_of_ble_eq_true rfl) (fun Γ X hR => ?_)
  unfold wp_X12_refusesOwes at h
  refine g_aload_n (q := 1) 0 X dX12_refusesOwes_0 rfl rfl rfl ?_
  refine g_iload_n (q := 2) 1 X dX12_refusesOwes_1 rfl rfl rfl ?_
  refine g_cv (q := 5) [aI a1] 12 X (ce_X12_isCart hK  h) kV_X12_505 rfl (by decide) rfl (hK.n (by decide)) rfl rfl (Nat.le_of_ble_eq_true rfl) (by decide) dX12_refusesOwes_2 rfl (fun r n_ iv_ rv_ hf => ?_)
  obtain ⟨en_, ei_, er_, r1, rfl, br1, h⟩ := hf; subst n_; subst iv_; subst rv_
  refine g_if_eq (q := 8) 25 X dX12_refusesOwes_5 (by decide) rfl (fun c2 => ?_) (fun c2 => ?_)
  · have h := h.1 c2
    refine g_sub (L' := [aJ, aJ, aJ, aJ, aJ]) ⟨Or.inl rfl, Or.inl rfl, Or.inl rfl, Or.inl rfl, Or.inl rfl, trivial⟩ ?_
    exact cb_X12_refusesOwes_25 X hR hK   h
  · have h := h.2 c2
    refine g_aload_n (q := 9) 0 X dX12_refusesOwes_8 rfl rfl rfl ?_
    refine g_iload_n (q := 10) 2 X dX12_refusesOwes_9 rfl rfl rfl ?_
    refine g_cv (q := 13) [aI a2] 12 X (ce_X12_isBridge hK  h) kV_X12_508 rfl (by decide) rfl (hK.n (by decide)) rfl rfl (Nat.le_of_ble_eq_true rfl) (by decide) dX12_refusesOwes_10 rfl (fun r n_ iv_ rv_ hf => ?_)
    obtain ⟨en_, ei_, er_, r3, rfl, br3, h⟩ := hf; subst n_; subst iv_; subst rv_
    refine g_if_eq (q := 16) 25 X dX12_refusesOwes_13 (by decide) rfl (fun c4 => ?_) (fun c4 => ?_)
    · have h := h.1 c4
      refine g_sub (L' := [aJ, aJ, aJ, aJ, aJ]) ⟨Or.inl rfl, Or.inl rfl, Or.inl rfl, Or.inl rfl, Or.inl rfl, trivial⟩ ?_
      exact cb_X12_refusesOwes_25 X hR hK   h
    · have h := h.2 c4
      refine g_aload_n (q := 17) 0 X dX12_refusesOwes_16 rfl rfl rfl ?_
      refine g_iload (q := 19) 4 X dX12_refusesOwes_17 rfl rfl ?_
      refine g_cv (q := 22) [aI a4] 12 X (ce_X12_isLaw hK  h) kV_X12_511 rfl (by decide) rfl (hK.n (by decide)) rfl rfl (Nat.le_of_ble_eq_true rfl) (by decide) dX12_refusesOwes_19 rfl (fun r n_ iv_ rv_ hf => ?_)
      obtain ⟨en_, ei_, er_, r5, rfl, br5, h⟩ := hf; subst n_; subst iv_; subst rv_
      refine g_if_ne (q := 25) 29 X dX12_refusesOwes_22 (by decide) rfl (fun c6 => ?_) (fun c6 => ?_)
      · have h := h.1 c6
        refine g_iload_n (q := 30) 3 X dX12_refusesOwes_29 rfl rfl rfl ?_
        refine g_iconst (q := 31) 0 X dX12_refusesOwes_30 rfl rfl ic_0 ?_
        refine g_sipush (q := 34) 999 X dX12_refusesOwes_31 rfl sc_999 ic_999 ?_
        refine g_cs (q := 37) [aI a3, aI 0, aI 999] X (ce_X12_in hK  h) kS_X12_130 rfl rfl (Nat.le_of_ble_eq_true rfl) (by decide) dX12_refusesOwes_34 rfl (fun r n_ iv_ rv_ hf => ?_)
        obtain ⟨en_, ei_, er_, r7, rfl, br7, h⟩ := hf; subst n_; subst iv_; subst rv_
        refine g_if_eq (q := 40) 44 X dX12_refusesOwes_37 (by decide) rfl (fun c8 => ?_) (fun c8 => ?_)
        · have h := h.1 c8
          refine g_iconst (q := 45) 2 X dX12_refusesOwes_44 rfl rfl ic_2 ?_
          exact g_iret (q := 0) X hR dX12_refusesOwes_45 rfl ⟨rfl, rfl, rfl, _, rfl, h⟩
        · have h := h.2 c8
          refine g_iconst (q := 41) 0 X dX12_refusesOwes_40 rfl rfl ic_0 ?_
          refine g_goto (q := 45) X dX12_refusesOwes_41 (by decide) ?_
          exact g_iret (q := 0) X hR dX12_refusesOwes_45 rfl ⟨rfl, rfl, rfl, _, rfl, h⟩
      · have h := h.2 c6
        refine g_sub (L' := [aJ, aJ, aJ, aJ, aJ]) ⟨Or.inl rfl, Or.inl rfl, Or.inl rfl, Or.inl rfl, Or.inl rfl, trivial⟩ ?_
        exact cb_X12_refusesOwes_25 X hR hK   h
def wp_X12_laysFor (a1 : Int) (a2 : Int) (iv : IV) (rv : RV) (K : IV → Prop) : Prop :=
  wp_X12_lays a2 iv rv (fun iv1 => (rv 66 3 = some 80) ∧ (0 ≤ a1 ∧ a1 < 6) ∧ wp_X12_names (iv1 100 a1.toNat) iv1 rv (fun iv3 => K iv3))
set_option maxRecDepth 10000 in
theorem ce_X12_laysFor {n : Nat} {iv : IV} {rv : RV} {K : IV → Prop} {a1 : Int} {a2 : Int} (hK : Lk n rv)  (h : wp_X12_laysFor a1 a2 iv rv K) : Call 1 0 0 yX12_laysFor cX12_laysFor 3 none [aR (some 66), aI a1, aI a2] n iv rv (fV1 n rv K) := by
  refine Call.by (L := [aR (some 66), aI a1, aI a2]) (by decide) rfl ⟨trivial, trivial, trivial, trivial⟩ rfl (Nat.le_of_ble_eq_true rfl) (fun Γ X hR => ?_)
  unfold wp_X12_laysFor at h
  refine g_aload_n (q := 1) 0 X dX12_laysFor_0 rfl rfl rfl ?_
  refine g_iload_n (q := 2) 2 X dX12_laysFor_1 rfl rfl rfl ?_
  refine g_cv (q := 5) [aI a2] 12 X (ce_X12_lays hK  h) kV_X12_514 rfl (by decide) rfl (hK.n (by decide)) rfl rfl (Nat.le_of_ble_eq_true rfl) (by decide) dX12_laysFor_2 rfl (fun r n_ iv_ rv_ hf => ?_)
  obtain ⟨en_, er_, rfl, h⟩ := hf; subst n_; subst rv_
  generalize iv_ = iv1 at h ⊢
  refine g_aload_n (q := 6) 0 X dX12_laysFor_5 rfl rfl rfl ?_
  refine g_aload_n (q := 7) 0 X dX12_laysFor_6 rfl rfl rfl ?_
  obtain ⟨hm80, h⟩ := h
  refine g_getR (q := 10) (r := some 80) 12 3 X hm80 (lt2000 (c := 0) (by decide)) kf_X12_442 (by decide) (by decide) rfl rfl (hK.n (by decide)) dX12_laysFor_7 rfl ?_
  refine g_getR (q := 13) (r := some 100) 11 33 X (lkM_33 hK (Or.inl rfl) (hK.2.2.2.2.2.2.1 80 hm80 (Or.inl rfl))) (lt2000 (c := 0) (by decide)) kf_X12_414 (by decide) (by decide) rfl rfl (Nat.lt_of_lt_of_le (by decide) (hK.2.2.2.2.2.2.1 80 hm80 (Or.inl rfl))) dX12_laysFor_10 rfl ?_
  refine g_iload_n (q := 14) 1 X dX12_laysFor_13 rfl rfl rfl ?_
  obtain ⟨s2, h⟩ := h
  refine g_iald (q := 15) X rfl (Nat.lt_of_lt_of_le (by decide) (hK.2.2.2.2.2.2.1 80 hm80 (Or.inl rfl))) s2 dX12_laysFor_14 rfl ?_
  refine g_cv (q := 18) [aI (iv1 100 a1.toNat)] 12 X (ce_X12_names hK  h) kV_X12_517 rfl (by decide) rfl (hK.n (by decide)) rfl rfl (Nat.le_of_ble_eq_true rfl) (by decide) dX12_laysFor_15 rfl (fun r n_ iv_ rv_ hf => ?_)
  obtain ⟨en_, er_, rfl, h⟩ := hf; subst n_; subst rv_
  generalize iv_ = iv3 at h ⊢
  exact g_vret (q := 0) X hR dX12_laysFor_18 rfl ⟨rfl, rfl, rfl, h⟩
def wp_X12_owes (a1 : Int) (a2 : Int) (a3 : Int) (a4 : Int) (iv : IV) (rv : RV) (K : Int → IV → Prop) : Prop :=
  ∀ iv1, iv1 = w2 iv 66 0 0 → wp_X12_refusesOwes a1 a2 a3 a4 iv1 rv (fun r2 => ((r2 ≤ 0) → (wp_X12_laysFor a1 a4 iv1 rv (fun iv4 => wp_X12_owed a1 a2 a3 iv4 rv (fun r5 iv6 => wp_X12_done r5 iv6 rv (fun r7 iv8 => K r7 iv8))))) ∧ ((¬ (r2 ≤ 0)) → (wp_X12_refused r2 iv1 rv (fun r9 iv10 => K r9 iv10))))
set_option maxRecDepth 10000 in
theorem ce_X12_owes {n : Nat} {iv : IV} {rv : RV} {K : Int → IV → Prop} {a1 : Int} {a2 : Int} {a3 : Int} {a4 : Int} (hK : Lk n rv)  (h : wp_X12_owes a1 a2 a3 a4 iv rv K) : Call 5 0 0 yX12_owes cX12_owes 6 (some .int) [aR (some 66), aI a1, aI a2, aI a3, aI a4] n iv rv (fI1 n rv K) := by
  refine Call.by (L := [aR (some 66), aI a1, aI a2, aI a3, aI a4, aJ]) (by decide) rfl ⟨trivial, trivial, trivial, trivial, trivial, trivial⟩ rfl (Nat.le_of_ble_eq_true rfl) (fun Γ X hR => ?_)
  unfold wp_X12_owes at h
  refine g_aload_n (q := 1) 0 X dX12_owes_0 rfl rfl rfl ?_
  refine g_iconst (q := 2) 0 X dX12_owes_1 rfl rfl ic_0 ?_
  refine g_putI (q := 5) 12 0 X (Or.inl rfl) rfl kf_X12_54 (by decide) (by decide) rfl (hK.n (by decide)) dX12_owes_2 rfl ?_
  refine g_nmM (fun iv1 eiv1 => ?_)
  have h := h iv1 eiv1
  refine g_aload_n (q := 6) 0 X dX12_owes_5 rfl rfl rfl ?_
  refine g_iload_n (q := 7) 1 X dX12_owes_6 rfl rfl rfl ?_
  refine g_iload_n (q := 8) 2 X dX12_owes_7 rfl rfl rfl ?_
  refine g_iload_n (q := 9) 3 X dX12_owes_8 rfl rfl rfl ?_
  refine g_iload (q := 11) 4 X dX12_owes_9 rfl rfl ?_
  refine g_cv (q := 14) [aI a1, aI a2, aI a3, aI a4] 12 X (ce_X12_refusesOwes hK  h) kV_X12_519 rfl (by decide) rfl (hK.n (by decide)) rfl rfl (Nat.le_of_ble_eq_true rfl) (by decide) dX12_owes_11 rfl (fun r n_ iv_ rv_ hf => ?_)
  obtain ⟨en_, ei_, er_, r2, rfl, h⟩ := hf; subst n_; subst iv_; subst rv_
  refine g_istore (q := 16) (k0 := 0) 5 (L' := [aR (some 66), aI a1, aI a2, aI a3, aI a4, aI r2]) X dX12_owes_14 rfl (by decide) rfl rfl ?_
  refine g_iload (q := 18) 5 X dX12_owes_16 rfl rfl ?_
  refine g_if_le (q := 21) 28 X dX12_owes_18 (by decide) rfl (fun c3 => ?_) (fun c3 => ?_)
  · have h := h.1 c3
    refine g_aload_n (q := 29) 0 X dX12_owes_28 rfl rfl rfl ?_
    refine g_iload_n (q := 30) 1 X dX12_owes_29 rfl rfl rfl ?_
    refine g_iload (q := 32) 4 X dX12_owes_30 rfl rfl ?_
    refine g_cv (q := 35) [aI a1, aI a4] 12 X (ce_X12_laysFor hK  h) kV_X12_523 rfl (by decide) rfl (hK.n (by decide)) rfl rfl (Nat.le_of_ble_eq_true rfl) (by decide) dX12_owes_32 rfl (fun r n_ iv_ rv_ hf => ?_)
    obtain ⟨en_, er_, rfl, h⟩ := hf; subst n_; subst rv_
    generalize iv_ = iv4 at h ⊢
    refine g_aload_n (q := 36) 0 X dX12_owes_35 rfl rfl rfl ?_
    refine g_aload_n (q := 37) 0 X dX12_owes_36 rfl rfl rfl ?_
    refine g_iload_n (q := 38) 1 X dX12_owes_37 rfl rfl rfl ?_
    refine g_iload_n (q := 39) 2 X dX12_owes_38 rfl rfl rfl ?_
    refine g_iload_n (q := 40) 3 X dX12_owes_39 rfl rfl rfl ?_
    refine g_cv (q := 43) [aI a1, aI a2, aI a3] 12 X (ce_X12_owed hK  h) kV_X12_526 rfl (by decide) rfl (hK.n (by decide)) rfl rfl (Nat.le_of_ble_eq_true rfl) (by decide) dX12_owes_40 rfl (fun r n_ iv_ rv_ hf => ?_)
    obtain ⟨en_, er_, r5, rfl, h⟩ := hf; subst n_; subst rv_
    generalize iv_ = iv6 at h ⊢
    refine g_cv (q := 46) [aI r5] 12 X (ce_X12_done hK  h) kV_X12_65 rfl (by decide) rfl (hK.n (by decide)) rfl rfl (Nat.le_of_ble_eq_true rfl) (by decide) dX12_owes_43 rfl (fun r n_ iv_ rv_ hf => ?_)
    obtain ⟨en_, er_, r7, rfl, h⟩ := hf; subst n_; subst rv_
    generalize iv_ = iv8 at h ⊢
    exact g_iret (q := 0) X hR dX12_owes_46 rfl ⟨rfl, rfl, _, rfl, h⟩
  · have h := h.2 c3
    refine g_aload_n (q := 22) 0 X dX12_owes_21 rfl rfl rfl ?_
    refine g_iload (q := 24) 5 X dX12_owes_22 rfl rfl ?_
    refine g_cv (q := 27) [aI r2] 12 X (ce_X12_refused hK  h) kV_X12_60 rfl (by decide) rfl (hK.n (by decide)) rfl rfl (Nat.le_of_ble_eq_true rfl) (by decide) dX12_owes_24 rfl (fun r n_ iv_ rv_ hf => ?_)
    obtain ⟨en_, er_, r9, rfl, h⟩ := hf; subst n_; subst rv_
    generalize iv_ = iv10 at h ⊢
    exact g_iret (q := 0) X hR dX12_owes_27 rfl ⟨rfl, rfl, _, rfl, h⟩
def bd_X12_wins_37 (iv : IV) (rv : RV) (K : Int → IV → Prop) : Prop :=
  wp_X12_refused 1 iv rv (fun r1 iv2 => K r1 iv2)
set_option maxRecDepth 10000 in
theorem cb_X12_wins_37 {Γ : GX} {n : Nat} {iv : IV} {rv : RV} {K : Int → IV → Prop} (X : Cx Γ RX12 cX12_wins 6 4) (hR : Rt Γ (some .int) 0 0 (fI1 n rv K)) (hK : Lk n rv)  (h : bd_X12_wins_37 iv rv K) : G Γ 6 37 [aR (some 66), aJ, aJ, aJ, aJ, aJ] [] n iv rv 0 0 := by
  unfold bd_X12_wins_37 at h
  refine g_aload_n (q := 38) 0 X dX12_wins_37 rfl rfl rfl ?_
  refine g_iconst (q := 39) 1 X dX12_wins_38 rfl rfl ic_1 ?_
  refine g_cv (q := 42) [aI 1] 12 X (ce_X12_refused hK  h) kV_X12_60 rfl (by decide) rfl (hK.n (by decide)) rfl rfl (Nat.le_of_ble_eq_true rfl) (by decide) dX12_wins_39 rfl (fun r n_ iv_ rv_ hf => ?_)
  obtain ⟨en_, er_, r1, rfl, h⟩ := hf; subst n_; subst rv_
  generalize iv_ = iv2 at h ⊢
  exact g_iret (q := 0) X hR dX12_wins_42 rfl ⟨rfl, rfl, _, rfl, h⟩
def bd_X12_wins_90 (t0 : Int) (iv : IV) (rv : RV) (K : Int → IV → Prop) : Prop :=
  wp_X12_done t0 iv rv (fun r1 iv2 => K r1 iv2)
set_option maxRecDepth 10000 in
theorem cb_X12_wins_90 {Γ : GX} {n : Nat} {iv : IV} {rv : RV} {K : Int → IV → Prop} {t0 : Int} (X : Cx Γ RX12 cX12_wins 6 4) (hR : Rt Γ (some .int) 0 0 (fI1 n rv K)) (hK : Lk n rv)  (h : bd_X12_wins_90 t0 iv rv K) : G Γ 6 90 [aJ, aJ, aJ, aJ, aJ, aJ] [aI t0, aR (some 66)] n iv rv 0 0 := by
  unfold bd_X12_wins_90 at h
  refine g_cv (q := 93) [aI t0] 12 X (ce_X12_done hK  h) kV_X12_65 rfl (by decide) rfl (hK.n (by decide)) rfl rfl (Nat.le_of_ble_eq_true rfl) (by decide) dX12_wins_90 rfl (fun r n_ iv_ rv_ hf => ?_)
  obtain ⟨en_, er_, r1, rfl, h⟩ := hf; subst n_; subst rv_
  generalize iv_ = iv2 at h ⊢
  exact g_iret (q := 0) X hR dX12_wins_93 rfl ⟨rfl, rfl, _, rfl, h⟩
def wp_X12_wins (a1 : Int) (a2 : Int) (a3 : Int) (a4 : Int) (iv : IV) (rv : RV) (K : Int → IV → Prop) : Prop :=
  ∀ iv1, iv1 = w2 iv 66 0 0 → wp_X12_isCart a1 iv1 rv (fun r2 => ((r2 = 0) → (bd_X12_wins_37 iv1 rv K)) ∧ ((¬ (r2 = 0)) → (wp_X12_isLaw a4 iv1 rv (fun r4 => ((r4 = 0) → (bd_X12_wins_37 iv1 rv K)) ∧ ((¬ (r4 = 0)) → (((a2 < 0) → (bd_X12_wins_37 iv1 rv K)) ∧ ((¬ (a2 < 0)) → ((rv 66 3 = some 80) ∧ ((a2 < (iv1 80 5)) → (wp_X12_in a3 0 999 iv1 rv (fun r8 => ((r8 ≠ 0) → (wp_X12_laysFor a1 a4 iv1 rv (fun iv10 => wp_X12_winner a2 a1 a3 iv10 rv (fun r11 iv12 => ((r11 ≠ (-1)) → (bd_X12_wins_90 r11 iv12 rv K)) ∧ ((r11 = (-1)) → (bd_X12_wins_90 (-2) iv12 rv K)))))) ∧ ((r8 = 0) → (wp_X12_refused 2 iv1 rv (fun r14 iv15 => K r14 iv15)))))) ∧ ((¬ (a2 < (iv1 80 5))) → (bd_X12_wins_37 iv1 rv K))))))))))
set_option maxRecDepth 10000 in
theorem ce_X12_wins {n : Nat} {iv : IV} {rv : RV} {K : Int → IV → Prop} {a1 : Int} {a2 : Int} {a3 : Int} {a4 : Int} (hK : Lk n rv)  (h : wp_X12_wins a1 a2 a3 a4 iv rv K) : Call 4 0 0 yX12_wins cX12_wins 6 (some .int) [aR (some 66), aI a1, aI a2, aI a3, aI a4] n iv rv (fI1 n rv K) := by
  refine Call.by (L := [aR (some 66), aI a1, aI a2, aI a3, aI a4, aJ]) (by decide) rfl ⟨trivial, trivial, trivial, trivial, trivial, trivial⟩ rfl (Nat.le_of_ble_eq_true rfl) (fun Γ X hR => ?_)
  unfold wp_X12_wins at h
  refine g_aload_n (q := 1) 0 X dX12_wins_0 rfl rfl rfl ?_
  refine g_iconst (q := 2) 0 X dX12_wins_1 rfl rfl ic_0 ?_
  refine g_putI (q := 5) 12 0 X (Or.inl rfl) rfl kf_X12_54 (by decide) (by decide) rfl (hK.n (by decide)) dX12_wins_2 rfl ?_
  refine g_nmM (fun iv1 eiv1 => ?_)
  have h := h iv1 eiv1
  refine g_aload_n (q := 6) 0 X dX12_wins_5 rfl rfl rfl ?_
  refine g_iload_n (q := 7) 1 X dX12_wins_6 rfl rfl rfl ?_
  refine g_cv (q := 10) [aI a1] 12 X (ce_X12_isCart hK  h) kV_X12_505 rfl (by decide) rfl (hK.n (by decide)) rfl rfl (Nat.le_of_ble_eq_true rfl) (by decide) dX12_wins_7 rfl (fun r n_ iv_ rv_ hf => ?_)
  obtain ⟨en_, ei_, er_, r2, rfl, br2, h⟩ := hf; subst n_; subst iv_; subst rv_
  refine g_if_eq (q := 13) 37 X dX12_wins_10 (by decide) rfl (fun c3 => ?_) (fun c3 => ?_)
  · have h := h.1 c3
    refine g_sub (L' := [aR (some 66), aJ, aJ, aJ, aJ, aJ]) ⟨Or.inr rfl, Or.inl rfl, Or.inl rfl, Or.inl rfl, Or.inl rfl, Or.inl rfl, trivial⟩ ?_
    exact cb_X12_wins_37 X hR hK   h
  · have h := h.2 c3
    refine g_aload_n (q := 14) 0 X dX12_wins_13 rfl rfl rfl ?_
    refine g_iload (q := 16) 4 X dX12_wins_14 rfl rfl ?_
    refine g_cv (q := 19) [aI a4] 12 X (ce_X12_isLaw hK  h) kV_X12_511 rfl (by decide) rfl (hK.n (by decide)) rfl rfl (Nat.le_of_ble_eq_true rfl) (by decide) dX12_wins_16 rfl (fun r n_ iv_ rv_ hf => ?_)
    obtain ⟨en_, ei_, er_, r4, rfl, br4, h⟩ := hf; subst n_; subst iv_; subst rv_
    refine g_if_eq (q := 22) 37 X dX12_wins_19 (by decide) rfl (fun c5 => ?_) (fun c5 => ?_)
    · have h := h.1 c5
      refine g_sub (L' := [aR (some 66), aJ, aJ, aJ, aJ, aJ]) ⟨Or.inr rfl, Or.inl rfl, Or.inl rfl, Or.inl rfl, Or.inl rfl, Or.inl rfl, trivial⟩ ?_
      exact cb_X12_wins_37 X hR hK   h
    · have h := h.2 c5
      refine g_iload_n (q := 23) 2 X dX12_wins_22 rfl rfl rfl ?_
      refine g_if_lt (q := 26) 37 X dX12_wins_23 (by decide) rfl (fun c6 => ?_) (fun c6 => ?_)
      · have h := h.1 c6
        refine g_sub (L' := [aR (some 66), aJ, aJ, aJ, aJ, aJ]) ⟨Or.inr rfl, Or.inl rfl, Or.inl rfl, Or.inl rfl, Or.inl rfl, Or.inl rfl, trivial⟩ ?_
        exact cb_X12_wins_37 X hR hK   h
      · have h := h.2 c6
        refine g_iload_n (q := 27) 2 X dX12_wins_26 rfl rfl rfl ?_
        refine g_aload_n (q := 28) 0 X dX12_wins_27 rfl rfl rfl ?_
        obtain ⟨hm80, h⟩ := h
        refine g_getR (q := 31) (r := some 80) 12 3 X hm80 (lt2000 (c := 0) (by decide)) kf_X12_442 (by decide) (by decide) rfl rfl (hK.n (by decide)) dX12_wins_28 rfl ?_
        refine g_getI (q := 34) 11 5 X kf_X12_313 (by decide) (by decide) rfl rfl (Nat.lt_of_lt_of_le (by decide) (hK.2.2.2.2.2.2.1 80 hm80 (Or.inl rfl))) dX12_wins_31 rfl ?_
        refine g_icmp_lt (q := 37) 43 X dX12_wins_34 (by decide) rfl (fun c7 => ?_) (fun c7 => ?_)
        · have h := h.1 c7
          refine g_iload_n (q := 44) 3 X dX12_wins_43 rfl rfl rfl ?_
          refine g_iconst (q := 45) 0 X dX12_wins_44 rfl rfl ic_0 ?_
          refine g_sipush (q := 48) 999 X dX12_wins_45 rfl sc_999 ic_999 ?_
          refine g_cs (q := 51) [aI a3, aI 0, aI 999] X (ce_X12_in hK  h) kS_X12_130 rfl rfl (Nat.le_of_ble_eq_true rfl) (by decide) dX12_wins_48 rfl (fun r n_ iv_ rv_ hf => ?_)
          obtain ⟨en_, ei_, er_, r8, rfl, br8, h⟩ := hf; subst n_; subst iv_; subst rv_
          refine g_if_ne (q := 54) 60 X dX12_wins_51 (by decide) rfl (fun c9 => ?_) (fun c9 => ?_)
          · have h := h.1 c9
            refine g_aload_n (q := 61) 0 X dX12_wins_60 rfl rfl rfl ?_
            refine g_iload_n (q := 62) 1 X dX12_wins_61 rfl rfl rfl ?_
            refine g_iload (q := 64) 4 X dX12_wins_62 rfl rfl ?_
            refine g_cv (q := 67) [aI a1, aI a4] 12 X (ce_X12_laysFor hK  h) kV_X12_523 rfl (by decide) rfl (hK.n (by decide)) rfl rfl (Nat.le_of_ble_eq_true rfl) (by decide) dX12_wins_64 rfl (fun r n_ iv_ rv_ hf => ?_)
            obtain ⟨en_, er_, rfl, h⟩ := hf; subst n_; subst rv_
            generalize iv_ = iv10 at h ⊢
            refine g_aload_n (q := 68) 0 X dX12_wins_67 rfl rfl rfl ?_
            refine g_iload_n (q := 69) 2 X dX12_wins_68 rfl rfl rfl ?_
            refine g_iload_n (q := 70) 1 X dX12_wins_69 rfl rfl rfl ?_
            refine g_iload_n (q := 71) 3 X dX12_wins_70 rfl rfl rfl ?_
            refine g_cv (q := 74) [aI a2, aI a1, aI a3] 12 X (ce_X12_winner hK  h) kV_X12_498 rfl (by decide) rfl (hK.n (by decide)) rfl rfl (Nat.le_of_ble_eq_true rfl) (by decide) dX12_wins_71 rfl (fun r n_ iv_ rv_ hf => ?_)
            obtain ⟨en_, er_, r11, rfl, h⟩ := hf; subst n_; subst rv_
            generalize iv_ = iv12 at h ⊢
            refine g_istore (q := 76) (k0 := 0) 5 (L' := [aR (some 66), aI a1, aI a2, aI a3, aI a4, aI r11]) X dX12_wins_74 rfl (by decide) rfl rfl ?_
            refine g_aload_n (q := 77) 0 X dX12_wins_76 rfl rfl rfl ?_
            refine g_iload (q := 79) 5 X dX12_wins_77 rfl rfl ?_
            refine g_iconst (q := 80) (-1) X dX12_wins_79 rfl rfl ic_m1 ?_
            refine g_icmp_ne (q := 83) 88 X dX12_wins_80 (by decide) rfl (fun c13 => ?_) (fun c13 => ?_)
            · have h := h.1 c13
              refine g_iload (q := 90) 5 X dX12_wins_88 rfl rfl ?_
              refine g_sub (L' := [aJ, aJ, aJ, aJ, aJ, aJ]) ⟨Or.inl rfl, Or.inl rfl, Or.inl rfl, Or.inl rfl, Or.inl rfl, Or.inl rfl, trivial⟩ ?_
              exact cb_X12_wins_90 X hR hK   h
            · have h := h.2 c13
              refine g_bipush (q := 85) (-2) X dX12_wins_83 rfl bc_m2 ic_m2 ?_
              refine g_goto (q := 90) X dX12_wins_85 (by decide) ?_
              refine g_sub (L' := [aJ, aJ, aJ, aJ, aJ, aJ]) ⟨Or.inl rfl, Or.inl rfl, Or.inl rfl, Or.inl rfl, Or.inl rfl, Or.inl rfl, trivial⟩ ?_
              exact cb_X12_wins_90 X hR hK   h
          · have h := h.2 c9
            refine g_aload_n (q := 55) 0 X dX12_wins_54 rfl rfl rfl ?_
            refine g_iconst (q := 56) 2 X dX12_wins_55 rfl rfl ic_2 ?_
            refine g_cv (q := 59) [aI 2] 12 X (ce_X12_refused hK  h) kV_X12_60 rfl (by decide) rfl (hK.n (by decide)) rfl rfl (Nat.le_of_ble_eq_true rfl) (by decide) dX12_wins_56 rfl (fun r n_ iv_ rv_ hf => ?_)
            obtain ⟨en_, er_, r14, rfl, h⟩ := hf; subst n_; subst rv_
            generalize iv_ = iv15 at h ⊢
            exact g_iret (q := 0) X hR dX12_wins_59 rfl ⟨rfl, rfl, _, rfl, h⟩
        · have h := h.2 c7
          refine g_sub (L' := [aR (some 66), aJ, aJ, aJ, aJ, aJ]) ⟨Or.inr rfl, Or.inl rfl, Or.inl rfl, Or.inl rfl, Or.inl rfl, Or.inl rfl, trivial⟩ ?_
          exact cb_X12_wins_37 X hR hK   h
def bd_X12_judge_53 (t0 : Int) (iv : IV) (rv : RV) (K : Int → IV → Prop) : Prop :=
  wp_X12_done t0 iv rv (fun r1 iv2 => K r1 iv2)
set_option maxRecDepth 10000 in
theorem cb_X12_judge_53 {Γ : GX} {n : Nat} {iv : IV} {rv : RV} {K : Int → IV → Prop} {t0 : Int} (X : Cx Γ RX12 cX12_judge 7 5) (hR : Rt Γ (some .int) 0 0 (fI1 n rv K)) (hK : Lk n rv)  (h : bd_X12_judge_53 t0 iv rv K) : G Γ 7 53 [aJ, aJ, aJ, aJ, aJ, aJ, aJ] [aI t0, aR (some 66)] n iv rv 0 0 := by
  unfold bd_X12_judge_53 at h
  refine g_cv (q := 56) [aI t0] 12 X (ce_X12_done hK  h) kV_X12_65 rfl (by decide) rfl (hK.n (by decide)) rfl rfl (Nat.le_of_ble_eq_true rfl) (by decide) dX12_judge_53 rfl (fun r n_ iv_ rv_ hf => ?_)
  obtain ⟨en_, er_, r1, rfl, h⟩ := hf; subst n_; subst rv_
  generalize iv_ = iv2 at h ⊢
  exact g_iret (q := 0) X hR dX12_judge_56 rfl ⟨rfl, rfl, _, rfl, h⟩
def wp_X12_judge (a1 : Int) (a2 : Int) (a3 : Int) (a4 : Int) (a5 : Int) (iv : IV) (rv : RV) (K : Int → IV → Prop) : Prop :=
  ∀ iv1, iv1 = w2 iv 66 0 0 → wp_X12_refusesOwes a1 a2 a3 a4 iv1 rv (fun r2 => ((r2 ≤ 0) → (wp_X12_laysFor a1 a4 iv1 rv (fun iv4 => wp_X12_owed a1 a2 a3 iv4 rv (fun r5 iv6 => ((r5 ≠ a5) → (bd_X12_judge_53 0 iv6 rv K)) ∧ ((r5 = a5) → (bd_X12_judge_53 1 iv6 rv K)))))) ∧ ((¬ (r2 ≤ 0)) → (wp_X12_refused r2 iv1 rv (fun r8 iv9 => K r8 iv9))))
set_option maxRecDepth 10000 in
theorem ce_X12_judge {n : Nat} {iv : IV} {rv : RV} {K : Int → IV → Prop} {a1 : Int} {a2 : Int} {a3 : Int} {a4 : Int} {a5 : Int} (hK : Lk n rv)  (h : wp_X12_judge a1 a2 a3 a4 a5 iv rv K) : Call 5 0 0 yX12_judge cX12_judge 7 (some .int) [aR (some 66), aI a1, aI a2, aI a3, aI a4, aI a5] n iv rv (fI1 n rv K) := by
  refine Call.by (L := [aR (some 66), aI a1, aI a2, aI a3, aI a4, aI a5, aJ]) (by decide) rfl ⟨trivial, trivial, trivial, trivial, trivial, trivial, trivial⟩ rfl (Nat.le_of_ble_eq_true rfl) (fun Γ X hR => ?_)
  unfold wp_X12_judge at h
  refine g_aload_n (q := 1) 0 X dX12_judge_0 rfl rfl rfl ?_
  refine g_iconst (q := 2) 0 X dX12_judge_1 rfl rfl ic_0 ?_
  refine g_putI (q := 5) 12 0 X (Or.inl rfl) rfl kf_X12_54 (by decide) (by decide) rfl (hK.n (by decide)) dX12_judge_2 rfl ?_
  refine g_nmM (fun iv1 eiv1 => ?_)
  have h := h iv1 eiv1
  refine g_aload_n (q := 6) 0 X dX12_judge_5 rfl rfl rfl ?_
  refine g_iload_n (q := 7) 1 X dX12_judge_6 rfl rfl rfl ?_
  refine g_iload_n (q := 8) 2 X dX12_judge_7 rfl rfl rfl ?_
  refine g_iload_n (q := 9) 3 X dX12_judge_8 rfl rfl rfl ?_
  refine g_iload (q := 11) 4 X dX12_judge_9 rfl rfl ?_
  refine g_cv (q := 14) [aI a1, aI a2, aI a3, aI a4] 12 X (ce_X12_refusesOwes hK  h) kV_X12_519 rfl (by decide) rfl (hK.n (by decide)) rfl rfl (Nat.le_of_ble_eq_true rfl) (by decide) dX12_judge_11 rfl (fun r n_ iv_ rv_ hf => ?_)
  obtain ⟨en_, ei_, er_, r2, rfl, h⟩ := hf; subst n_; subst iv_; subst rv_
  refine g_istore (q := 16) (k0 := 0) 6 (L' := [aR (some 66), aI a1, aI a2, aI a3, aI a4, aI a5, aI r2]) X dX12_judge_14 rfl (by decide) rfl rfl ?_
  refine g_iload (q := 18) 6 X dX12_judge_16 rfl rfl ?_
  refine g_if_le (q := 21) 28 X dX12_judge_18 (by decide) rfl (fun c3 => ?_) (fun c3 => ?_)
  · have h := h.1 c3
    refine g_aload_n (q := 29) 0 X dX12_judge_28 rfl rfl rfl ?_
    refine g_iload_n (q := 30) 1 X dX12_judge_29 rfl rfl rfl ?_
    refine g_iload (q := 32) 4 X dX12_judge_30 rfl rfl ?_
    refine g_cv (q := 35) [aI a1, aI a4] 12 X (ce_X12_laysFor hK  h) kV_X12_523 rfl (by decide) rfl (hK.n (by decide)) rfl rfl (Nat.le_of_ble_eq_true rfl) (by decide) dX12_judge_32 rfl (fun r n_ iv_ rv_ hf => ?_)
    obtain ⟨en_, er_, rfl, h⟩ := hf; subst n_; subst rv_
    generalize iv_ = iv4 at h ⊢
    refine g_aload_n (q := 36) 0 X dX12_judge_35 rfl rfl rfl ?_
    refine g_aload_n (q := 37) 0 X dX12_judge_36 rfl rfl rfl ?_
    refine g_iload_n (q := 38) 1 X dX12_judge_37 rfl rfl rfl ?_
    refine g_iload_n (q := 39) 2 X dX12_judge_38 rfl rfl rfl ?_
    refine g_iload_n (q := 40) 3 X dX12_judge_39 rfl rfl rfl ?_
    refine g_cv (q := 43) [aI a1, aI a2, aI a3] 12 X (ce_X12_owed hK  h) kV_X12_526 rfl (by decide) rfl (hK.n (by decide)) rfl rfl (Nat.le_of_ble_eq_true rfl) (by decide) dX12_judge_40 rfl (fun r n_ iv_ rv_ hf => ?_)
    obtain ⟨en_, er_, r5, rfl, h⟩ := hf; subst n_; subst rv_
    generalize iv_ = iv6 at h ⊢
    refine g_iload (q := 45) 5 X dX12_judge_43 rfl rfl ?_
    refine g_icmp_ne (q := 48) 52 X dX12_judge_45 (by decide) rfl (fun c7 => ?_) (fun c7 => ?_)
    · have h := h.1 c7
      refine g_iconst (q := 53) 0 X dX12_judge_52 rfl rfl ic_0 ?_
      refine g_sub (L' := [aJ, aJ, aJ, aJ, aJ, aJ, aJ]) ⟨Or.inl rfl, Or.inl rfl, Or.inl rfl, Or.inl rfl, Or.inl rfl, Or.inl rfl, Or.inl rfl, trivial⟩ ?_
      exact cb_X12_judge_53 X hR hK   h
    · have h := h.2 c7
      refine g_iconst (q := 49) 1 X dX12_judge_48 rfl rfl ic_1 ?_
      refine g_goto (q := 53) X dX12_judge_49 (by decide) ?_
      refine g_sub (L' := [aJ, aJ, aJ, aJ, aJ, aJ, aJ]) ⟨Or.inl rfl, Or.inl rfl, Or.inl rfl, Or.inl rfl, Or.inl rfl, Or.inl rfl, Or.inl rfl, trivial⟩ ?_
      exact cb_X12_judge_53 X hR hK   h
  · have h := h.2 c3
    refine g_aload_n (q := 22) 0 X dX12_judge_21 rfl rfl rfl ?_
    refine g_iload (q := 24) 6 X dX12_judge_22 rfl rfl ?_
    refine g_cv (q := 27) [aI r2] 12 X (ce_X12_refused hK  h) kV_X12_60 rfl (by decide) rfl (hK.n (by decide)) rfl rfl (Nat.le_of_ble_eq_true rfl) (by decide) dX12_judge_24 rfl (fun r n_ iv_ rv_ hf => ?_)
    obtain ⟨en_, er_, r8, rfl, h⟩ := hf; subst n_; subst rv_
    generalize iv_ = iv9 at h ⊢
    exact g_iret (q := 0) X hR dX12_judge_27 rfl ⟨rfl, rfl, _, rfl, h⟩
def bd_X12_choices_45 (P4 : Int → Int → Prop) (l1 l2 : Int) (iv : IV) (rv : RV) (K : Int → Prop) : Prop :=
  ((l1 ≤ 2000) → (P4 l1 (w32 (l2 + 1)))) ∧ ((¬ (l1 ≤ 2000)) → (K 2001))
set_option maxRecDepth 10000 in
theorem cb_X12_choices_45 {Γ : GX} {n : Nat} {iv : IV} {rv : RV} {K : Int → Prop} {P4 : Int → Int → Prop} {l1 l2 : Int} (X : Cx Γ RX12 cX12_choices 3 1) (hR : Rt Γ (some .int) 0 0 (fI0 n iv rv K)) (hK : Lk n rv)  (hP4 : ∀ (l1' l2' : Int), P4 l1' l2' → G Γ 3 4 [aR (some 66), aI (l1'), aI (l2')] [] n iv rv 0 0) (h : bd_X12_choices_45 P4 l1 l2 iv rv K) : G Γ 3 45 [aR (some 66), aI l1, aI l2] [] n iv rv 0 0 := by
  unfold bd_X12_choices_45 at h
  refine g_iload_n (q := 46) 1 X dX12_choices_45 rfl rfl rfl ?_
  refine g_sipush (q := 49) 2000 X dX12_choices_46 rfl sc_2000 ic_2000 ?_
  refine g_icmp_le (q := 52) 56 X dX12_choices_49 (by decide) rfl (fun c1 => ?_) (fun c1 => ?_)
  · have h := h.1 c1
    refine g_iinc (q := 59) 2 (L' := [aR (some 66), aI l1, aI (w32 (l2 + 1))]) X dX12_choices_56 rfl (by decide) rfl rfl rfl ?_
    refine g_goto (q := 4) X dX12_choices_59 (by decide) ?_
    exact hP4 _ _ h
  · have h := h.2 c1
    refine g_sipush (q := 55) 2001 X dX12_choices_52 rfl sc_2001 ic_2001 ?_
    exact g_iret (q := 0) X hR dX12_choices_55 rfl ⟨rfl, rfl, rfl, _, rfl, h⟩
def bd_X12_choices_4 (P4 : Int → Int → Prop) (l1 l2 : Int) (iv : IV) (rv : RV) (K : Int → Prop) : Prop :=
  ((16 ≤ l2) → (K l1)) ∧ ((¬ (16 ≤ l2)) → ((rv 66 3 = some 80) ∧ wp_X11_isGrant 80 l2 iv rv (fun r2 => ((r2 = 0) → (bd_X12_choices_45 P4 l1 l2 iv rv K)) ∧ ((¬ (r2 = 0)) → ((0 ≤ l2 ∧ l2 < 16) ∧ (0 ≤ l2 ∧ l2 < 16) ∧ ∀ x6, x6 = w32 (l1 * (w32 ((w32 ((iv 91 l2.toNat) - (iv 90 l2.toNat))) + 1))) → bd_X12_choices_45 P4 x6 l2 iv rv K)))))
set_option maxRecDepth 10000 in
theorem cb_X12_choices_4 {Γ : GX} {n : Nat} {iv : IV} {rv : RV} {K : Int → Prop} {P4 : Int → Int → Prop} {l1 l2 : Int} (X : Cx Γ RX12 cX12_choices 3 1) (hR : Rt Γ (some .int) 0 0 (fI0 n iv rv K)) (hK : Lk n rv)  (hP4 : ∀ (l1' l2' : Int), P4 l1' l2' → G Γ 3 4 [aR (some 66), aI (l1'), aI (l2')] [] n iv rv 0 0) (h : bd_X12_choices_4 P4 l1 l2 iv rv K) : G Γ 3 4 [aR (some 66), aI l1, aI l2] [] n iv rv 0 0 := by
  unfold bd_X12_choices_4 at h
  refine g_iload_n (q := 5) 2 X dX12_choices_4 rfl rfl rfl ?_
  refine g_bipush (q := 7) 16 X dX12_choices_5 rfl bc_16 ic_16 ?_
  refine g_icmp_ge (q := 10) 62 X dX12_choices_7 (by decide) rfl (fun c1 => ?_) (fun c1 => ?_)
  · have h := h.1 c1
    refine g_iload_n (q := 63) 1 X dX12_choices_62 rfl rfl rfl ?_
    exact g_iret (q := 0) X hR dX12_choices_63 rfl ⟨rfl, rfl, rfl, _, rfl, h⟩
  · have h := h.2 c1
    refine g_aload_n (q := 11) 0 X dX12_choices_10 rfl rfl rfl ?_
    obtain ⟨hm80, h⟩ := h
    refine g_getR (q := 14) (r := some 80) 12 3 X hm80 (lt2000 (c := 0) (by decide)) kf_X12_442 (by decide) (by decide) rfl rfl (hK.n (by decide)) dX12_choices_11 rfl ?_
    refine g_iload_n (q := 15) 2 X dX12_choices_14 rfl rfl rfl ?_
    refine g_cv (q := 18) [aI l2] 11 X (ce_X11_isGrant hK (Or.inl rfl) (hK.2.2.2.2.2.2.1 80 hm80 (Or.inl rfl)) h) kV_X12_502 rfl (by decide) rfl (Nat.lt_of_lt_of_le (by decide) (hK.2.2.2.2.2.2.1 80 hm80 (Or.inl rfl))) rfl rfl (Nat.le_of_ble_eq_true rfl) (by decide) dX12_choices_15 rfl (fun r n_ iv_ rv_ hf => ?_)
    obtain ⟨en_, ei_, er_, r2, rfl, br2, h⟩ := hf; subst n_; subst iv_; subst rv_
    refine g_if_eq (q := 21) 45 X dX12_choices_18 (by decide) rfl (fun c3 => ?_) (fun c3 => ?_)
    · have h := h.1 c3
      exact cb_X12_choices_45 X hR hK  hP4 h
    · have h := h.2 c3
      refine g_iload_n (q := 22) 1 X dX12_choices_21 rfl rfl rfl ?_
      refine g_aload_n (q := 23) 0 X dX12_choices_22 rfl rfl rfl ?_
      refine g_getR (q := 26) (r := some 80) 12 3 X hm80 (lt2000 (c := 0) (by decide)) kf_X12_442 (by decide) (by decide) rfl rfl (hK.n (by decide)) dX12_choices_23 rfl ?_
      refine g_getR (q := 29) (r := some 91) 11 24 X (lkM_24 hK (Or.inl rfl) (hK.2.2.2.2.2.2.1 80 hm80 (Or.inl rfl))) (lt2000 (c := 0) (by decide)) kf_X12_310 (by decide) (by decide) rfl rfl (Nat.lt_of_lt_of_le (by decide) (hK.2.2.2.2.2.2.1 80 hm80 (Or.inl rfl))) dX12_choices_26 rfl ?_
      refine g_iload_n (q := 30) 2 X dX12_choices_29 rfl rfl rfl ?_
      obtain ⟨s4, h⟩ := h
      refine g_iald (q := 31) X rfl (Nat.lt_of_lt_of_le (by decide) (hK.2.2.2.2.2.2.1 80 hm80 (Or.inl rfl))) s4 dX12_choices_30 rfl ?_
      refine g_aload_n (q := 32) 0 X dX12_choices_31 rfl rfl rfl ?_
      refine g_getR (q := 35) (r := some 80) 12 3 X hm80 (lt2000 (c := 0) (by decide)) kf_X12_442 (by decide) (by decide) rfl rfl (hK.n (by decide)) dX12_choices_32 rfl ?_
      refine g_getR (q := 38) (r := some 90) 11 23 X (lkM_23 hK (Or.inl rfl) (hK.2.2.2.2.2.2.1 80 hm80 (Or.inl rfl))) (lt2000 (c := 0) (by decide)) kf_X12_307 (by decide) (by decide) rfl rfl (Nat.lt_of_lt_of_le (by decide) (hK.2.2.2.2.2.2.1 80 hm80 (Or.inl rfl))) dX12_choices_35 rfl ?_
      refine g_iload_n (q := 39) 2 X dX12_choices_38 rfl rfl rfl ?_
      obtain ⟨s5, h⟩ := h
      refine g_iald (q := 40) X rfl (Nat.lt_of_lt_of_le (by decide) (hK.2.2.2.2.2.2.1 80 hm80 (Or.inl rfl))) s5 dX12_choices_39 rfl ?_
      refine g_isub (q := 41) X dX12_choices_40 rfl ?_
      refine g_iconst (q := 42) 1 X dX12_choices_41 rfl rfl ic_1 ?_
      refine g_iadd (q := 43) X dX12_choices_42 rfl ?_
      refine g_imul (q := 44) X dX12_choices_43 rfl ?_
      refine g_nmI (fun x6 ex6 => ?_)
      have h := h x6 ex6
      refine g_istore_n (q := 45) 1 (L' := [aR (some 66), aI x6, aI l2]) X dX12_choices_44 rfl rfl (by decide) rfl rfl ?_
      exact cb_X12_choices_45 X hR hK  hP4 h
def wl_X12_choices_4 (l1 l2 : Int) (iv : IV) (rv : RV) (K : Int → Prop) : Prop :=
  ∀ P : Int → Int → Prop, (∀ (l1' l2' : Int), bd_X12_choices_4  P l1' l2' iv rv K → P l1' l2') → P l1 l2
theorem cl_X12_choices_4 {Γ : GX} {n : Nat} {iv : IV} {rv : RV} {K : Int → Prop} {l1 l2 : Int} (X : Cx Γ RX12 cX12_choices 3 1) (hR : Rt Γ (some .int) 0 0 (fI0 n iv rv K)) (hK : Lk n rv)  (h : wl_X12_choices_4 l1 l2 iv rv K) : G Γ 3 4 [aR (some 66), aI l1, aI l2] [] n iv rv 0 0 := by
  exact h (fun l1' l2' =>  G Γ 3 4 [aR (some 66), aI (l1'), aI (l2')] [] n iv rv 0 0) (fun l1' l2' hb => cb_X12_choices_4 X hR hK   (fun l1' l2' hp => hp) hb)
def wp_X12_choices (iv : IV) (rv : RV) (K : Int → Prop) : Prop :=
  wl_X12_choices_4 1 0 iv rv K
set_option maxRecDepth 10000 in
theorem ce_X12_choices {n : Nat} {iv : IV} {rv : RV} {K : Int → Prop} (hK : Lk n rv)  (h : wp_X12_choices  iv rv K) : Call 1 0 0 yX12_choices cX12_choices 3 (some .int) [aR (some 66)] n iv rv (fI0 n iv rv K) := by
  refine Call.by (L := [aR (some 66), aJ, aJ]) (by decide) rfl ⟨trivial, trivial⟩ rfl (Nat.le_of_ble_eq_true rfl) (fun Γ X hR => ?_)
  unfold wp_X12_choices at h
  refine g_iconst (q := 1) 1 X dX12_choices_0 rfl rfl ic_1 ?_
  refine g_istore_n (q := 2) 1 (L' := [aR (some 66), aI 1, aJ]) X dX12_choices_1 rfl rfl (by decide) rfl rfl ?_
  refine g_iconst (q := 3) 0 X dX12_choices_2 rfl rfl ic_0 ?_
  refine g_istore_n (q := 4) 2 (L' := [aR (some 66), aI 1, aI 0]) X dX12_choices_3 rfl rfl (by decide) rfl rfl ?_
  exact cl_X12_choices_4 X hR hK   h
def bd_X12_sure_199 (P67 : Int → Int → Int → Int → Int → Int → Int → IV → Prop) (l1 l2 l3 l5 l7 l8 l9 : Int) (iv : IV) (rv : RV) (K : Int → IV → Prop) : Prop :=
  P67 l1 l2 l3 l5 l7 l8 (w32 (l9 + 1)) iv
set_option maxRecDepth 10000 in
theorem cb_X12_sure_199 {Γ : GX} {n : Nat} {iv : IV} {rv : RV} {K : Int → IV → Prop} {P67 : Int → Int → Int → Int → Int → Int → Int → IV → Prop} {l1 l2 l3 l5 l7 l8 l9 : Int} (X : Cx Γ RX12 cX12_sure 13 5) (hR : Rt Γ (some .int) 0 0 (fI1 n rv K)) (hK : Lk n rv)  (hP67 : ∀ (l1' l2' l3' l5' l7' l8' l9' : Int) (iv' : IV), P67 l1' l2' l3' l5' l7' l8' l9' iv' → G Γ 13 67 [aR (some 66), aI (l1'), aI (l2'), aI (l3'), aJ, aI (l5'), aJ, aI (l7'), aI (l8'), aI (l9'), aJ, aJ, aJ] [] n iv' rv 0 0) (h : bd_X12_sure_199 P67 l1 l2 l3 l5 l7 l8 l9 iv rv K) : G Γ 13 199 [aR (some 66), aI l1, aI l2, aI l3, aJ, aI l5, aJ, aI l7, aI l8, aI l9, aJ, aJ, aJ] [] n iv rv 0 0 := by
  unfold bd_X12_sure_199 at h
  refine g_iinc (q := 202) 9 (L' := [aR (some 66), aI l1, aI l2, aI l3, aJ, aI l5, aJ, aI l7, aI l8, aI (w32 (l9 + 1)), aJ, aJ, aJ]) X dX12_sure_199 rfl (by decide) rfl rfl rfl ?_
  refine g_goto (q := 67) X dX12_sure_202 (by decide) ?_
  exact hP67 _ _ _ _ _ _ _ _ h
def bd_X12_sure_195 (P67 : Int → Int → Int → Int → Int → Int → Int → IV → Prop) (l1 l2 l3 l5 l7 l9 l11 : Int) (iv : IV) (rv : RV) (K : Int → IV → Prop) : Prop :=
  bd_X12_sure_199 P67 l1 l2 l3 l5 l7 l11 l9 iv rv K
set_option maxRecDepth 10000 in
theorem cb_X12_sure_195 {Γ : GX} {n : Nat} {iv : IV} {rv : RV} {K : Int → IV → Prop} {P67 : Int → Int → Int → Int → Int → Int → Int → IV → Prop} {l1 l2 l3 l5 l7 l9 l11 : Int} (X : Cx Γ RX12 cX12_sure 13 5) (hR : Rt Γ (some .int) 0 0 (fI1 n rv K)) (hK : Lk n rv)  (hP67 : ∀ (l1' l2' l3' l5' l7' l8' l9' : Int) (iv' : IV), P67 l1' l2' l3' l5' l7' l8' l9' iv' → G Γ 13 67 [aR (some 66), aI (l1'), aI (l2'), aI (l3'), aJ, aI (l5'), aJ, aI (l7'), aI (l8'), aI (l9'), aJ, aJ, aJ] [] n iv' rv 0 0) (h : bd_X12_sure_195 P67 l1 l2 l3 l5 l7 l9 l11 iv rv K) : G Γ 13 195 [aR (some 66), aI l1, aI l2, aI l3, aJ, aI l5, aJ, aI l7, aJ, aI l9, aJ, aI l11, aJ] [] n iv rv 0 0 := by
  unfold bd_X12_sure_195 at h
  refine g_iload (q := 197) 11 X dX12_sure_195 rfl rfl ?_
  refine g_istore (q := 199) (k0 := 0) 8 (L' := [aR (some 66), aI l1, aI l2, aI l3, aJ, aI l5, aJ, aI l7, aI l11, aI l9, aJ, aI l11, aJ]) X dX12_sure_197 rfl (by decide) rfl rfl ?_
  refine g_sub (L' := [aR (some 66), aI l1, aI l2, aI l3, aJ, aI l5, aJ, aI l7, aI l11, aI l9, aJ, aJ, aJ]) ⟨Or.inr rfl, Or.inr rfl, Or.inr rfl, Or.inr rfl, Or.inl rfl, Or.inr rfl, Or.inl rfl, Or.inr rfl, Or.inr rfl, Or.inr rfl, Or.inl rfl, Or.inl rfl, Or.inl rfl, trivial⟩ ?_
  exact cb_X12_sure_199 X hR hK  hP67 h
def bd_X12_sure_158 (P67 : Int → Int → Int → Int → Int → Int → Int → IV → Prop) (P81 : Int → Int → Int → Int → Int → Int → Int → Int → Int → IV → Prop) (l1 l2 l3 l5 l7 l8 l9 l10 l11 : Int) (iv : IV) (rv : RV) (K : Int → IV → Prop) : Prop :=
  P81 l1 l2 l3 l5 l7 l8 l9 l10 (w32 (l11 + 1)) iv
set_option maxRecDepth 10000 in
theorem cb_X12_sure_158 {Γ : GX} {n : Nat} {iv : IV} {rv : RV} {K : Int → IV → Prop} {P67 : Int → Int → Int → Int → Int → Int → Int → IV → Prop} {P81 : Int → Int → Int → Int → Int → Int → Int → Int → Int → IV → Prop} {l1 l2 l3 l5 l7 l8 l9 l10 l11 : Int} (X : Cx Γ RX12 cX12_sure 13 5) (hR : Rt Γ (some .int) 0 0 (fI1 n rv K)) (hK : Lk n rv)  (hP67 : ∀ (l1' l2' l3' l5' l7' l8' l9' : Int) (iv' : IV), P67 l1' l2' l3' l5' l7' l8' l9' iv' → G Γ 13 67 [aR (some 66), aI (l1'), aI (l2'), aI (l3'), aJ, aI (l5'), aJ, aI (l7'), aI (l8'), aI (l9'), aJ, aJ, aJ] [] n iv' rv 0 0) (hP81 : ∀ (l1' l2' l3' l5' l7' l8' l9' l10' l11' : Int) (iv' : IV), P81 l1' l2' l3' l5' l7' l8' l9' l10' l11' iv' → G Γ 13 81 [aR (some 66), aI (l1'), aI (l2'), aI (l3'), aJ, aI (l5'), aJ, aI (l7'), aI (l8'), aI (l9'), aI (l10'), aI (l11'), aJ] [] n iv' rv 0 0) (h : bd_X12_sure_158 P67 P81 l1 l2 l3 l5 l7 l8 l9 l10 l11 iv rv K) : G Γ 13 158 [aR (some 66), aI l1, aI l2, aI l3, aJ, aI l5, aJ, aI l7, aI l8, aI l9, aI l10, aI l11, aJ] [] n iv rv 0 0 := by
  unfold bd_X12_sure_158 at h
  refine g_iinc (q := 161) 11 (L' := [aR (some 66), aI l1, aI l2, aI l3, aJ, aI l5, aJ, aI l7, aI l8, aI l9, aI l10, aI (w32 (l11 + 1)), aJ]) X dX12_sure_158 rfl (by decide) rfl rfl rfl ?_
  refine g_goto (q := 81) X dX12_sure_161 (by decide) ?_
  exact hP81 _ _ _ _ _ _ _ _ _ _ h
def bd_X12_sure_81 (P67 : Int → Int → Int → Int → Int → Int → Int → IV → Prop) (P81 : Int → Int → Int → Int → Int → Int → Int → Int → Int → IV → Prop) (l1 l2 l3 l5 l7 l8 l9 l10 l11 : Int) (iv : IV) (rv : RV) (K : Int → IV → Prop) : Prop :=
  ((16 ≤ l11) → (wp_X12_owed l1 l2 l3 iv rv (fun r2 iv3 => ((l5 = 0) → (((l8 ≤ r2) → (bd_X12_sure_199 P67 l1 l2 l3 l5 l7 l8 l9 iv3 rv K)) ∧ ((¬ (l8 ≤ r2)) → (bd_X12_sure_195 P67 l1 l2 l3 l5 l7 l9 r2 iv3 rv K)))) ∧ ((¬ (l5 = 0)) → (((r2 ≤ l8) → (bd_X12_sure_199 P67 l1 l2 l3 l5 l7 l8 l9 iv3 rv K)) ∧ ((¬ (r2 ≤ l8)) → (bd_X12_sure_195 P67 l1 l2 l3 l5 l7 l9 r2 iv3 rv K))))))) ∧ ((¬ (16 ≤ l11)) → ((rv 66 3 = some 80) ∧ wp_X11_isGrant 80 l11 iv rv (fun r7 => ((r7 ≠ 0) → ((0 ≤ l11 ∧ l11 < 16) ∧ (0 ≤ l11 ∧ l11 < 16) ∧ ∀ x11, x11 = w32 ((w32 ((iv 91 l11.toNat) - (iv 90 l11.toNat))) + 1) → (0 ≤ l11 ∧ l11 < 16) ∧ (x11 ≠ 0) ∧ (0 ≤ l11 ∧ l11 < 16) ∧ ∀ iv15, iv15 = w2 iv 68 l11.toNat (w32 ((iv 90 l11.toNat) + (Int.tmod l10 x11))) → (x11 ≠ 0) ∧ ∀ x17, x17 = w32 (Int.tdiv l10 x11) → bd_X12_sure_158 P67 P81 l1 l2 l3 l5 l7 l8 l9 x17 l11 iv15 rv K)) ∧ ((r7 = 0) → (bd_X12_sure_158 P67 P81 l1 l2 l3 l5 l7 l8 l9 l10 l11 iv rv K)))))
set_option maxRecDepth 10000 in
theorem cb_X12_sure_81 {Γ : GX} {n : Nat} {iv : IV} {rv : RV} {K : Int → IV → Prop} {P67 : Int → Int → Int → Int → Int → Int → Int → IV → Prop} {P81 : Int → Int → Int → Int → Int → Int → Int → Int → Int → IV → Prop} {l1 l2 l3 l5 l7 l8 l9 l10 l11 : Int} (X : Cx Γ RX12 cX12_sure 13 5) (hR : Rt Γ (some .int) 0 0 (fI1 n rv K)) (hK : Lk n rv)  (hP67 : ∀ (l1' l2' l3' l5' l7' l8' l9' : Int) (iv' : IV), P67 l1' l2' l3' l5' l7' l8' l9' iv' → G Γ 13 67 [aR (some 66), aI (l1'), aI (l2'), aI (l3'), aJ, aI (l5'), aJ, aI (l7'), aI (l8'), aI (l9'), aJ, aJ, aJ] [] n iv' rv 0 0) (hP81 : ∀ (l1' l2' l3' l5' l7' l8' l9' l10' l11' : Int) (iv' : IV), P81 l1' l2' l3' l5' l7' l8' l9' l10' l11' iv' → G Γ 13 81 [aR (some 66), aI (l1'), aI (l2'), aI (l3'), aJ, aI (l5'), aJ, aI (l7'), aI (l8'), aI (l9'), aI (l10'), aI (l11'), aJ] [] n iv' rv 0 0) (h : bd_X12_sure_81 P67 P81 l1 l2 l3 l5 l7 l8 l9 l10 l11 iv rv K) : G Γ 13 81 [aR (some 66), aI l1, aI l2, aI l3, aJ, aI l5, aJ, aI l7, aI l8, aI l9, aI l10, aI l11, aJ] [] n iv rv 0 0 := by
  unfold bd_X12_sure_81 at h
  refine g_iload (q := 83) 11 X dX12_sure_81 rfl rfl ?_
  refine g_bipush (q := 85) 16 X dX12_sure_83 rfl bc_16 ic_16 ?_
  refine g_icmp_ge (q := 88) 164 X dX12_sure_85 (by decide) rfl (fun c1 => ?_) (fun c1 => ?_)
  · have h := h.1 c1
    refine g_aload_n (q := 165) 0 X dX12_sure_164 rfl rfl rfl ?_
    refine g_iload_n (q := 166) 1 X dX12_sure_165 rfl rfl rfl ?_
    refine g_iload_n (q := 167) 2 X dX12_sure_166 rfl rfl rfl ?_
    refine g_iload_n (q := 168) 3 X dX12_sure_167 rfl rfl rfl ?_
    refine g_cv (q := 171) [aI l1, aI l2, aI l3] 12 X (ce_X12_owed hK  h) kV_X12_526 rfl (by decide) rfl (hK.n (by decide)) rfl rfl (Nat.le_of_ble_eq_true rfl) (by decide) dX12_sure_168 rfl (fun r n_ iv_ rv_ hf => ?_)
    obtain ⟨en_, er_, r2, rfl, h⟩ := hf; subst n_; subst rv_
    generalize iv_ = iv3 at h ⊢
    refine g_istore (q := 173) (k0 := 0) 11 (L' := [aR (some 66), aI l1, aI l2, aI l3, aJ, aI l5, aJ, aI l7, aI l8, aI l9, aI l10, aI r2, aJ]) X dX12_sure_171 rfl (by decide) rfl rfl ?_
    refine g_iload (q := 175) 5 X dX12_sure_173 rfl rfl ?_
    refine g_if_eq (q := 178) 188 X dX12_sure_175 (by decide) rfl (fun c4 => ?_) (fun c4 => ?_)
    · have h := h.1 c4
      refine g_iload (q := 190) 11 X dX12_sure_188 rfl rfl ?_
      refine g_iload (q := 192) 8 X dX12_sure_190 rfl rfl ?_
      refine g_icmp_ge (q := 195) 199 X dX12_sure_192 (by decide) rfl (fun c5 => ?_) (fun c5 => ?_)
      · have h := h.1 c5
        refine g_sub (L' := [aR (some 66), aI l1, aI l2, aI l3, aJ, aI l5, aJ, aI l7, aI l8, aI l9, aJ, aJ, aJ]) ⟨Or.inr rfl, Or.inr rfl, Or.inr rfl, Or.inr rfl, Or.inl rfl, Or.inr rfl, Or.inl rfl, Or.inr rfl, Or.inr rfl, Or.inr rfl, Or.inl rfl, Or.inl rfl, Or.inl rfl, trivial⟩ ?_
        exact cb_X12_sure_199 X hR hK  hP67 h
      · have h := h.2 c5
        refine g_sub (L' := [aR (some 66), aI l1, aI l2, aI l3, aJ, aI l5, aJ, aI l7, aJ, aI l9, aJ, aI r2, aJ]) ⟨Or.inr rfl, Or.inr rfl, Or.inr rfl, Or.inr rfl, Or.inl rfl, Or.inr rfl, Or.inl rfl, Or.inr rfl, Or.inl rfl, Or.inr rfl, Or.inl rfl, Or.inr rfl, Or.inl rfl, trivial⟩ ?_
        exact cb_X12_sure_195 X hR hK  hP67 h
    · have h := h.2 c4
      refine g_iload (q := 180) 11 X dX12_sure_178 rfl rfl ?_
      refine g_iload (q := 182) 8 X dX12_sure_180 rfl rfl ?_
      refine g_icmp_le (q := 185) 199 X dX12_sure_182 (by decide) rfl (fun c6 => ?_) (fun c6 => ?_)
      · have h := h.1 c6
        refine g_sub (L' := [aR (some 66), aI l1, aI l2, aI l3, aJ, aI l5, aJ, aI l7, aI l8, aI l9, aJ, aJ, aJ]) ⟨Or.inr rfl, Or.inr rfl, Or.inr rfl, Or.inr rfl, Or.inl rfl, Or.inr rfl, Or.inl rfl, Or.inr rfl, Or.inr rfl, Or.inr rfl, Or.inl rfl, Or.inl rfl, Or.inl rfl, trivial⟩ ?_
        exact cb_X12_sure_199 X hR hK  hP67 h
      · have h := h.2 c6
        refine g_goto (q := 195) X dX12_sure_185 (by decide) ?_
        refine g_sub (L' := [aR (some 66), aI l1, aI l2, aI l3, aJ, aI l5, aJ, aI l7, aJ, aI l9, aJ, aI r2, aJ]) ⟨Or.inr rfl, Or.inr rfl, Or.inr rfl, Or.inr rfl, Or.inl rfl, Or.inr rfl, Or.inl rfl, Or.inr rfl, Or.inl rfl, Or.inr rfl, Or.inl rfl, Or.inr rfl, Or.inl rfl, trivial⟩ ?_
        exact cb_X12_sure_195 X hR hK  hP67 h
  · have h := h.2 c1
    refine g_aload_n (q := 89) 0 X dX12_sure_88 rfl rfl rfl ?_
    obtain ⟨hm80, h⟩ := h
    refine g_getR (q := 92) (r := some 80) 12 3 X hm80 (lt2000 (c := 0) (by decide)) kf_X12_442 (by decide) (by decide) rfl rfl (hK.n (by decide)) dX12_sure_89 rfl ?_
    refine g_iload (q := 94) 11 X dX12_sure_92 rfl rfl ?_
    refine g_cv (q := 97) [aI l11] 11 X (ce_X11_isGrant hK (Or.inl rfl) (hK.2.2.2.2.2.2.1 80 hm80 (Or.inl rfl)) h) kV_X12_502 rfl (by decide) rfl (Nat.lt_of_lt_of_le (by decide) (hK.2.2.2.2.2.2.1 80 hm80 (Or.inl rfl))) rfl rfl (Nat.le_of_ble_eq_true rfl) (by decide) dX12_sure_94 rfl (fun r n_ iv_ rv_ hf => ?_)
    obtain ⟨en_, ei_, er_, r7, rfl, br7, h⟩ := hf; subst n_; subst iv_; subst rv_
    refine g_if_ne (q := 100) 103 X dX12_sure_97 (by decide) rfl (fun c8 => ?_) (fun c8 => ?_)
    · have h := h.1 c8
      refine g_aload_n (q := 104) 0 X dX12_sure_103 rfl rfl rfl ?_
      refine g_getR (q := 107) (r := some 80) 12 3 X hm80 (lt2000 (c := 0) (by decide)) kf_X12_442 (by decide) (by decide) rfl rfl (hK.n (by decide)) dX12_sure_104 rfl ?_
      refine g_getR (q := 110) (r := some 91) 11 24 X (lkM_24 hK (Or.inl rfl) (hK.2.2.2.2.2.2.1 80 hm80 (Or.inl rfl))) (lt2000 (c := 0) (by decide)) kf_X12_310 (by decide) (by decide) rfl rfl (Nat.lt_of_lt_of_le (by decide) (hK.2.2.2.2.2.2.1 80 hm80 (Or.inl rfl))) dX12_sure_107 rfl ?_
      refine g_iload (q := 112) 11 X dX12_sure_110 rfl rfl ?_
      obtain ⟨s9, h⟩ := h
      refine g_iald (q := 113) X rfl (Nat.lt_of_lt_of_le (by decide) (hK.2.2.2.2.2.2.1 80 hm80 (Or.inl rfl))) s9 dX12_sure_112 rfl ?_
      refine g_aload_n (q := 114) 0 X dX12_sure_113 rfl rfl rfl ?_
      refine g_getR (q := 117) (r := some 80) 12 3 X hm80 (lt2000 (c := 0) (by decide)) kf_X12_442 (by decide) (by decide) rfl rfl (hK.n (by decide)) dX12_sure_114 rfl ?_
      refine g_getR (q := 120) (r := some 90) 11 23 X (lkM_23 hK (Or.inl rfl) (hK.2.2.2.2.2.2.1 80 hm80 (Or.inl rfl))) (lt2000 (c := 0) (by decide)) kf_X12_307 (by decide) (by decide) rfl rfl (Nat.lt_of_lt_of_le (by decide) (hK.2.2.2.2.2.2.1 80 hm80 (Or.inl rfl))) dX12_sure_117 rfl ?_
      refine g_iload (q := 122) 11 X dX12_sure_120 rfl rfl ?_
      obtain ⟨s10, h⟩ := h
      refine g_iald (q := 123) X rfl (Nat.lt_of_lt_of_le (by decide) (hK.2.2.2.2.2.2.1 80 hm80 (Or.inl rfl))) s10 dX12_sure_122 rfl ?_
      refine g_isub (q := 124) X dX12_sure_123 rfl ?_
      refine g_iconst (q := 125) 1 X dX12_sure_124 rfl rfl ic_1 ?_
      refine g_iadd (q := 126) X dX12_sure_125 rfl ?_
      refine g_nmI (fun x11 ex11 => ?_)
      have h := h x11 ex11
      refine g_istore (q := 128) (k0 := 0) 12 (L' := [aR (some 66), aI l1, aI l2, aI l3, aJ, aI l5, aJ, aI l7, aI l8, aI l9, aI l10, aI l11, aI x11]) X dX12_sure_126 rfl (by decide) rfl rfl ?_
      refine g_aload_n (q := 129) 0 X dX12_sure_128 rfl rfl rfl ?_
      refine g_getR (q := 132) (r := some 68) 12 15 X (lk_66_15 hK) (lt2000 (c := 0) (by decide)) kf_X12_17 (by decide) (by decide) rfl rfl (hK.n (by decide)) dX12_sure_129 rfl ?_
      refine g_iload (q := 134) 11 X dX12_sure_132 rfl rfl ?_
      refine g_aload_n (q := 135) 0 X dX12_sure_134 rfl rfl rfl ?_
      refine g_getR (q := 138) (r := some 80) 12 3 X hm80 (lt2000 (c := 0) (by decide)) kf_X12_442 (by decide) (by decide) rfl rfl (hK.n (by decide)) dX12_sure_135 rfl ?_
      refine g_getR (q := 141) (r := some 90) 11 23 X (lkM_23 hK (Or.inl rfl) (hK.2.2.2.2.2.2.1 80 hm80 (Or.inl rfl))) (lt2000 (c := 0) (by decide)) kf_X12_307 (by decide) (by decide) rfl rfl (Nat.lt_of_lt_of_le (by decide) (hK.2.2.2.2.2.2.1 80 hm80 (Or.inl rfl))) dX12_sure_138 rfl ?_
      refine g_iload (q := 143) 11 X dX12_sure_141 rfl rfl ?_
      obtain ⟨s12, h⟩ := h
      refine g_iald (q := 144) X rfl (Nat.lt_of_lt_of_le (by decide) (hK.2.2.2.2.2.2.1 80 hm80 (Or.inl rfl))) s12 dX12_sure_143 rfl ?_
      refine g_iload (q := 146) 10 X dX12_sure_144 rfl rfl ?_
      refine g_iload (q := 148) 12 X dX12_sure_146 rfl rfl ?_
      obtain ⟨s13, h⟩ := h
      refine g_irem (q := 149) X s13 dX12_sure_148 rfl ?_
      refine g_iadd (q := 150) X dX12_sure_149 rfl ?_
      obtain ⟨s14, h⟩ := h
      refine g_iast (q := 151) X rfl (hK.n (by decide)) s14 dX12_sure_150 rfl ?_
      refine g_nmM (fun iv15 eiv15 => ?_)
      have h := h iv15 eiv15
      refine g_iload (q := 153) 10 X dX12_sure_151 rfl rfl ?_
      refine g_iload (q := 155) 12 X dX12_sure_153 rfl rfl ?_
      obtain ⟨s16, h⟩ := h
      refine g_idiv (q := 156) X s16 dX12_sure_155 rfl ?_
      refine g_nmI (fun x17 ex17 => ?_)
      have h := h x17 ex17
      refine g_istore (q := 158) (k0 := 0) 10 (L' := [aR (some 66), aI l1, aI l2, aI l3, aJ, aI l5, aJ, aI l7, aI l8, aI l9, aI x17, aI l11, aI x11]) X dX12_sure_156 rfl (by decide) rfl rfl ?_
      refine g_sub (L' := [aR (some 66), aI l1, aI l2, aI l3, aJ, aI l5, aJ, aI l7, aI l8, aI l9, aI x17, aI l11, aJ]) ⟨Or.inr rfl, Or.inr rfl, Or.inr rfl, Or.inr rfl, Or.inl rfl, Or.inr rfl, Or.inl rfl, Or.inr rfl, Or.inr rfl, Or.inr rfl, Or.inr rfl, Or.inr rfl, Or.inl rfl, trivial⟩ ?_
      exact cb_X12_sure_158 X hR hK  hP67 hP81 h
    · have h := h.2 c8
      refine g_goto (q := 158) X dX12_sure_100 (by decide) ?_
      exact cb_X12_sure_158 X hR hK  hP67 hP81 h
def wl_X12_sure_81 (P67 : Int → Int → Int → Int → Int → Int → Int → IV → Prop) (l1 l2 l3 l5 l7 l8 l9 l10 l11 : Int) (iv : IV) (rv : RV) (K : Int → IV → Prop) : Prop :=
  ∀ P : Int → Int → Int → Int → Int → Int → Int → Int → Int → IV → Prop, (∀ (l1' l2' l3' l5' l7' l8' l9' l10' l11' : Int) (iv' : IV), bd_X12_sure_81 P67 P l1' l2' l3' l5' l7' l8' l9' l10' l11' iv' rv K → P l1' l2' l3' l5' l7' l8' l9' l10' l11' iv') → P l1 l2 l3 l5 l7 l8 l9 l10 l11 iv
theorem cl_X12_sure_81 {Γ : GX} {n : Nat} {iv : IV} {rv : RV} {K : Int → IV → Prop} {P67 : Int → Int → Int → Int → Int → Int → Int → IV → Prop} {l1 l2 l3 l5 l7 l8 l9 l10 l11 : Int} (X : Cx Γ RX12 cX12_sure 13 5) (hR : Rt Γ (some .int) 0 0 (fI1 n rv K)) (hK : Lk n rv)  (hP67 : ∀ (l1' l2' l3' l5' l7' l8' l9' : Int) (iv' : IV), P67 l1' l2' l3' l5' l7' l8' l9' iv' → G Γ 13 67 [aR (some 66), aI (l1'), aI (l2'), aI (l3'), aJ, aI (l5'), aJ, aI (l7'), aI (l8'), aI (l9'), aJ, aJ, aJ] [] n iv' rv 0 0) (h : wl_X12_sure_81 P67 l1 l2 l3 l5 l7 l8 l9 l10 l11 iv rv K) : G Γ 13 81 [aR (some 66), aI l1, aI l2, aI l3, aJ, aI l5, aJ, aI l7, aI l8, aI l9, aI l10, aI l11, aJ] [] n iv rv 0 0 := by
  exact h (fun l1' l2' l3' l5' l7' l8' l9' l10' l11' iv' =>  G Γ 13 81 [aR (some 66), aI (l1'), aI (l2'), aI (l3'), aJ, aI (l5'), aJ, aI (l7'), aI (l8'), aI (l9'), aI (l10'), aI (l11'), aJ] [] n iv' rv 0 0) (fun l1' l2' l3' l5' l7' l8' l9' l10' l11' iv' hb => cb_X12_sure_81 X hR hK  hP67 (fun l1' l2' l3' l5' l7' l8' l9' l10' l11' iv' hp => hp) hb)
def bd_X12_sure_67 (P67 : Int → Int → Int → Int → Int → Int → Int → IV → Prop) (l1 l2 l3 l5 l7 l8 l9 : Int) (iv : IV) (rv : RV) (K : Int → IV → Prop) : Prop :=
  ((l7 ≤ l9) → (wp_X12_done l8 iv rv (fun r2 iv3 => K r2 iv3))) ∧ ((¬ (l7 ≤ l9)) → (wl_X12_sure_81 P67 l1 l2 l3 l5 l7 l8 l9 l9 0 iv rv K))
set_option maxRecDepth 10000 in
theorem cb_X12_sure_67 {Γ : GX} {n : Nat} {iv : IV} {rv : RV} {K : Int → IV → Prop} {P67 : Int → Int → Int → Int → Int → Int → Int → IV → Prop} {l1 l2 l3 l5 l7 l8 l9 : Int} (X : Cx Γ RX12 cX12_sure 13 5) (hR : Rt Γ (some .int) 0 0 (fI1 n rv K)) (hK : Lk n rv)  (hP67 : ∀ (l1' l2' l3' l5' l7' l8' l9' : Int) (iv' : IV), P67 l1' l2' l3' l5' l7' l8' l9' iv' → G Γ 13 67 [aR (some 66), aI (l1'), aI (l2'), aI (l3'), aJ, aI (l5'), aJ, aI (l7'), aI (l8'), aI (l9'), aJ, aJ, aJ] [] n iv' rv 0 0) (h : bd_X12_sure_67 P67 l1 l2 l3 l5 l7 l8 l9 iv rv K) : G Γ 13 67 [aR (some 66), aI l1, aI l2, aI l3, aJ, aI l5, aJ, aI l7, aI l8, aI l9, aJ, aJ, aJ] [] n iv rv 0 0 := by
  unfold bd_X12_sure_67 at h
  refine g_iload (q := 69) 9 X dX12_sure_67 rfl rfl ?_
  refine g_iload (q := 71) 7 X dX12_sure_69 rfl rfl ?_
  refine g_icmp_ge (q := 74) 205 X dX12_sure_71 (by decide) rfl (fun c1 => ?_) (fun c1 => ?_)
  · have h := h.1 c1
    refine g_aload_n (q := 206) 0 X dX12_sure_205 rfl rfl rfl ?_
    refine g_iload (q := 208) 8 X dX12_sure_206 rfl rfl ?_
    refine g_cv (q := 211) [aI l8] 12 X (ce_X12_done hK  h) kV_X12_65 rfl (by decide) rfl (hK.n (by decide)) rfl rfl (Nat.le_of_ble_eq_true rfl) (by decide) dX12_sure_208 rfl (fun r n_ iv_ rv_ hf => ?_)
    obtain ⟨en_, er_, r2, rfl, h⟩ := hf; subst n_; subst rv_
    generalize iv_ = iv3 at h ⊢
    exact g_iret (q := 0) X hR dX12_sure_211 rfl ⟨rfl, rfl, _, rfl, h⟩
  · have h := h.2 c1
    refine g_iload (q := 76) 9 X dX12_sure_74 rfl rfl ?_
    refine g_istore (q := 78) (k0 := 0) 10 (L' := [aR (some 66), aI l1, aI l2, aI l3, aJ, aI l5, aJ, aI l7, aI l8, aI l9, aI l9, aJ, aJ]) X dX12_sure_76 rfl (by decide) rfl rfl ?_
    refine g_iconst (q := 79) 0 X dX12_sure_78 rfl rfl ic_0 ?_
    refine g_istore (q := 81) (k0 := 0) 11 (L' := [aR (some 66), aI l1, aI l2, aI l3, aJ, aI l5, aJ, aI l7, aI l8, aI l9, aI l9, aI 0, aJ]) X dX12_sure_79 rfl (by decide) rfl rfl ?_
    exact cl_X12_sure_81 X hR hK  hP67 h
def wl_X12_sure_67 (l1 l2 l3 l5 l7 l8 l9 : Int) (iv : IV) (rv : RV) (K : Int → IV → Prop) : Prop :=
  ∀ P : Int → Int → Int → Int → Int → Int → Int → IV → Prop, (∀ (l1' l2' l3' l5' l7' l8' l9' : Int) (iv' : IV), bd_X12_sure_67  P l1' l2' l3' l5' l7' l8' l9' iv' rv K → P l1' l2' l3' l5' l7' l8' l9' iv') → P l1 l2 l3 l5 l7 l8 l9 iv
theorem cl_X12_sure_67 {Γ : GX} {n : Nat} {iv : IV} {rv : RV} {K : Int → IV → Prop} {l1 l2 l3 l5 l7 l8 l9 : Int} (X : Cx Γ RX12 cX12_sure 13 5) (hR : Rt Γ (some .int) 0 0 (fI1 n rv K)) (hK : Lk n rv)  (h : wl_X12_sure_67 l1 l2 l3 l5 l7 l8 l9 iv rv K) : G Γ 13 67 [aR (some 66), aI l1, aI l2, aI l3, aJ, aI l5, aJ, aI l7, aI l8, aI l9, aJ, aJ, aJ] [] n iv rv 0 0 := by
  exact h (fun l1' l2' l3' l5' l7' l8' l9' iv' =>  G Γ 13 67 [aR (some 66), aI (l1'), aI (l2'), aI (l3'), aJ, aI (l5'), aJ, aI (l7'), aI (l8'), aI (l9'), aJ, aJ, aJ] [] n iv' rv 0 0) (fun l1' l2' l3' l5' l7' l8' l9' iv' hb => cb_X12_sure_67 X hR hK   (fun l1' l2' l3' l5' l7' l8' l9' iv' hp => hp) hb)
def wp_X12_sure (a1 : Int) (a2 : Int) (a3 : Int) (a4 : Int) (a5 : Int) (iv : IV) (rv : RV) (K : Int → IV → Prop) : Prop :=
  ∀ iv1, iv1 = w2 iv 66 0 0 → wp_X12_refusesOwes a1 a2 a3 a4 iv1 rv (fun r2 => ((r2 ≤ 0) → (wp_X12_choices iv1 rv (fun r4 => ((r4 ≤ 2000) → (wp_X12_laysFor a1 a4 iv1 rv (fun iv6 => wp_X12_owed a1 a2 a3 iv6 rv (fun r7 iv8 => wl_X12_sure_67 a1 a2 a3 a5 r4 r7 1 iv8 rv K)))) ∧ ((¬ (r4 ≤ 2000)) → (wp_X12_refused 3 iv1 rv (fun r9 iv10 => K r9 iv10)))))) ∧ ((¬ (r2 ≤ 0)) → (wp_X12_refused r2 iv1 rv (fun r11 iv12 => K r11 iv12))))
set_option maxRecDepth 10000 in
theorem ce_X12_sure {n : Nat} {iv : IV} {rv : RV} {K : Int → IV → Prop} {a1 : Int} {a2 : Int} {a3 : Int} {a4 : Int} {a5 : Int} (hK : Lk n rv)  (h : wp_X12_sure a1 a2 a3 a4 a5 iv rv K) : Call 5 0 0 yX12_sure cX12_sure 13 (some .int) [aR (some 66), aI a1, aI a2, aI a3, aI a4, aI a5] n iv rv (fI1 n rv K) := by
  refine Call.by (L := [aR (some 66), aI a1, aI a2, aI a3, aI a4, aI a5, aJ, aJ, aJ, aJ, aJ, aJ, aJ]) (by decide) rfl ⟨trivial, trivial, trivial, trivial, trivial, trivial, trivial⟩ rfl (Nat.le_of_ble_eq_true rfl) (fun Γ X hR => ?_)
  unfold wp_X12_sure at h
  refine g_aload_n (q := 1) 0 X dX12_sure_0 rfl rfl rfl ?_
  refine g_iconst (q := 2) 0 X dX12_sure_1 rfl rfl ic_0 ?_
  refine g_putI (q := 5) 12 0 X (Or.inl rfl) rfl kf_X12_54 (by decide) (by decide) rfl (hK.n (by decide)) dX12_sure_2 rfl ?_
  refine g_nmM (fun iv1 eiv1 => ?_)
  have h := h iv1 eiv1
  refine g_aload_n (q := 6) 0 X dX12_sure_5 rfl rfl rfl ?_
  refine g_iload_n (q := 7) 1 X dX12_sure_6 rfl rfl rfl ?_
  refine g_iload_n (q := 8) 2 X dX12_sure_7 rfl rfl rfl ?_
  refine g_iload_n (q := 9) 3 X dX12_sure_8 rfl rfl rfl ?_
  refine g_iload (q := 11) 4 X dX12_sure_9 rfl rfl ?_
  refine g_cv (q := 14) [aI a1, aI a2, aI a3, aI a4] 12 X (ce_X12_refusesOwes hK  h) kV_X12_519 rfl (by decide) rfl (hK.n (by decide)) rfl rfl (Nat.le_of_ble_eq_true rfl) (by decide) dX12_sure_11 rfl (fun r n_ iv_ rv_ hf => ?_)
  obtain ⟨en_, ei_, er_, r2, rfl, h⟩ := hf; subst n_; subst iv_; subst rv_
  refine g_istore (q := 16) (k0 := 0) 6 (L' := [aR (some 66), aI a1, aI a2, aI a3, aI a4, aI a5, aI r2, aJ, aJ, aJ, aJ, aJ, aJ]) X dX12_sure_14 rfl (by decide) rfl rfl ?_
  refine g_iload (q := 18) 6 X dX12_sure_16 rfl rfl ?_
  refine g_if_le (q := 21) 28 X dX12_sure_18 (by decide) rfl (fun c3 => ?_) (fun c3 => ?_)
  · have h := h.1 c3
    refine g_aload_n (q := 29) 0 X dX12_sure_28 rfl rfl rfl ?_
    refine g_cv (q := 32) [] 12 X (ce_X12_choices hK  h) kV_X12_529 rfl (by decide) rfl (hK.n (by decide)) rfl rfl (Nat.le_of_ble_eq_true rfl) (by decide) dX12_sure_29 rfl (fun r n_ iv_ rv_ hf => ?_)
    obtain ⟨en_, ei_, er_, r4, rfl, h⟩ := hf; subst n_; subst iv_; subst rv_
    refine g_istore (q := 34) (k0 := 0) 7 (L' := [aR (some 66), aI a1, aI a2, aI a3, aI a4, aI a5, aI r2, aI r4, aJ, aJ, aJ, aJ, aJ]) X dX12_sure_32 rfl (by decide) rfl rfl ?_
    refine g_iload (q := 36) 7 X dX12_sure_34 rfl rfl ?_
    refine g_sipush (q := 39) 2000 X dX12_sure_36 rfl sc_2000 ic_2000 ?_
    refine g_icmp_le (q := 42) 48 X dX12_sure_39 (by decide) rfl (fun c5 => ?_) (fun c5 => ?_)
    · have h := h.1 c5
      refine g_aload_n (q := 49) 0 X dX12_sure_48 rfl rfl rfl ?_
      refine g_iload_n (q := 50) 1 X dX12_sure_49 rfl rfl rfl ?_
      refine g_iload (q := 52) 4 X dX12_sure_50 rfl rfl ?_
      refine g_cv (q := 55) [aI a1, aI a4] 12 X (ce_X12_laysFor hK  h) kV_X12_523 rfl (by decide) rfl (hK.n (by decide)) rfl rfl (Nat.le_of_ble_eq_true rfl) (by decide) dX12_sure_52 rfl (fun r n_ iv_ rv_ hf => ?_)
      obtain ⟨en_, er_, rfl, h⟩ := hf; subst n_; subst rv_
      generalize iv_ = iv6 at h ⊢
      refine g_aload_n (q := 56) 0 X dX12_sure_55 rfl rfl rfl ?_
      refine g_iload_n (q := 57) 1 X dX12_sure_56 rfl rfl rfl ?_
      refine g_iload_n (q := 58) 2 X dX12_sure_57 rfl rfl rfl ?_
      refine g_iload_n (q := 59) 3 X dX12_sure_58 rfl rfl rfl ?_
      refine g_cv (q := 62) [aI a1, aI a2, aI a3] 12 X (ce_X12_owed hK  h) kV_X12_526 rfl (by decide) rfl (hK.n (by decide)) rfl rfl (Nat.le_of_ble_eq_true rfl) (by decide) dX12_sure_59 rfl (fun r n_ iv_ rv_ hf => ?_)
      obtain ⟨en_, er_, r7, rfl, h⟩ := hf; subst n_; subst rv_
      generalize iv_ = iv8 at h ⊢
      refine g_istore (q := 64) (k0 := 0) 8 (L' := [aR (some 66), aI a1, aI a2, aI a3, aI a4, aI a5, aI r2, aI r4, aI r7, aJ, aJ, aJ, aJ]) X dX12_sure_62 rfl (by decide) rfl rfl ?_
      refine g_iconst (q := 65) 1 X dX12_sure_64 rfl rfl ic_1 ?_
      refine g_istore (q := 67) (k0 := 0) 9 (L' := [aR (some 66), aI a1, aI a2, aI a3, aI a4, aI a5, aI r2, aI r4, aI r7, aI 1, aJ, aJ, aJ]) X dX12_sure_65 rfl (by decide) rfl rfl ?_
      refine g_sub (L' := [aR (some 66), aI a1, aI a2, aI a3, aJ, aI a5, aJ, aI r4, aI r7, aI 1, aJ, aJ, aJ]) ⟨Or.inr rfl, Or.inr rfl, Or.inr rfl, Or.inr rfl, Or.inl rfl, Or.inr rfl, Or.inl rfl, Or.inr rfl, Or.inr rfl, Or.inr rfl, Or.inl rfl, Or.inl rfl, Or.inl rfl, trivial⟩ ?_
      exact cl_X12_sure_67 X hR hK   h
    · have h := h.2 c5
      refine g_aload_n (q := 43) 0 X dX12_sure_42 rfl rfl rfl ?_
      refine g_iconst (q := 44) 3 X dX12_sure_43 rfl rfl ic_3 ?_
      refine g_cv (q := 47) [aI 3] 12 X (ce_X12_refused hK  h) kV_X12_60 rfl (by decide) rfl (hK.n (by decide)) rfl rfl (Nat.le_of_ble_eq_true rfl) (by decide) dX12_sure_44 rfl (fun r n_ iv_ rv_ hf => ?_)
      obtain ⟨en_, er_, r9, rfl, h⟩ := hf; subst n_; subst rv_
      generalize iv_ = iv10 at h ⊢
      exact g_iret (q := 0) X hR dX12_sure_47 rfl ⟨rfl, rfl, _, rfl, h⟩
  · have h := h.2 c3
    refine g_aload_n (q := 22) 0 X dX12_sure_21 rfl rfl rfl ?_
    refine g_iload (q := 24) 6 X dX12_sure_22 rfl rfl ?_
    refine g_cv (q := 27) [aI r2] 12 X (ce_X12_refused hK  h) kV_X12_60 rfl (by decide) rfl (hK.n (by decide)) rfl rfl (Nat.le_of_ble_eq_true rfl) (by decide) dX12_sure_24 rfl (fun r n_ iv_ rv_ hf => ?_)
    obtain ⟨en_, er_, r11, rfl, h⟩ := hf; subst n_; subst rv_
    generalize iv_ = iv12 at h ⊢
    exact g_iret (q := 0) X hR dX12_sure_27 rfl ⟨rfl, rfl, _, rfl, h⟩
