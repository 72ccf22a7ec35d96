/-! THE CLAIM OUT OF ONE WALK OF THE LAW'S BODY. Your part is whole_start (and what it stands on); all else here is the same for every law, but numbers. -/
def R_law : String := "TollBarsLaw"
def lw_P (b : Addr) (xs : List Int32) (args : Array Value) (s : State) : Prop := args = #[.ref b] ∧ s.IntsAt b xs ∧ xs.length ≤ 3072 ∧ (Jvm.Cond.and given_1 narrow_1).before args s = true
def lw_Q (_ : Array Value) (s : State) (o : Outcome) (t : State) : Prop := o = .returned (some (.int 1)) ∧ Framed s o t [] 601024 7293034
def lw_Z (below : List Frame) (a : Array Value) (s : State) : State → Prop := fun t => ∃ o, t.status = .running ∧ Ended t below o ∧ lw_Q a s o t
/-- the law's own end, with 1 on the stack, nothing written that was there before, its room as the claim has it -/
theorem lw_ret {p : Program} {l : Launch} {e : Env} {s : State} {m : MethodId} {below : List Frame} {meth : Method} {c : Code} {b : Nat} (hx : p.tables.exec = Jvm.exec) (hb : c.code = code) (hr : meth.sig.returnType = ret) (hlocks : meth.locks = false) {pc : Nat} {H : Heap} {ls : Array Slot} (hdg : decode code pc = .ok (.ireturn, 1)) : W p l e room_1 s m #[Value.ref b] below meth c H [] 601024 7293034 (lw_Z below #[Value.ref b] s) (F0 m pc ls [.int 1]) := by
  intro T hT X
  obtain ⟨fs, hret, hrun, hended, hW, hframe⟩ := X.leave (v := some (.int 1)) (hlocks := hlocks) (fun h => by rw [hr] at h; cases h)
  have hmeth' : T.vm.method? m = some meth := X.method'
  refine ⟨T.setFrames fs, ?_, .returned (some (.int 1)), hrun, hended, rfl, ⟨_, rfl⟩, hW, hframe⟩
  jvm_step X.here [X.here.top, hx, hb, hdg, hmeth', hr, ret, narrow_b1]
  (try refine ⟨rfl, ?_⟩); (try refine ⟨rfl, ?_⟩)
  first | (intro acts; rw [hret _ acts rfl rfl rfl]) | rw [hret _ _ rfl rfl rfl]
  exact Steps.refl _
/-- what holds at the law's entry: the machine, the code, the tables' words (any of lw_tbl by 'hts w (by decide +kernel)'), the script of L ints xs at the cell b, what the Statement gives of the start (any of its parts by flat_of_before) -/
def lw_At (p : Program) (s : State) (m : MethodId) (meth : Method) (c : Code) (b L : Nat) (xs : Nat → Int32) : Prop :=
  p.tables.exec = Jvm.exec ∧ c.code = code ∧ meth.sig.returnType = ret ∧ c.maxLocals = 7 ∧ s.vm.findClass R_law = some m.cls ∧ (∀ w ∈ lw_tbl, w.before #[Value.ref b] s = true) ∧ va_X b L xs s s.heap ∧ b < s.heap.size ∧ meth.locks = false ∧ (Jvm.Cond.and given_1 narrow_1).before #[Value.ref b] s = true
abbrev LwL (i : Int) : List AV := [aR (some 1993), aR (some 0), aR (some 66), aR (some 79), aI i, aJ, aJ]
def LQ (Γ : GX) : Prop := match Γ with
  | (_, _, _, R, s, _, args, below, meth, _, _, _, _, bs, _, n0, Q) => bs = s.heap.size ∧ R = room_1 ∧ (∃ b, args = #[.ref b]) ∧ Q = lw_Z below args s ∧ meth.sig.returnType = ret ∧ n0 = 0
theorem LQ.n0 {Γ : GX} (h : LQ Γ) : N0 Γ := by
  obtain ⟨p, l, e, R, s, m, args, below, meth, c, D, cA, sa, bs, ad0, n0, Q⟩ := Γ
  exact h.2.2.2.2.2
theorem LQ.cap {Γ : GX} (h : LQ Γ) {u v : Nat} (hu : u ≤ 601024) (hv : v ≤ 7293034) : Cap Γ u v := by
  obtain ⟨p, l, e, R, s, m, args, below, meth, c, D, cA, sa, bs, ad0, n0, Q⟩ := Γ
  obtain ⟨-, rfl, -⟩ := h
  exact ⟨hu, hv⟩
theorem g_lawret {Γ : GX} {L : List AV} {n : Nat} {iv : IV} {rv : RV} {u v : Nat} (X : Cx Γ RL cL_law 7 17) (hQ : LQ Γ) (hu : u ≤ 601024) (hv : v ≤ 7293034) : G Γ 7 1416 L [aI 1] n iv rv u v := by
  obtain ⟨p, l, e, R, s, m, args, below, meth, c, D, cA, sa, bs, ad0, n0, Q⟩ := Γ
  obtain ⟨hx, hb, hml, hown, hlk, hT, hK, hF, hbs, hfr, hlo⟩ := X
  obtain ⟨rfl, rfl, ⟨b, rfl⟩, rfl, hret, -⟩ := hQ
  intro ad H locs ls h1 h2 h3 h4 h5 h6 h7
  refine va_forget (fun q hq => h6.2.2 q hq) ?_
  refine W.widen (k := 601024) (n := 7293034) hu hv ?_
  exact lw_ret hx hb hret hlk dL_law_1416
def Pr_feed (Inv : Nat → IV → RV → Prop) : Prop := ∀ (n : Nat) (iv : IV) (rv : RV) (a1 a2 a3 a4 a5 : Int), Inv n iv rv → inI a1 → inI a2 → inI a3 → inI a4 → inI a5 → wp_X10_feed a1 a2 a3 a4 a5 iv rv (fun r1 iv1 => wp_X12_feed a1 a2 a3 a4 a5 iv1 rv (fun r2 iv2 => r2 = r1 ∧ Inv n iv2 rv))
theorem kV_L_19 : lkV RL 19 yX10_feed cX10_feed 6 (some .int) 5 = true := lkV_of 2 187 2 188 (lkM_of 2 186 2 189 1 1 rfl rfl rfl (by decide +kernel) (by decide +kernel) (by decide)) rfl rfl
theorem kV_L_23 : lkV RL 23 yX12_feed cX12_feed 8 (some .int) 5 = true := lkV_of 5 201 5 202 (lkM_of 5 200 5 203 1 12 rfl rfl rfl (by decide +kernel) (by decide +kernel) (by decide)) rfl rfl
set_option maxRecDepth 10000 in
theorem lc_feed {Γ : GX} {Inv : Nat → IV → RV → Prop} {Ln : Nat} {xs : Nat → Int32} {n : Nat} {iv : IV} {rv : RV} {u v : Nat} {i : Int} (X : Cx Γ RL cL_law 7 17) (hQ : LQ Γ) (hs : SX Γ Ln xs) (hi : 0 ≤ i ∧ i + 6 ≤ Ln) (hL : Ln ≤ 3072) (hu : u ≤ 600000) (hv : v ≤ 7290000) (hK : Lk n rv) (hI : Inv n iv rv) (hp : Pr_feed Inv) (hn : ∀ n iv rv, Inv n iv rv → G Γ 7 1409 (LwL i) [] n iv rv u v) : G Γ 7 176 (LwL i) [] n iv rv u v := by
  refine g_aload_n (q := 177) 1 X dL_law_176 rfl rfl rfl ?_
  refine g_aload_n (q := 178) 0 X dL_law_177 rfl rfl rfl ?_
  refine g_iload (q := 180) 4 X dL_law_178 rfl rfl ?_
  refine g_iconst (q := 181) 1 X dL_law_180 rfl rfl (by unfold inI; omega) ?_
  refine g_iadd (q := 182) X dL_law_181 rfl ?_
  rw [show w32 (i + 1) = i + 1 from w32_id (by omega) (by omega)]
  refine g_sld (q := 183) X hs ⟨by omega, by omega⟩ dL_law_182 rfl ?_
  refine g_aload_n (q := 184) 0 X dL_law_183 rfl rfl rfl ?_
  refine g_iload (q := 186) 4 X dL_law_184 rfl rfl ?_
  refine g_iconst (q := 187) 2 X dL_law_186 rfl rfl (by unfold inI; omega) ?_
  refine g_iadd (q := 188) X dL_law_187 rfl ?_
  rw [show w32 (i + 2) = i + 2 from w32_id (by omega) (by omega)]
  refine g_sld (q := 189) X hs ⟨by omega, by omega⟩ dL_law_188 rfl ?_
  refine g_aload_n (q := 190) 0 X dL_law_189 rfl rfl rfl ?_
  refine g_iload (q := 192) 4 X dL_law_190 rfl rfl ?_
  refine g_iconst (q := 193) 3 X dL_law_192 rfl rfl (by unfold inI; omega) ?_
  refine g_iadd (q := 194) X dL_law_193 rfl ?_
  rw [show w32 (i + 3) = i + 3 from w32_id (by omega) (by omega)]
  refine g_sld (q := 195) X hs ⟨by omega, by omega⟩ dL_law_194 rfl ?_
  refine g_aload_n (q := 196) 0 X dL_law_195 rfl rfl rfl ?_
  refine g_iload (q := 198) 4 X dL_law_196 rfl rfl ?_
  refine g_iconst (q := 199) 4 X dL_law_198 rfl rfl (by unfold inI; omega) ?_
  refine g_iadd (q := 200) X dL_law_199 rfl ?_
  rw [show w32 (i + 4) = i + 4 from w32_id (by omega) (by omega)]
  refine g_sld (q := 201) X hs ⟨by omega, by omega⟩ dL_law_200 rfl ?_
  refine g_aload_n (q := 202) 0 X dL_law_201 rfl rfl rfl ?_
  refine g_iload (q := 204) 4 X dL_law_202 rfl rfl ?_
  refine g_iconst (q := 205) 5 X dL_law_204 rfl rfl (by unfold inI; omega) ?_
  refine g_iadd (q := 206) X dL_law_205 rfl ?_
  rw [show w32 (i + 5) = i + 5 from w32_id (by omega) (by omega)]
  refine g_sld (q := 207) X hs ⟨by omega, by omega⟩ dL_law_206 rfl ?_
  have h := hp n iv rv ((xs (i + 1).toNat).toInt) ((xs (i + 2).toNat).toInt) ((xs (i + 3).toNat).toInt) ((xs (i + 4).toNat).toInt) ((xs (i + 5).toNat).toInt) hI (i32_in _) (i32_in _) (i32_in _) (i32_in _) (i32_in _)
  refine g_cvU (q := 210) [aI ((xs (i + 1).toNat).toInt), aI ((xs (i + 2).toNat).toInt), aI ((xs (i + 3).toNat).toInt), aI ((xs (i + 4).toNat).toInt), aI ((xs (i + 5).toNat).toInt)] 10 X (ce_X10_feed hK h) kV_L_19 rfl (by decide) rfl (hK.n (by decide)) rfl rfl (Nat.le_of_ble_eq_true rfl) (by decide) (hQ.cap (by omega) (by omega)) dL_law_207 rfl (fun r n_ iv_ rv_ hf => ?_)
  obtain ⟨en_, er_, r1, rfl, h⟩ := hf; subst n_; subst rv_
  generalize iv_ = iv1 at h ⊢
  have hK1 := hK
  refine g_aload_n (q := 211) 2 X dL_law_210 rfl rfl rfl ?_
  refine g_aload_n (q := 212) 0 X dL_law_211 rfl rfl rfl ?_
  refine g_iload (q := 214) 4 X dL_law_212 rfl rfl ?_
  refine g_iconst (q := 215) 1 X dL_law_214 rfl rfl (by unfold inI; omega) ?_
  refine g_iadd (q := 216) X dL_law_215 rfl ?_
  rw [show w32 (i + 1) = i + 1 from w32_id (by omega) (by omega)]
  refine g_sld (q := 217) X hs ⟨by omega, by omega⟩ dL_law_216 rfl ?_
  refine g_aload_n (q := 218) 0 X dL_law_217 rfl rfl rfl ?_
  refine g_iload (q := 220) 4 X dL_law_218 rfl rfl ?_
  refine g_iconst (q := 221) 2 X dL_law_220 rfl rfl (by unfold inI; omega) ?_
  refine g_iadd (q := 222) X dL_law_221 rfl ?_
  rw [show w32 (i + 2) = i + 2 from w32_id (by omega) (by omega)]
  refine g_sld (q := 223) X hs ⟨by omega, by omega⟩ dL_law_222 rfl ?_
  refine g_aload_n (q := 224) 0 X dL_law_223 rfl rfl rfl ?_
  refine g_iload (q := 226) 4 X dL_law_224 rfl rfl ?_
  refine g_iconst (q := 227) 3 X dL_law_226 rfl rfl (by unfold inI; omega) ?_
  refine g_iadd (q := 228) X dL_law_227 rfl ?_
  rw [show w32 (i + 3) = i + 3 from w32_id (by omega) (by omega)]
  refine g_sld (q := 229) X hs ⟨by omega, by omega⟩ dL_law_228 rfl ?_
  refine g_aload_n (q := 230) 0 X dL_law_229 rfl rfl rfl ?_
  refine g_iload (q := 232) 4 X dL_law_230 rfl rfl ?_
  refine g_iconst (q := 233) 4 X dL_law_232 rfl rfl (by unfold inI; omega) ?_
  refine g_iadd (q := 234) X dL_law_233 rfl ?_
  rw [show w32 (i + 4) = i + 4 from w32_id (by omega) (by omega)]
  refine g_sld (q := 235) X hs ⟨by omega, by omega⟩ dL_law_234 rfl ?_
  refine g_aload_n (q := 236) 0 X dL_law_235 rfl rfl rfl ?_
  refine g_iload (q := 238) 4 X dL_law_236 rfl rfl ?_
  refine g_iconst (q := 239) 5 X dL_law_238 rfl rfl (by unfold inI; omega) ?_
  refine g_iadd (q := 240) X dL_law_239 rfl ?_
  rw [show w32 (i + 5) = i + 5 from w32_id (by omega) (by omega)]
  refine g_sld (q := 241) X hs ⟨by omega, by omega⟩ dL_law_240 rfl ?_
  refine g_cvU (q := 244) [aI ((xs (i + 1).toNat).toInt), aI ((xs (i + 2).toNat).toInt), aI ((xs (i + 3).toNat).toInt), aI ((xs (i + 4).toNat).toInt), aI ((xs (i + 5).toNat).toInt)] 12 X (ce_X12_feed hK1 h) kV_L_23 rfl (by decide) rfl (hK1.n (by decide)) rfl rfl (Nat.le_of_ble_eq_true rfl) (by decide) (hQ.cap (by omega) (by omega)) dL_law_241 rfl (fun r n_ iv_ rv_ hf => ?_)
  obtain ⟨en_, er_, r2, rfl, h⟩ := hf; subst n_; subst rv_
  generalize iv_ = iv2 at h ⊢
  refine g_icmp_eq (q := 247) 1409 X dL_law_244 (by decide) rfl (fun _ => hn _ _ _ h.2) (fun cx => absurd h.1.symm cx)
def Pr_fault (Inv : Nat → IV → RV → Prop) : Prop := ∀ (n : Nat) (iv : IV) (rv : RV), Inv n iv rv → wp_X10_fault  iv rv (fun r1 => wp_X12_fault  iv rv (fun r2 iv2 => r2 = r1 ∧ Inv n iv2 rv))
theorem kV_L_28 : lkV RL 28 yX10_fault cX10_fault 1 (some .int) 0 = true := lkV_of 3 190 3 191 (lkM_of 3 189 3 192 1 1 rfl rfl rfl (by decide +kernel) (by decide +kernel) (by decide)) rfl rfl
theorem kV_L_32 : lkV RL 32 yX12_fault cX12_fault 1 (some .int) 0 = true := lkV_of 7 90 7 91 (lkM_of 7 89 7 92 1 12 rfl rfl rfl (by decide +kernel) (by decide +kernel) (by decide)) rfl rfl
set_option maxRecDepth 10000 in
theorem lc_fault {Γ : GX} {Inv : Nat → IV → RV → Prop} {Ln : Nat} {xs : Nat → Int32} {n : Nat} {iv : IV} {rv : RV} {u v : Nat} {i : Int} (X : Cx Γ RL cL_law 7 17) (hQ : LQ Γ) (hs : SX Γ Ln xs) (hi : 0 ≤ i ∧ i + 6 ≤ Ln) (hL : Ln ≤ 3072) (hu : u ≤ 600000) (hv : v ≤ 7290000) (hK : Lk n rv) (hI : Inv n iv rv) (hp : Pr_fault Inv) (hn : ∀ n iv rv, Inv n iv rv → G Γ 7 1409 (LwL i) [] n iv rv u v) : G Γ 7 274 (LwL i) [] n iv rv u v := by
  refine g_aload_n (q := 275) 1 X dL_law_274 rfl rfl rfl ?_
  have h := hp n iv rv  hI
  refine g_cvU (q := 278) [] 10 X (ce_X10_fault hK h) kV_L_28 rfl (by decide) rfl (hK.n (by decide)) rfl rfl (Nat.le_of_ble_eq_true rfl) (by decide) (hQ.cap (by omega) (by omega)) dL_law_275 rfl (fun r n_ iv_ rv_ hf => ?_)
  obtain ⟨en_, ei_, er_, r1, rfl, h⟩ := hf; subst n_; subst iv_; subst rv_
  have hK1 := hK
  refine g_aload_n (q := 279) 2 X dL_law_278 rfl rfl rfl ?_
  refine g_cvU (q := 282) [] 12 X (ce_X12_fault hK1 h) kV_L_32 rfl (by decide) rfl (hK1.n (by decide)) rfl rfl (Nat.le_of_ble_eq_true rfl) (by decide) (hQ.cap (by omega) (by omega)) dL_law_279 rfl (fun r n_ iv_ rv_ hf => ?_)
  obtain ⟨en_, er_, r2, rfl, h⟩ := hf; subst n_; subst rv_
  generalize iv_ = iv2 at h ⊢
  refine g_icmp_eq (q := 285) 1409 X dL_law_282 (by decide) rfl (fun _ => hn _ _ _ h.2) (fun cx => absurd h.1.symm cx)
def Pr_where (Inv : Nat → IV → RV → Prop) : Prop := ∀ (n : Nat) (iv : IV) (rv : RV), Inv n iv rv → wp_X10_where  iv rv (fun r1 => wp_X12_where  iv rv (fun r2 iv2 => r2 = r1 ∧ Inv n iv2 rv))
theorem kV_L_33 : lkV RL 33 yX10_where cX10_where 1 (some .int) 0 = true := lkV_of 3 194 3 195 (lkM_of 3 193 3 196 1 1 rfl rfl rfl (by decide +kernel) (by decide +kernel) (by decide)) rfl rfl
theorem kV_L_36 : lkV RL 36 yX12_where cX12_where 1 (some .int) 0 = true := lkV_of 7 94 7 95 (lkM_of 7 93 7 96 1 12 rfl rfl rfl (by decide +kernel) (by decide +kernel) (by decide)) rfl rfl
set_option maxRecDepth 10000 in
theorem lc_where {Γ : GX} {Inv : Nat → IV → RV → Prop} {Ln : Nat} {xs : Nat → Int32} {n : Nat} {iv : IV} {rv : RV} {u v : Nat} {i : Int} (X : Cx Γ RL cL_law 7 17) (hQ : LQ Γ) (hs : SX Γ Ln xs) (hi : 0 ≤ i ∧ i + 6 ≤ Ln) (hL : Ln ≤ 3072) (hu : u ≤ 600000) (hv : v ≤ 7290000) (hK : Lk n rv) (hI : Inv n iv rv) (hp : Pr_where Inv) (hn : ∀ n iv rv, Inv n iv rv → G Γ 7 1409 (LwL i) [] n iv rv u v) : G Γ 7 287 (LwL i) [] n iv rv u v := by
  refine g_aload_n (q := 288) 1 X dL_law_287 rfl rfl rfl ?_
  have h := hp n iv rv  hI
  refine g_cvU (q := 291) [] 10 X (ce_X10_where hK h) kV_L_33 rfl (by decide) rfl (hK.n (by decide)) rfl rfl (Nat.le_of_ble_eq_true rfl) (by decide) (hQ.cap (by omega) (by omega)) dL_law_288 rfl (fun r n_ iv_ rv_ hf => ?_)
  obtain ⟨en_, ei_, er_, r1, rfl, h⟩ := hf; subst n_; subst iv_; subst rv_
  have hK1 := hK
  refine g_aload_n (q := 292) 2 X dL_law_291 rfl rfl rfl ?_
  refine g_cvU (q := 295) [] 12 X (ce_X12_where hK1 h) kV_L_36 rfl (by decide) rfl (hK1.n (by decide)) rfl rfl (Nat.le_of_ble_eq_true rfl) (by decide) (hQ.cap (by omega) (by omega)) dL_law_292 rfl (fun r n_ iv_ rv_ hf => ?_)
  obtain ⟨en_, er_, r2, rfl, h⟩ := hf; subst n_; subst rv_
  generalize iv_ = iv2 at h ⊢
  refine g_icmp_eq (q := 298) 1409 X dL_law_295 (by decide) rfl (fun _ => hn _ _ _ h.2) (fun cx => absurd h.1.symm cx)
def Pr_owes (Inv : Nat → IV → RV → Prop) : Prop := ∀ (n : Nat) (iv : IV) (rv : RV) (a1 a2 a3 a4 : Int), Inv n iv rv → inI a1 → inI a2 → inI a3 → inI a4 → wp_X10_owes a1 a2 a3 a4 iv rv (fun r1 iv1 rv1 => wp_X12_owes a1 a2 a3 a4 iv1 rv1 (fun r2 iv2 => r2 = r1 ∧ Inv n iv2 rv1))
theorem kV_L_37 : lkV RL 37 yX10_owes cX10_owes 5 (some .int) 4 = true := lkV_of 3 198 3 199 (lkM_of 3 197 3 200 1 1 rfl rfl rfl (by decide +kernel) (by decide +kernel) (by decide)) rfl rfl
theorem kV_L_41 : lkV RL 41 yX12_owes cX12_owes 6 (some .int) 4 = true := lkV_of 7 98 7 99 (lkM_of 7 97 7 100 1 12 rfl rfl rfl (by decide +kernel) (by decide +kernel) (by decide)) rfl rfl
set_option maxRecDepth 10000 in
theorem lc_owes {Γ : GX} {Inv : Nat → IV → RV → Prop} {Ln : Nat} {xs : Nat → Int32} {n : Nat} {iv : IV} {rv : RV} {u v : Nat} {i : Int} (X : Cx Γ RL cL_law 7 17) (hQ : LQ Γ) (hs : SX Γ Ln xs) (hi : 0 ≤ i ∧ i + 6 ≤ Ln) (hL : Ln ≤ 3072) (hu : u ≤ 600000) (hv : v ≤ 7290000) (hK : Lk n rv) (hI : Inv n iv rv) (hp : Pr_owes Inv) (hn : ∀ n iv rv, Inv n iv rv → G Γ 7 1409 (LwL i) [] n iv rv u v) : G Γ 7 300 (LwL i) [] n iv rv u v := by
  refine g_aload_n (q := 301) 1 X dL_law_300 rfl rfl rfl ?_
  refine g_aload_n (q := 302) 0 X dL_law_301 rfl rfl rfl ?_
  refine g_iload (q := 304) 4 X dL_law_302 rfl rfl ?_
  refine g_iconst (q := 305) 1 X dL_law_304 rfl rfl (by unfold inI; omega) ?_
  refine g_iadd (q := 306) X dL_law_305 rfl ?_
  rw [show w32 (i + 1) = i + 1 from w32_id (by omega) (by omega)]
  refine g_sld (q := 307) X hs ⟨by omega, by omega⟩ dL_law_306 rfl ?_
  refine g_aload_n (q := 308) 0 X dL_law_307 rfl rfl rfl ?_
  refine g_iload (q := 310) 4 X dL_law_308 rfl rfl ?_
  refine g_iconst (q := 311) 2 X dL_law_310 rfl rfl (by unfold inI; omega) ?_
  refine g_iadd (q := 312) X dL_law_311 rfl ?_
  rw [show w32 (i + 2) = i + 2 from w32_id (by omega) (by omega)]
  refine g_sld (q := 313) X hs ⟨by omega, by omega⟩ dL_law_312 rfl ?_
  refine g_aload_n (q := 314) 0 X dL_law_313 rfl rfl rfl ?_
  refine g_iload (q := 316) 4 X dL_law_314 rfl rfl ?_
  refine g_iconst (q := 317) 3 X dL_law_316 rfl rfl (by unfold inI; omega) ?_
  refine g_iadd (q := 318) X dL_law_317 rfl ?_
  rw [show w32 (i + 3) = i + 3 from w32_id (by omega) (by omega)]
  refine g_sld (q := 319) X hs ⟨by omega, by omega⟩ dL_law_318 rfl ?_
  refine g_aload_n (q := 320) 0 X dL_law_319 rfl rfl rfl ?_
  refine g_iload (q := 322) 4 X dL_law_320 rfl rfl ?_
  refine g_iconst (q := 323) 4 X dL_law_322 rfl rfl (by unfold inI; omega) ?_
  refine g_iadd (q := 324) X dL_law_323 rfl ?_
  rw [show w32 (i + 4) = i + 4 from w32_id (by omega) (by omega)]
  refine g_sld (q := 325) X hs ⟨by omega, by omega⟩ dL_law_324 rfl ?_
  have h := hp n iv rv ((xs (i + 1).toNat).toInt) ((xs (i + 2).toNat).toInt) ((xs (i + 3).toNat).toInt) ((xs (i + 4).toNat).toInt) hI (i32_in _) (i32_in _) (i32_in _) (i32_in _)
  refine g_cvU (q := 328) [aI ((xs (i + 1).toNat).toInt), aI ((xs (i + 2).toNat).toInt), aI ((xs (i + 3).toNat).toInt), aI ((xs (i + 4).toNat).toInt)] 10 X (ce_X10_owes hK h) kV_L_37 rfl (by decide) rfl (hK.n (by decide)) rfl rfl (Nat.le_of_ble_eq_true rfl) (by decide) (hQ.cap (by omega) (by omega)) dL_law_325 rfl (fun r n_ iv_ rv_ hf => ?_)
  obtain ⟨en_, hK2_, r1, rfl, h⟩ := hf; subst n_
  generalize iv_ = iv1 at h ⊢
  generalize rv_ = rv1 at h hK2_ ⊢
  have hK1 := hK2_
  refine g_aload_n (q := 329) 2 X dL_law_328 rfl rfl rfl ?_
  refine g_aload_n (q := 330) 0 X dL_law_329 rfl rfl rfl ?_
  refine g_iload (q := 332) 4 X dL_law_330 rfl rfl ?_
  refine g_iconst (q := 333) 1 X dL_law_332 rfl rfl (by unfold inI; omega) ?_
  refine g_iadd (q := 334) X dL_law_333 rfl ?_
  rw [show w32 (i + 1) = i + 1 from w32_id (by omega) (by omega)]
  refine g_sld (q := 335) X hs ⟨by omega, by omega⟩ dL_law_334 rfl ?_
  refine g_aload_n (q := 336) 0 X dL_law_335 rfl rfl rfl ?_
  refine g_iload (q := 338) 4 X dL_law_336 rfl rfl ?_
  refine g_iconst (q := 339) 2 X dL_law_338 rfl rfl (by unfold inI; omega) ?_
  refine g_iadd (q := 340) X dL_law_339 rfl ?_
  rw [show w32 (i + 2) = i + 2 from w32_id (by omega) (by omega)]
  refine g_sld (q := 341) X hs ⟨by omega, by omega⟩ dL_law_340 rfl ?_
  refine g_aload_n (q := 342) 0 X dL_law_341 rfl rfl rfl ?_
  refine g_iload (q := 344) 4 X dL_law_342 rfl rfl ?_
  refine g_iconst (q := 345) 3 X dL_law_344 rfl rfl (by unfold inI; omega) ?_
  refine g_iadd (q := 346) X dL_law_345 rfl ?_
  rw [show w32 (i + 3) = i + 3 from w32_id (by omega) (by omega)]
  refine g_sld (q := 347) X hs ⟨by omega, by omega⟩ dL_law_346 rfl ?_
  refine g_aload_n (q := 348) 0 X dL_law_347 rfl rfl rfl ?_
  refine g_iload (q := 350) 4 X dL_law_348 rfl rfl ?_
  refine g_iconst (q := 351) 4 X dL_law_350 rfl rfl (by unfold inI; omega) ?_
  refine g_iadd (q := 352) X dL_law_351 rfl ?_
  rw [show w32 (i + 4) = i + 4 from w32_id (by omega) (by omega)]
  refine g_sld (q := 353) X hs ⟨by omega, by omega⟩ dL_law_352 rfl ?_
  refine g_cvU (q := 356) [aI ((xs (i + 1).toNat).toInt), aI ((xs (i + 2).toNat).toInt), aI ((xs (i + 3).toNat).toInt), aI ((xs (i + 4).toNat).toInt)] 12 X (ce_X12_owes hK1 h) kV_L_41 rfl (by decide) rfl (hK1.n (by decide)) rfl rfl (Nat.le_of_ble_eq_true rfl) (by decide) (hQ.cap (by omega) (by omega)) dL_law_353 rfl (fun r n_ iv_ rv_ hf => ?_)
  obtain ⟨en_, er_, r2, rfl, h⟩ := hf; subst n_; subst rv_
  generalize iv_ = iv2 at h ⊢
  refine g_icmp_eq (q := 359) 1409 X dL_law_356 (by decide) rfl (fun _ => hn _ _ _ h.2) (fun cx => absurd h.1.symm cx)
def Pr_wins (Inv : Nat → IV → RV → Prop) : Prop := ∀ (n : Nat) (iv : IV) (rv : RV) (a1 a2 a3 a4 : Int), Inv n iv rv → inI a1 → inI a2 → inI a3 → inI a4 → wp_X10_wins a1 a2 a3 a4 iv rv (fun r1 iv1 rv1 => wp_X12_wins a1 a2 a3 a4 iv1 rv1 (fun r2 iv2 => r2 = r1 ∧ Inv n iv2 rv1))
theorem kV_L_42 : lkV RL 42 yX10_wins cX10_wins 6 (some .int) 4 = true := lkV_of 4 45 4 46 (lkM_of 4 44 4 47 1 1 rfl rfl rfl (by decide +kernel) (by decide +kernel) (by decide)) rfl rfl
theorem kV_L_45 : lkV RL 45 yX12_wins cX12_wins 6 (some .int) 4 = true := lkV_of 7 170 7 171 (lkM_of 7 169 7 172 1 12 rfl rfl rfl (by decide +kernel) (by decide +kernel) (by decide)) rfl rfl
set_option maxRecDepth 10000 in
theorem lc_wins {Γ : GX} {Inv : Nat → IV → RV → Prop} {Ln : Nat} {xs : Nat → Int32} {n : Nat} {iv : IV} {rv : RV} {u v : Nat} {i : Int} (X : Cx Γ RL cL_law 7 17) (hQ : LQ Γ) (hs : SX Γ Ln xs) (hi : 0 ≤ i ∧ i + 6 ≤ Ln) (hL : Ln ≤ 3072) (hu : u ≤ 600000) (hv : v ≤ 7290000) (hK : Lk n rv) (hI : Inv n iv rv) (hp : Pr_wins Inv) (hn : ∀ n iv rv, Inv n iv rv → G Γ 7 1409 (LwL i) [] n iv rv u v) : G Γ 7 361 (LwL i) [] n iv rv u v := by
  refine g_aload_n (q := 362) 1 X dL_law_361 rfl rfl rfl ?_
  refine g_aload_n (q := 363) 0 X dL_law_362 rfl rfl rfl ?_
  refine g_iload (q := 365) 4 X dL_law_363 rfl rfl ?_
  refine g_iconst (q := 366) 1 X dL_law_365 rfl rfl (by unfold inI; omega) ?_
  refine g_iadd (q := 367) X dL_law_366 rfl ?_
  rw [show w32 (i + 1) = i + 1 from w32_id (by omega) (by omega)]
  refine g_sld (q := 368) X hs ⟨by omega, by omega⟩ dL_law_367 rfl ?_
  refine g_aload_n (q := 369) 0 X dL_law_368 rfl rfl rfl ?_
  refine g_iload (q := 371) 4 X dL_law_369 rfl rfl ?_
  refine g_iconst (q := 372) 2 X dL_law_371 rfl rfl (by unfold inI; omega) ?_
  refine g_iadd (q := 373) X dL_law_372 rfl ?_
  rw [show w32 (i + 2) = i + 2 from w32_id (by omega) (by omega)]
  refine g_sld (q := 374) X hs ⟨by omega, by omega⟩ dL_law_373 rfl ?_
  refine g_aload_n (q := 375) 0 X dL_law_374 rfl rfl rfl ?_
  refine g_iload (q := 377) 4 X dL_law_375 rfl rfl ?_
  refine g_iconst (q := 378) 3 X dL_law_377 rfl rfl (by unfold inI; omega) ?_
  refine g_iadd (q := 379) X dL_law_378 rfl ?_
  rw [show w32 (i + 3) = i + 3 from w32_id (by omega) (by omega)]
  refine g_sld (q := 380) X hs ⟨by omega, by omega⟩ dL_law_379 rfl ?_
  refine g_aload_n (q := 381) 0 X dL_law_380 rfl rfl rfl ?_
  refine g_iload (q := 383) 4 X dL_law_381 rfl rfl ?_
  refine g_iconst (q := 384) 4 X dL_law_383 rfl rfl (by unfold inI; omega) ?_
  refine g_iadd (q := 385) X dL_law_384 rfl ?_
  rw [show w32 (i + 4) = i + 4 from w32_id (by omega) (by omega)]
  refine g_sld (q := 386) X hs ⟨by omega, by omega⟩ dL_law_385 rfl ?_
  have h := hp n iv rv ((xs (i + 1).toNat).toInt) ((xs (i + 2).toNat).toInt) ((xs (i + 3).toNat).toInt) ((xs (i + 4).toNat).toInt) hI (i32_in _) (i32_in _) (i32_in _) (i32_in _)
  refine g_cvU (q := 389) [aI ((xs (i + 1).toNat).toInt), aI ((xs (i + 2).toNat).toInt), aI ((xs (i + 3).toNat).toInt), aI ((xs (i + 4).toNat).toInt)] 10 X (ce_X10_wins hK h) kV_L_42 rfl (by decide) rfl (hK.n (by decide)) rfl rfl (Nat.le_of_ble_eq_true rfl) (by decide) (hQ.cap (by omega) (by omega)) dL_law_386 rfl (fun r n_ iv_ rv_ hf => ?_)
  obtain ⟨en_, hK2_, r1, rfl, h⟩ := hf; subst n_
  generalize iv_ = iv1 at h ⊢
  generalize rv_ = rv1 at h hK2_ ⊢
  have hK1 := hK2_
  refine g_aload_n (q := 390) 2 X dL_law_389 rfl rfl rfl ?_
  refine g_aload_n (q := 391) 0 X dL_law_390 rfl rfl rfl ?_
  refine g_iload (q := 393) 4 X dL_law_391 rfl rfl ?_
  refine g_iconst (q := 394) 1 X dL_law_393 rfl rfl (by unfold inI; omega) ?_
  refine g_iadd (q := 395) X dL_law_394 rfl ?_
  rw [show w32 (i + 1) = i + 1 from w32_id (by omega) (by omega)]
  refine g_sld (q := 396) X hs ⟨by omega, by omega⟩ dL_law_395 rfl ?_
  refine g_aload_n (q := 397) 0 X dL_law_396 rfl rfl rfl ?_
  refine g_iload (q := 399) 4 X dL_law_397 rfl rfl ?_
  refine g_iconst (q := 400) 2 X dL_law_399 rfl rfl (by unfold inI; omega) ?_
  refine g_iadd (q := 401) X dL_law_400 rfl ?_
  rw [show w32 (i + 2) = i + 2 from w32_id (by omega) (by omega)]
  refine g_sld (q := 402) X hs ⟨by omega, by omega⟩ dL_law_401 rfl ?_
  refine g_aload_n (q := 403) 0 X dL_law_402 rfl rfl rfl ?_
  refine g_iload (q := 405) 4 X dL_law_403 rfl rfl ?_
  refine g_iconst (q := 406) 3 X dL_law_405 rfl rfl (by unfold inI; omega) ?_
  refine g_iadd (q := 407) X dL_law_406 rfl ?_
  rw [show w32 (i + 3) = i + 3 from w32_id (by omega) (by omega)]
  refine g_sld (q := 408) X hs ⟨by omega, by omega⟩ dL_law_407 rfl ?_
  refine g_aload_n (q := 409) 0 X dL_law_408 rfl rfl rfl ?_
  refine g_iload (q := 411) 4 X dL_law_409 rfl rfl ?_
  refine g_iconst (q := 412) 4 X dL_law_411 rfl rfl (by unfold inI; omega) ?_
  refine g_iadd (q := 413) X dL_law_412 rfl ?_
  rw [show w32 (i + 4) = i + 4 from w32_id (by omega) (by omega)]
  refine g_sld (q := 414) X hs ⟨by omega, by omega⟩ dL_law_413 rfl ?_
  refine g_cvU (q := 417) [aI ((xs (i + 1).toNat).toInt), aI ((xs (i + 2).toNat).toInt), aI ((xs (i + 3).toNat).toInt), aI ((xs (i + 4).toNat).toInt)] 12 X (ce_X12_wins hK1 h) kV_L_45 rfl (by decide) rfl (hK1.n (by decide)) rfl rfl (Nat.le_of_ble_eq_true rfl) (by decide) (hQ.cap (by omega) (by omega)) dL_law_414 rfl (fun r n_ iv_ rv_ hf => ?_)
  obtain ⟨en_, er_, r2, rfl, h⟩ := hf; subst n_; subst rv_
  generalize iv_ = iv2 at h ⊢
  refine g_icmp_eq (q := 420) 1409 X dL_law_417 (by decide) rfl (fun _ => hn _ _ _ h.2) (fun cx => absurd h.1.symm cx)
def Pr_judge (Inv : Nat → IV → RV → Prop) : Prop := ∀ (n : Nat) (iv : IV) (rv : RV) (a1 a2 a3 a4 a5 : Int), Inv n iv rv → inI a1 → inI a2 → inI a3 → inI a4 → inI a5 → wp_X10_judge a1 a2 a3 a4 a5 iv rv (fun r1 iv1 rv1 => wp_X12_judge a1 a2 a3 a4 a5 iv1 rv1 (fun r2 iv2 => r2 = r1 ∧ Inv n iv2 rv1))
theorem kV_L_46 : lkV RL 46 yX10_judge cX10_judge 6 (some .int) 5 = true := lkV_of 4 54 4 55 (lkM_of 4 53 4 56 1 1 rfl rfl rfl (by decide +kernel) (by decide +kernel) (by decide)) rfl rfl
theorem kV_L_49 : lkV RL 49 yX12_judge cX12_judge 7 (some .int) 5 = true := lkV_of 7 174 7 175 (lkM_of 7 173 7 176 1 12 rfl rfl rfl (by decide +kernel) (by decide +kernel) (by decide)) rfl rfl
set_option maxRecDepth 10000 in
theorem lc_judge {Γ : GX} {Inv : Nat → IV → RV → Prop} {Ln : Nat} {xs : Nat → Int32} {n : Nat} {iv : IV} {rv : RV} {u v : Nat} {i : Int} (X : Cx Γ RL cL_law 7 17) (hQ : LQ Γ) (hs : SX Γ Ln xs) (hi : 0 ≤ i ∧ i + 6 ≤ Ln) (hL : Ln ≤ 3072) (hu : u ≤ 600000) (hv : v ≤ 7290000) (hK : Lk n rv) (hI : Inv n iv rv) (hp : Pr_judge Inv) (hn : ∀ n iv rv, Inv n iv rv → G Γ 7 1409 (LwL i) [] n iv rv u v) : G Γ 7 422 (LwL i) [] n iv rv u v := by
  refine g_aload_n (q := 423) 1 X dL_law_422 rfl rfl rfl ?_
  refine g_aload_n (q := 424) 0 X dL_law_423 rfl rfl rfl ?_
  refine g_iload (q := 426) 4 X dL_law_424 rfl rfl ?_
  refine g_iconst (q := 427) 1 X dL_law_426 rfl rfl (by unfold inI; omega) ?_
  refine g_iadd (q := 428) X dL_law_427 rfl ?_
  rw [show w32 (i + 1) = i + 1 from w32_id (by omega) (by omega)]
  refine g_sld (q := 429) X hs ⟨by omega, by omega⟩ dL_law_428 rfl ?_
  refine g_aload_n (q := 430) 0 X dL_law_429 rfl rfl rfl ?_
  refine g_iload (q := 432) 4 X dL_law_430 rfl rfl ?_
  refine g_iconst (q := 433) 2 X dL_law_432 rfl rfl (by unfold inI; omega) ?_
  refine g_iadd (q := 434) X dL_law_433 rfl ?_
  rw [show w32 (i + 2) = i + 2 from w32_id (by omega) (by omega)]
  refine g_sld (q := 435) X hs ⟨by omega, by omega⟩ dL_law_434 rfl ?_
  refine g_aload_n (q := 436) 0 X dL_law_435 rfl rfl rfl ?_
  refine g_iload (q := 438) 4 X dL_law_436 rfl rfl ?_
  refine g_iconst (q := 439) 3 X dL_law_438 rfl rfl (by unfold inI; omega) ?_
  refine g_iadd (q := 440) X dL_law_439 rfl ?_
  rw [show w32 (i + 3) = i + 3 from w32_id (by omega) (by omega)]
  refine g_sld (q := 441) X hs ⟨by omega, by omega⟩ dL_law_440 rfl ?_
  refine g_aload_n (q := 442) 0 X dL_law_441 rfl rfl rfl ?_
  refine g_iload (q := 444) 4 X dL_law_442 rfl rfl ?_
  refine g_iconst (q := 445) 4 X dL_law_444 rfl rfl (by unfold inI; omega) ?_
  refine g_iadd (q := 446) X dL_law_445 rfl ?_
  rw [show w32 (i + 4) = i + 4 from w32_id (by omega) (by omega)]
  refine g_sld (q := 447) X hs ⟨by omega, by omega⟩ dL_law_446 rfl ?_
  refine g_aload_n (q := 448) 0 X dL_law_447 rfl rfl rfl ?_
  refine g_iload (q := 450) 4 X dL_law_448 rfl rfl ?_
  refine g_iconst (q := 451) 5 X dL_law_450 rfl rfl (by unfold inI; omega) ?_
  refine g_iadd (q := 452) X dL_law_451 rfl ?_
  rw [show w32 (i + 5) = i + 5 from w32_id (by omega) (by omega)]
  refine g_sld (q := 453) X hs ⟨by omega, by omega⟩ dL_law_452 rfl ?_
  have h := hp n iv rv ((xs (i + 1).toNat).toInt) ((xs (i + 2).toNat).toInt) ((xs (i + 3).toNat).toInt) ((xs (i + 4).toNat).toInt) ((xs (i + 5).toNat).toInt) hI (i32_in _) (i32_in _) (i32_in _) (i32_in _) (i32_in _)
  refine g_cvU (q := 456) [aI ((xs (i + 1).toNat).toInt), aI ((xs (i + 2).toNat).toInt), aI ((xs (i + 3).toNat).toInt), aI ((xs (i + 4).toNat).toInt), aI ((xs (i + 5).toNat).toInt)] 10 X (ce_X10_judge hK h) kV_L_46 rfl (by decide) rfl (hK.n (by decide)) rfl rfl (Nat.le_of_ble_eq_true rfl) (by decide) (hQ.cap (by omega) (by omega)) dL_law_453 rfl (fun r n_ iv_ rv_ hf => ?_)
  obtain ⟨en_, hK2_, r1, rfl, h⟩ := hf; subst n_
  generalize iv_ = iv1 at h ⊢
  generalize rv_ = rv1 at h hK2_ ⊢
  have hK1 := hK2_
  refine g_aload_n (q := 457) 2 X dL_law_456 rfl rfl rfl ?_
  refine g_aload_n (q := 458) 0 X dL_law_457 rfl rfl rfl ?_
  refine g_iload (q := 460) 4 X dL_law_458 rfl rfl ?_
  refine g_iconst (q := 461) 1 X dL_law_460 rfl rfl (by unfold inI; omega) ?_
  refine g_iadd (q := 462) X dL_law_461 rfl ?_
  rw [show w32 (i + 1) = i + 1 from w32_id (by omega) (by omega)]
  refine g_sld (q := 463) X hs ⟨by omega, by omega⟩ dL_law_462 rfl ?_
  refine g_aload_n (q := 464) 0 X dL_law_463 rfl rfl rfl ?_
  refine g_iload (q := 466) 4 X dL_law_464 rfl rfl ?_
  refine g_iconst (q := 467) 2 X dL_law_466 rfl rfl (by unfold inI; omega) ?_
  refine g_iadd (q := 468) X dL_law_467 rfl ?_
  rw [show w32 (i + 2) = i + 2 from w32_id (by omega) (by omega)]
  refine g_sld (q := 469) X hs ⟨by omega, by omega⟩ dL_law_468 rfl ?_
  refine g_aload_n (q := 470) 0 X dL_law_469 rfl rfl rfl ?_
  refine g_iload (q := 472) 4 X dL_law_470 rfl rfl ?_
  refine g_iconst (q := 473) 3 X dL_law_472 rfl rfl (by unfold inI; omega) ?_
  refine g_iadd (q := 474) X dL_law_473 rfl ?_
  rw [show w32 (i + 3) = i + 3 from w32_id (by omega) (by omega)]
  refine g_sld (q := 475) X hs ⟨by omega, by omega⟩ dL_law_474 rfl ?_
  refine g_aload_n (q := 476) 0 X dL_law_475 rfl rfl rfl ?_
  refine g_iload (q := 478) 4 X dL_law_476 rfl rfl ?_
  refine g_iconst (q := 479) 4 X dL_law_478 rfl rfl (by unfold inI; omega) ?_
  refine g_iadd (q := 480) X dL_law_479 rfl ?_
  rw [show w32 (i + 4) = i + 4 from w32_id (by omega) (by omega)]
  refine g_sld (q := 481) X hs ⟨by omega, by omega⟩ dL_law_480 rfl ?_
  refine g_aload_n (q := 482) 0 X dL_law_481 rfl rfl rfl ?_
  refine g_iload (q := 484) 4 X dL_law_482 rfl rfl ?_
  refine g_iconst (q := 485) 5 X dL_law_484 rfl rfl (by unfold inI; omega) ?_
  refine g_iadd (q := 486) X dL_law_485 rfl ?_
  rw [show w32 (i + 5) = i + 5 from w32_id (by omega) (by omega)]
  refine g_sld (q := 487) X hs ⟨by omega, by omega⟩ dL_law_486 rfl ?_
  refine g_cvU (q := 490) [aI ((xs (i + 1).toNat).toInt), aI ((xs (i + 2).toNat).toInt), aI ((xs (i + 3).toNat).toInt), aI ((xs (i + 4).toNat).toInt), aI ((xs (i + 5).toNat).toInt)] 12 X (ce_X12_judge hK1 h) kV_L_49 rfl (by decide) rfl (hK1.n (by decide)) rfl rfl (Nat.le_of_ble_eq_true rfl) (by decide) (hQ.cap (by omega) (by omega)) dL_law_487 rfl (fun r n_ iv_ rv_ hf => ?_)
  obtain ⟨en_, er_, r2, rfl, h⟩ := hf; subst n_; subst rv_
  generalize iv_ = iv2 at h ⊢
  refine g_icmp_eq (q := 493) 1409 X dL_law_490 (by decide) rfl (fun _ => hn _ _ _ h.2) (fun cx => absurd h.1.symm cx)
def Pr_sure (Inv : Nat → IV → RV → Prop) : Prop := ∀ (n : Nat) (iv : IV) (rv : RV) (a1 a2 a3 a4 a5 : Int), Inv n iv rv → inI a1 → inI a2 → inI a3 → inI a4 → (a5 = 0 ∨ a5 = 1) → wp_X10_sure a1 a2 a3 a4 a5 iv rv (fun r1 iv1 rv1 => wp_X12_sure a1 a2 a3 a4 a5 iv1 rv1 (fun r2 iv2 => r2 = r1 ∧ Inv n iv2 rv1))
theorem kV_L_50 : lkV RL 50 yX10_sure cX10_sure 6 (some .int) 5 = true := lkV_of 4 58 4 59 (lkM_of 4 57 4 60 1 1 rfl rfl rfl (by decide +kernel) (by decide +kernel) (by decide)) rfl rfl
theorem kV_L_54 : lkV RL 54 yX12_sure cX12_sure 13 (some .int) 5 = true := lkV_of 7 178 7 179 (lkM_of 7 177 7 180 1 12 rfl rfl rfl (by decide +kernel) (by decide +kernel) (by decide)) rfl rfl
set_option maxRecDepth 10000 in
theorem lc_sure {Γ : GX} {Inv : Nat → IV → RV → Prop} {Ln : Nat} {xs : Nat → Int32} {n : Nat} {iv : IV} {rv : RV} {u v : Nat} {i : Int} (X : Cx Γ RL cL_law 7 17) (hQ : LQ Γ) (hs : SX Γ Ln xs) (hi : 0 ≤ i ∧ i + 6 ≤ Ln) (hL : Ln ≤ 3072) (hu : u ≤ 600000) (hv : v ≤ 7290000) (hK : Lk n rv) (hI : Inv n iv rv) (hp : Pr_sure Inv) (hn : ∀ n iv rv, Inv n iv rv → G Γ 7 1409 (LwL i) [] n iv rv u v) : G Γ 7 495 (LwL i) [] n iv rv u v := by
  refine g_aload_n (q := 496) 1 X dL_law_495 rfl rfl rfl ?_
  refine g_aload_n (q := 497) 0 X dL_law_496 rfl rfl rfl ?_
  refine g_iload (q := 499) 4 X dL_law_497 rfl rfl ?_
  refine g_iconst (q := 500) 1 X dL_law_499 rfl rfl (by unfold inI; omega) ?_
  refine g_iadd (q := 501) X dL_law_500 rfl ?_
  rw [show w32 (i + 1) = i + 1 from w32_id (by omega) (by omega)]
  refine g_sld (q := 502) X hs ⟨by omega, by omega⟩ dL_law_501 rfl ?_
  refine g_aload_n (q := 503) 0 X dL_law_502 rfl rfl rfl ?_
  refine g_iload (q := 505) 4 X dL_law_503 rfl rfl ?_
  refine g_iconst (q := 506) 2 X dL_law_505 rfl rfl (by unfold inI; omega) ?_
  refine g_iadd (q := 507) X dL_law_506 rfl ?_
  rw [show w32 (i + 2) = i + 2 from w32_id (by omega) (by omega)]
  refine g_sld (q := 508) X hs ⟨by omega, by omega⟩ dL_law_507 rfl ?_
  refine g_aload_n (q := 509) 0 X dL_law_508 rfl rfl rfl ?_
  refine g_iload (q := 511) 4 X dL_law_509 rfl rfl ?_
  refine g_iconst (q := 512) 3 X dL_law_511 rfl rfl (by unfold inI; omega) ?_
  refine g_iadd (q := 513) X dL_law_512 rfl ?_
  rw [show w32 (i + 3) = i + 3 from w32_id (by omega) (by omega)]
  refine g_sld (q := 514) X hs ⟨by omega, by omega⟩ dL_law_513 rfl ?_
  refine g_aload_n (q := 515) 0 X dL_law_514 rfl rfl rfl ?_
  refine g_iload (q := 517) 4 X dL_law_515 rfl rfl ?_
  refine g_iconst (q := 518) 4 X dL_law_517 rfl rfl (by unfold inI; omega) ?_
  refine g_iadd (q := 519) X dL_law_518 rfl ?_
  rw [show w32 (i + 4) = i + 4 from w32_id (by omega) (by omega)]
  refine g_sld (q := 520) X hs ⟨by omega, by omega⟩ dL_law_519 rfl ?_
  refine g_aload_n (q := 521) 0 X dL_law_520 rfl rfl rfl ?_
  refine g_iload (q := 523) 4 X dL_law_521 rfl rfl ?_
  refine g_iconst (q := 524) 5 X dL_law_523 rfl rfl (by unfold inI; omega) ?_
  refine g_iadd (q := 525) X dL_law_524 rfl ?_
  rw [show w32 (i + 5) = i + 5 from w32_id (by omega) (by omega)]
  refine g_sld (q := 526) X hs ⟨by omega, by omega⟩ dL_law_525 rfl ?_
  refine g_if_eq (q := 529) 533 X dL_law_526 (by decide) rfl (fun cz526 => ?_) (fun cz526 => ?_)
  · refine g_iconst (q := 534) 0 X dL_law_533 rfl rfl i0 ?_
    have h := hp n iv rv ((xs (i + 1).toNat).toInt) ((xs (i + 2).toNat).toInt) ((xs (i + 3).toNat).toInt) ((xs (i + 4).toNat).toInt) 0 hI (i32_in _) (i32_in _) (i32_in _) (i32_in _) (Or.inl rfl)
    have cz0 := cz526
    refine g_cvU (q := 537) [aI ((xs (i + 1).toNat).toInt), aI ((xs (i + 2).toNat).toInt), aI ((xs (i + 3).toNat).toInt), aI ((xs (i + 4).toNat).toInt), aI 0] 10 X (ce_X10_sure hK h) kV_L_50 rfl (by decide) rfl (hK.n (by decide)) rfl rfl (Nat.le_of_ble_eq_true rfl) (by decide) (hQ.cap (by omega) (by omega)) dL_law_534 rfl (fun r n_ iv_ rv_ hf => ?_)
    obtain ⟨en_, hK2_, r1, rfl, h⟩ := hf; subst n_
    generalize iv_ = iv1 at h ⊢
    generalize rv_ = rv1 at h hK2_ ⊢
    have hK1 := hK2_
    refine g_aload_n (q := 538) 2 X dL_law_537 rfl rfl rfl ?_
    refine g_aload_n (q := 539) 0 X dL_law_538 rfl rfl rfl ?_
    refine g_iload (q := 541) 4 X dL_law_539 rfl rfl ?_
    refine g_iconst (q := 542) 1 X dL_law_541 rfl rfl (by unfold inI; omega) ?_
    refine g_iadd (q := 543) X dL_law_542 rfl ?_
    rw [show w32 (i + 1) = i + 1 from w32_id (by omega) (by omega)]
    refine g_sld (q := 544) X hs ⟨by omega, by omega⟩ dL_law_543 rfl ?_
    refine g_aload_n (q := 545) 0 X dL_law_544 rfl rfl rfl ?_
    refine g_iload (q := 547) 4 X dL_law_545 rfl rfl ?_
    refine g_iconst (q := 548) 2 X dL_law_547 rfl rfl (by unfold inI; omega) ?_
    refine g_iadd (q := 549) X dL_law_548 rfl ?_
    rw [show w32 (i + 2) = i + 2 from w32_id (by omega) (by omega)]
    refine g_sld (q := 550) X hs ⟨by omega, by omega⟩ dL_law_549 rfl ?_
    refine g_aload_n (q := 551) 0 X dL_law_550 rfl rfl rfl ?_
    refine g_iload (q := 553) 4 X dL_law_551 rfl rfl ?_
    refine g_iconst (q := 554) 3 X dL_law_553 rfl rfl (by unfold inI; omega) ?_
    refine g_iadd (q := 555) X dL_law_554 rfl ?_
    rw [show w32 (i + 3) = i + 3 from w32_id (by omega) (by omega)]
    refine g_sld (q := 556) X hs ⟨by omega, by omega⟩ dL_law_555 rfl ?_
    refine g_aload_n (q := 557) 0 X dL_law_556 rfl rfl rfl ?_
    refine g_iload (q := 559) 4 X dL_law_557 rfl rfl ?_
    refine g_iconst (q := 560) 4 X dL_law_559 rfl rfl (by unfold inI; omega) ?_
    refine g_iadd (q := 561) X dL_law_560 rfl ?_
    rw [show w32 (i + 4) = i + 4 from w32_id (by omega) (by omega)]
    refine g_sld (q := 562) X hs ⟨by omega, by omega⟩ dL_law_561 rfl ?_
    refine g_aload_n (q := 563) 0 X dL_law_562 rfl rfl rfl ?_
    refine g_iload (q := 565) 4 X dL_law_563 rfl rfl ?_
    refine g_iconst (q := 566) 5 X dL_law_565 rfl rfl (by unfold inI; omega) ?_
    refine g_iadd (q := 567) X dL_law_566 rfl ?_
    rw [show w32 (i + 5) = i + 5 from w32_id (by omega) (by omega)]
    refine g_sld (q := 568) X hs ⟨by omega, by omega⟩ dL_law_567 rfl ?_
    refine g_if_eq (q := 571) 575 X dL_law_568 (by decide) rfl (fun cz568 => ?_) (fun cz568 => ?_)
    · refine g_iconst (q := 576) 0 X dL_law_575 rfl rfl i0 ?_
      refine g_cvU (q := 579) [aI ((xs (i + 1).toNat).toInt), aI ((xs (i + 2).toNat).toInt), aI ((xs (i + 3).toNat).toInt), aI ((xs (i + 4).toNat).toInt), aI 0] 12 X (ce_X12_sure hK1 h) kV_L_54 rfl (by decide) rfl (hK1.n (by decide)) rfl rfl (Nat.le_of_ble_eq_true rfl) (by decide) (hQ.cap (by omega) (by omega)) dL_law_576 rfl (fun r n_ iv_ rv_ hf => ?_)
      obtain ⟨en_, er_, r2, rfl, h⟩ := hf; subst n_; subst rv_
      generalize iv_ = iv2 at h ⊢
      refine g_icmp_eq (q := 582) 1409 X dL_law_579 (by decide) rfl (fun _ => hn _ _ _ h.2) (fun cx => absurd h.1.symm cx)
    · refine g_iconst (q := 572) 1 X dL_law_571 rfl rfl (by unfold inI; omega) ?_
      refine g_goto (q := 576) X dL_law_572 (by decide) ?_
      exact absurd cz0 cz568
  · refine g_iconst (q := 530) 1 X dL_law_529 rfl rfl (by unfold inI; omega) ?_
    refine g_goto (q := 534) X dL_law_530 (by decide) ?_
    have h := hp n iv rv ((xs (i + 1).toNat).toInt) ((xs (i + 2).toNat).toInt) ((xs (i + 3).toNat).toInt) ((xs (i + 4).toNat).toInt) 1 hI (i32_in _) (i32_in _) (i32_in _) (i32_in _) (Or.inr rfl)
    have cz0 := cz526
    refine g_cvU (q := 537) [aI ((xs (i + 1).toNat).toInt), aI ((xs (i + 2).toNat).toInt), aI ((xs (i + 3).toNat).toInt), aI ((xs (i + 4).toNat).toInt), aI 1] 10 X (ce_X10_sure hK h) kV_L_50 rfl (by decide) rfl (hK.n (by decide)) rfl rfl (Nat.le_of_ble_eq_true rfl) (by decide) (hQ.cap (by omega) (by omega)) dL_law_534 rfl (fun r n_ iv_ rv_ hf => ?_)
    obtain ⟨en_, hK2_, r1, rfl, h⟩ := hf; subst n_
    generalize iv_ = iv1 at h ⊢
    generalize rv_ = rv1 at h hK2_ ⊢
    have hK1 := hK2_
    refine g_aload_n (q := 538) 2 X dL_law_537 rfl rfl rfl ?_
    refine g_aload_n (q := 539) 0 X dL_law_538 rfl rfl rfl ?_
    refine g_iload (q := 541) 4 X dL_law_539 rfl rfl ?_
    refine g_iconst (q := 542) 1 X dL_law_541 rfl rfl (by unfold inI; omega) ?_
    refine g_iadd (q := 543) X dL_law_542 rfl ?_
    rw [show w32 (i + 1) = i + 1 from w32_id (by omega) (by omega)]
    refine g_sld (q := 544) X hs ⟨by omega, by omega⟩ dL_law_543 rfl ?_
    refine g_aload_n (q := 545) 0 X dL_law_544 rfl rfl rfl ?_
    refine g_iload (q := 547) 4 X dL_law_545 rfl rfl ?_
    refine g_iconst (q := 548) 2 X dL_law_547 rfl rfl (by unfold inI; omega) ?_
    refine g_iadd (q := 549) X dL_law_548 rfl ?_
    rw [show w32 (i + 2) = i + 2 from w32_id (by omega) (by omega)]
    refine g_sld (q := 550) X hs ⟨by omega, by omega⟩ dL_law_549 rfl ?_
    refine g_aload_n (q := 551) 0 X dL_law_550 rfl rfl rfl ?_
    refine g_iload (q := 553) 4 X dL_law_551 rfl rfl ?_
    refine g_iconst (q := 554) 3 X dL_law_553 rfl rfl (by unfold inI; omega) ?_
    refine g_iadd (q := 555) X dL_law_554 rfl ?_
    rw [show w32 (i + 3) = i + 3 from w32_id (by omega) (by omega)]
    refine g_sld (q := 556) X hs ⟨by omega, by omega⟩ dL_law_555 rfl ?_
    refine g_aload_n (q := 557) 0 X dL_law_556 rfl rfl rfl ?_
    refine g_iload (q := 559) 4 X dL_law_557 rfl rfl ?_
    refine g_iconst (q := 560) 4 X dL_law_559 rfl rfl (by unfold inI; omega) ?_
    refine g_iadd (q := 561) X dL_law_560 rfl ?_
    rw [show w32 (i + 4) = i + 4 from w32_id (by omega) (by omega)]
    refine g_sld (q := 562) X hs ⟨by omega, by omega⟩ dL_law_561 rfl ?_
    refine g_aload_n (q := 563) 0 X dL_law_562 rfl rfl rfl ?_
    refine g_iload (q := 565) 4 X dL_law_563 rfl rfl ?_
    refine g_iconst (q := 566) 5 X dL_law_565 rfl rfl (by unfold inI; omega) ?_
    refine g_iadd (q := 567) X dL_law_566 rfl ?_
    rw [show w32 (i + 5) = i + 5 from w32_id (by omega) (by omega)]
    refine g_sld (q := 568) X hs ⟨by omega, by omega⟩ dL_law_567 rfl ?_
    refine g_if_eq (q := 571) 575 X dL_law_568 (by decide) rfl (fun cz568 => ?_) (fun cz568 => ?_)
    · refine g_iconst (q := 576) 0 X dL_law_575 rfl rfl i0 ?_
      exact absurd cz568 cz0
    · refine g_iconst (q := 572) 1 X dL_law_571 rfl rfl (by unfold inI; omega) ?_
      refine g_goto (q := 576) X dL_law_572 (by decide) ?_
      refine g_cvU (q := 579) [aI ((xs (i + 1).toNat).toInt), aI ((xs (i + 2).toNat).toInt), aI ((xs (i + 3).toNat).toInt), aI ((xs (i + 4).toNat).toInt), aI 1] 12 X (ce_X12_sure hK1 h) kV_L_54 rfl (by decide) rfl (hK1.n (by decide)) rfl rfl (Nat.le_of_ble_eq_true rfl) (by decide) (hQ.cap (by omega) (by omega)) dL_law_576 rfl (fun r n_ iv_ rv_ hf => ?_)
      obtain ⟨en_, er_, r2, rfl, h⟩ := hf; subst n_; subst rv_
      generalize iv_ = iv2 at h ⊢
      refine g_icmp_eq (q := 582) 1409 X dL_law_579 (by decide) rfl (fun _ => hn _ _ _ h.2) (fun cx => absurd h.1.symm cx)
def Pr_force (Inv : Nat → IV → RV → Prop) : Prop := ∀ (n : Nat) (iv : IV) (rv : RV) (a1 a2 a3 : Int), Inv n iv rv → inI a1 → inI a2 → inI a3 → wp_X10_force a1 a2 a3 iv rv (fun r1 iv1 rv1 => wp_X12_force a1 a2 a3 iv1 rv1 (fun r2 iv2 => r2 = r1 ∧ Inv n iv2 rv1))
theorem kV_L_55 : lkV RL 55 yX10_force cX10_force 4 (some .int) 3 = true := lkV_of 4 77 4 78 (lkM_of 4 76 4 79 1 1 rfl rfl rfl (by decide +kernel) (by decide +kernel) (by decide)) rfl rfl
theorem kV_L_59 : lkV RL 59 yX12_force cX12_force 4 (some .int) 3 = true := lkV_of 7 190 7 191 (lkM_of 7 189 7 192 1 12 rfl rfl rfl (by decide +kernel) (by decide +kernel) (by decide)) rfl rfl
set_option maxRecDepth 10000 in
theorem lc_force {Γ : GX} {Inv : Nat → IV → RV → Prop} {Ln : Nat} {xs : Nat → Int32} {n : Nat} {iv : IV} {rv : RV} {u v : Nat} {i : Int} (X : Cx Γ RL cL_law 7 17) (hQ : LQ Γ) (hs : SX Γ Ln xs) (hi : 0 ≤ i ∧ i + 6 ≤ Ln) (hL : Ln ≤ 3072) (hu : u ≤ 600000) (hv : v ≤ 7290000) (hK : Lk n rv) (hI : Inv n iv rv) (hp : Pr_force Inv) (hn : ∀ n iv rv, Inv n iv rv → G Γ 7 1409 (LwL i) [] n iv rv u v) : G Γ 7 584 (LwL i) [] n iv rv u v := by
  refine g_aload_n (q := 585) 1 X dL_law_584 rfl rfl rfl ?_
  refine g_aload_n (q := 586) 0 X dL_law_585 rfl rfl rfl ?_
  refine g_iload (q := 588) 4 X dL_law_586 rfl rfl ?_
  refine g_iconst (q := 589) 1 X dL_law_588 rfl rfl (by unfold inI; omega) ?_
  refine g_iadd (q := 590) X dL_law_589 rfl ?_
  rw [show w32 (i + 1) = i + 1 from w32_id (by omega) (by omega)]
  refine g_sld (q := 591) X hs ⟨by omega, by omega⟩ dL_law_590 rfl ?_
  refine g_aload_n (q := 592) 0 X dL_law_591 rfl rfl rfl ?_
  refine g_iload (q := 594) 4 X dL_law_592 rfl rfl ?_
  refine g_iconst (q := 595) 2 X dL_law_594 rfl rfl (by unfold inI; omega) ?_
  refine g_iadd (q := 596) X dL_law_595 rfl ?_
  rw [show w32 (i + 2) = i + 2 from w32_id (by omega) (by omega)]
  refine g_sld (q := 597) X hs ⟨by omega, by omega⟩ dL_law_596 rfl ?_
  refine g_aload_n (q := 598) 0 X dL_law_597 rfl rfl rfl ?_
  refine g_iload (q := 600) 4 X dL_law_598 rfl rfl ?_
  refine g_iconst (q := 601) 3 X dL_law_600 rfl rfl (by unfold inI; omega) ?_
  refine g_iadd (q := 602) X dL_law_601 rfl ?_
  rw [show w32 (i + 3) = i + 3 from w32_id (by omega) (by omega)]
  refine g_sld (q := 603) X hs ⟨by omega, by omega⟩ dL_law_602 rfl ?_
  have h := hp n iv rv ((xs (i + 1).toNat).toInt) ((xs (i + 2).toNat).toInt) ((xs (i + 3).toNat).toInt) hI (i32_in _) (i32_in _) (i32_in _)
  refine g_cvU (q := 606) [aI ((xs (i + 1).toNat).toInt), aI ((xs (i + 2).toNat).toInt), aI ((xs (i + 3).toNat).toInt)] 10 X (ce_X10_force hK h) kV_L_55 rfl (by decide) rfl (hK.n (by decide)) rfl rfl (Nat.le_of_ble_eq_true rfl) (by decide) (hQ.cap (by omega) (by omega)) dL_law_603 rfl (fun r n_ iv_ rv_ hf => ?_)
  obtain ⟨en_, hK2_, r1, rfl, h⟩ := hf; subst n_
  generalize iv_ = iv1 at h ⊢
  generalize rv_ = rv1 at h hK2_ ⊢
  have hK1 := hK2_
  refine g_aload_n (q := 607) 2 X dL_law_606 rfl rfl rfl ?_
  refine g_aload_n (q := 608) 0 X dL_law_607 rfl rfl rfl ?_
  refine g_iload (q := 610) 4 X dL_law_608 rfl rfl ?_
  refine g_iconst (q := 611) 1 X dL_law_610 rfl rfl (by unfold inI; omega) ?_
  refine g_iadd (q := 612) X dL_law_611 rfl ?_
  rw [show w32 (i + 1) = i + 1 from w32_id (by omega) (by omega)]
  refine g_sld (q := 613) X hs ⟨by omega, by omega⟩ dL_law_612 rfl ?_
  refine g_aload_n (q := 614) 0 X dL_law_613 rfl rfl rfl ?_
  refine g_iload (q := 616) 4 X dL_law_614 rfl rfl ?_
  refine g_iconst (q := 617) 2 X dL_law_616 rfl rfl (by unfold inI; omega) ?_
  refine g_iadd (q := 618) X dL_law_617 rfl ?_
  rw [show w32 (i + 2) = i + 2 from w32_id (by omega) (by omega)]
  refine g_sld (q := 619) X hs ⟨by omega, by omega⟩ dL_law_618 rfl ?_
  refine g_aload_n (q := 620) 0 X dL_law_619 rfl rfl rfl ?_
  refine g_iload (q := 622) 4 X dL_law_620 rfl rfl ?_
  refine g_iconst (q := 623) 3 X dL_law_622 rfl rfl (by unfold inI; omega) ?_
  refine g_iadd (q := 624) X dL_law_623 rfl ?_
  rw [show w32 (i + 3) = i + 3 from w32_id (by omega) (by omega)]
  refine g_sld (q := 625) X hs ⟨by omega, by omega⟩ dL_law_624 rfl ?_
  refine g_cvU (q := 628) [aI ((xs (i + 1).toNat).toInt), aI ((xs (i + 2).toNat).toInt), aI ((xs (i + 3).toNat).toInt)] 12 X (ce_X12_force hK1 h) kV_L_59 rfl (by decide) rfl (hK1.n (by decide)) rfl rfl (Nat.le_of_ble_eq_true rfl) (by decide) (hQ.cap (by omega) (by omega)) dL_law_625 rfl (fun r n_ iv_ rv_ hf => ?_)
  obtain ⟨en_, er_, r2, rfl, h⟩ := hf; subst n_; subst rv_
  generalize iv_ = iv2 at h ⊢
  refine g_icmp_eq (q := 631) 1409 X dL_law_628 (by decide) rfl (fun _ => hn _ _ _ h.2) (fun cx => absurd h.1.symm cx)
def Pr_chain (Inv : Nat → IV → RV → Prop) : Prop := ∀ (n : Nat) (iv : IV) (rv : RV) (a1 a2 a3 a4 : Int), Inv n iv rv → inI a1 → inI a2 → inI a3 → inI a4 → wp_X10_chain a1 a2 a3 a4 iv rv (fun r1 iv1 rv1 => wp_X12_chain a1 a2 a3 a4 iv1 rv1 (fun r2 iv2 => r2 = r1 ∧ Inv n iv2 rv1))
theorem kV_L_60 : lkV RL 60 yX10_chain cX10_chain 6 (some .int) 4 = true := lkV_of 4 83 4 84 (lkM_of 4 82 4 85 1 1 rfl rfl rfl (by decide +kernel) (by decide +kernel) (by decide)) rfl rfl
theorem kV_L_63 : lkV RL 63 yX12_chain cX12_chain 5 (some .int) 4 = true := lkV_of 7 198 7 199 (lkM_of 7 197 7 200 1 12 rfl rfl rfl (by decide +kernel) (by decide +kernel) (by decide)) rfl rfl
set_option maxRecDepth 10000 in
theorem lc_chain {Γ : GX} {Inv : Nat → IV → RV → Prop} {Ln : Nat} {xs : Nat → Int32} {n : Nat} {iv : IV} {rv : RV} {u v : Nat} {i : Int} (X : Cx Γ RL cL_law 7 17) (hQ : LQ Γ) (hs : SX Γ Ln xs) (hi : 0 ≤ i ∧ i + 6 ≤ Ln) (hL : Ln ≤ 3072) (hu : u ≤ 600000) (hv : v ≤ 7290000) (hK : Lk n rv) (hI : Inv n iv rv) (hp : Pr_chain Inv) (hn : ∀ n iv rv, Inv n iv rv → G Γ 7 1409 (LwL i) [] n iv rv u v) : G Γ 7 633 (LwL i) [] n iv rv u v := by
  refine g_aload_n (q := 634) 1 X dL_law_633 rfl rfl rfl ?_
  refine g_aload_n (q := 635) 0 X dL_law_634 rfl rfl rfl ?_
  refine g_iload (q := 637) 4 X dL_law_635 rfl rfl ?_
  refine g_iconst (q := 638) 1 X dL_law_637 rfl rfl (by unfold inI; omega) ?_
  refine g_iadd (q := 639) X dL_law_638 rfl ?_
  rw [show w32 (i + 1) = i + 1 from w32_id (by omega) (by omega)]
  refine g_sld (q := 640) X hs ⟨by omega, by omega⟩ dL_law_639 rfl ?_
  refine g_aload_n (q := 641) 0 X dL_law_640 rfl rfl rfl ?_
  refine g_iload (q := 643) 4 X dL_law_641 rfl rfl ?_
  refine g_iconst (q := 644) 2 X dL_law_643 rfl rfl (by unfold inI; omega) ?_
  refine g_iadd (q := 645) X dL_law_644 rfl ?_
  rw [show w32 (i + 2) = i + 2 from w32_id (by omega) (by omega)]
  refine g_sld (q := 646) X hs ⟨by omega, by omega⟩ dL_law_645 rfl ?_
  refine g_aload_n (q := 647) 0 X dL_law_646 rfl rfl rfl ?_
  refine g_iload (q := 649) 4 X dL_law_647 rfl rfl ?_
  refine g_iconst (q := 650) 3 X dL_law_649 rfl rfl (by unfold inI; omega) ?_
  refine g_iadd (q := 651) X dL_law_650 rfl ?_
  rw [show w32 (i + 3) = i + 3 from w32_id (by omega) (by omega)]
  refine g_sld (q := 652) X hs ⟨by omega, by omega⟩ dL_law_651 rfl ?_
  refine g_aload_n (q := 653) 0 X dL_law_652 rfl rfl rfl ?_
  refine g_iload (q := 655) 4 X dL_law_653 rfl rfl ?_
  refine g_iconst (q := 656) 4 X dL_law_655 rfl rfl (by unfold inI; omega) ?_
  refine g_iadd (q := 657) X dL_law_656 rfl ?_
  rw [show w32 (i + 4) = i + 4 from w32_id (by omega) (by omega)]
  refine g_sld (q := 658) X hs ⟨by omega, by omega⟩ dL_law_657 rfl ?_
  have h := hp n iv rv ((xs (i + 1).toNat).toInt) ((xs (i + 2).toNat).toInt) ((xs (i + 3).toNat).toInt) ((xs (i + 4).toNat).toInt) hI (i32_in _) (i32_in _) (i32_in _) (i32_in _)
  refine g_cvU (q := 661) [aI ((xs (i + 1).toNat).toInt), aI ((xs (i + 2).toNat).toInt), aI ((xs (i + 3).toNat).toInt), aI ((xs (i + 4).toNat).toInt)] 10 X (ce_X10_chain hK h) kV_L_60 rfl (by decide) rfl (hK.n (by decide)) rfl rfl (Nat.le_of_ble_eq_true rfl) (by decide) (hQ.cap (by omega) (by omega)) dL_law_658 rfl (fun r n_ iv_ rv_ hf => ?_)
  obtain ⟨en_, hK2_, r1, rfl, h⟩ := hf; subst n_
  generalize iv_ = iv1 at h ⊢
  generalize rv_ = rv1 at h hK2_ ⊢
  have hK1 := hK2_
  refine g_aload_n (q := 662) 2 X dL_law_661 rfl rfl rfl ?_
  refine g_aload_n (q := 663) 0 X dL_law_662 rfl rfl rfl ?_
  refine g_iload (q := 665) 4 X dL_law_663 rfl rfl ?_
  refine g_iconst (q := 666) 1 X dL_law_665 rfl rfl (by unfold inI; omega) ?_
  refine g_iadd (q := 667) X dL_law_666 rfl ?_
  rw [show w32 (i + 1) = i + 1 from w32_id (by omega) (by omega)]
  refine g_sld (q := 668) X hs ⟨by omega, by omega⟩ dL_law_667 rfl ?_
  refine g_aload_n (q := 669) 0 X dL_law_668 rfl rfl rfl ?_
  refine g_iload (q := 671) 4 X dL_law_669 rfl rfl ?_
  refine g_iconst (q := 672) 2 X dL_law_671 rfl rfl (by unfold inI; omega) ?_
  refine g_iadd (q := 673) X dL_law_672 rfl ?_
  rw [show w32 (i + 2) = i + 2 from w32_id (by omega) (by omega)]
  refine g_sld (q := 674) X hs ⟨by omega, by omega⟩ dL_law_673 rfl ?_
  refine g_aload_n (q := 675) 0 X dL_law_674 rfl rfl rfl ?_
  refine g_iload (q := 677) 4 X dL_law_675 rfl rfl ?_
  refine g_iconst (q := 678) 3 X dL_law_677 rfl rfl (by unfold inI; omega) ?_
  refine g_iadd (q := 679) X dL_law_678 rfl ?_
  rw [show w32 (i + 3) = i + 3 from w32_id (by omega) (by omega)]
  refine g_sld (q := 680) X hs ⟨by omega, by omega⟩ dL_law_679 rfl ?_
  refine g_aload_n (q := 681) 0 X dL_law_680 rfl rfl rfl ?_
  refine g_iload (q := 683) 4 X dL_law_681 rfl rfl ?_
  refine g_iconst (q := 684) 4 X dL_law_683 rfl rfl (by unfold inI; omega) ?_
  refine g_iadd (q := 685) X dL_law_684 rfl ?_
  rw [show w32 (i + 4) = i + 4 from w32_id (by omega) (by omega)]
  refine g_sld (q := 686) X hs ⟨by omega, by omega⟩ dL_law_685 rfl ?_
  refine g_cvU (q := 689) [aI ((xs (i + 1).toNat).toInt), aI ((xs (i + 2).toNat).toInt), aI ((xs (i + 3).toNat).toInt), aI ((xs (i + 4).toNat).toInt)] 12 X (ce_X12_chain hK1 h) kV_L_63 rfl (by decide) rfl (hK1.n (by decide)) rfl rfl (Nat.le_of_ble_eq_true rfl) (by decide) (hQ.cap (by omega) (by omega)) dL_law_686 rfl (fun r n_ iv_ rv_ hf => ?_)
  obtain ⟨en_, er_, r2, rfl, h⟩ := hf; subst n_; subst rv_
  generalize iv_ = iv2 at h ⊢
  refine g_icmp_eq (q := 692) 1409 X dL_law_689 (by decide) rfl (fun _ => hn _ _ _ h.2) (fun cx => absurd h.1.symm cx)
def Pr_ring (Inv : Nat → IV → RV → Prop) : Prop := ∀ (n : Nat) (iv : IV) (rv : RV) (a1 a2 a3 : Int), Inv n iv rv → inI a1 → inI a2 → inI a3 → wp_X10_ring a1 a2 a3 iv rv (fun r1 iv1 rv1 => wp_X12_ring a1 a2 a3 iv1 rv1 (fun r2 iv2 => r2 = r1 ∧ Inv n iv2 rv1))
theorem kV_L_64 : lkV RL 64 yX10_ring cX10_ring 5 (some .int) 3 = true := lkV_of 4 92 4 93 (lkM_of 4 91 4 94 1 1 rfl rfl rfl (by decide +kernel) (by decide +kernel) (by decide)) rfl rfl
theorem kV_L_67 : lkV RL 67 yX12_ring cX12_ring 6 (some .int) 3 = true := lkV_of 7 206 7 207 (lkM_of 7 205 7 208 1 12 rfl rfl rfl (by decide +kernel) (by decide +kernel) (by decide)) rfl rfl
set_option maxRecDepth 10000 in
theorem lc_ring {Γ : GX} {Inv : Nat → IV → RV → Prop} {Ln : Nat} {xs : Nat → Int32} {n : Nat} {iv : IV} {rv : RV} {u v : Nat} {i : Int} (X : Cx Γ RL cL_law 7 17) (hQ : LQ Γ) (hs : SX Γ Ln xs) (hi : 0 ≤ i ∧ i + 6 ≤ Ln) (hL : Ln ≤ 3072) (hu : u ≤ 600000) (hv : v ≤ 7290000) (hK : Lk n rv) (hI : Inv n iv rv) (hp : Pr_ring Inv) (hn : ∀ n iv rv, Inv n iv rv → G Γ 7 1409 (LwL i) [] n iv rv u v) : G Γ 7 694 (LwL i) [] n iv rv u v := by
  refine g_aload_n (q := 695) 1 X dL_law_694 rfl rfl rfl ?_
  refine g_aload_n (q := 696) 0 X dL_law_695 rfl rfl rfl ?_
  refine g_iload (q := 698) 4 X dL_law_696 rfl rfl ?_
  refine g_iconst (q := 699) 1 X dL_law_698 rfl rfl (by unfold inI; omega) ?_
  refine g_iadd (q := 700) X dL_law_699 rfl ?_
  rw [show w32 (i + 1) = i + 1 from w32_id (by omega) (by omega)]
  refine g_sld (q := 701) X hs ⟨by omega, by omega⟩ dL_law_700 rfl ?_
  refine g_aload_n (q := 702) 0 X dL_law_701 rfl rfl rfl ?_
  refine g_iload (q := 704) 4 X dL_law_702 rfl rfl ?_
  refine g_iconst (q := 705) 2 X dL_law_704 rfl rfl (by unfold inI; omega) ?_
  refine g_iadd (q := 706) X dL_law_705 rfl ?_
  rw [show w32 (i + 2) = i + 2 from w32_id (by omega) (by omega)]
  refine g_sld (q := 707) X hs ⟨by omega, by omega⟩ dL_law_706 rfl ?_
  refine g_aload_n (q := 708) 0 X dL_law_707 rfl rfl rfl ?_
  refine g_iload (q := 710) 4 X dL_law_708 rfl rfl ?_
  refine g_iconst (q := 711) 3 X dL_law_710 rfl rfl (by unfold inI; omega) ?_
  refine g_iadd (q := 712) X dL_law_711 rfl ?_
  rw [show w32 (i + 3) = i + 3 from w32_id (by omega) (by omega)]
  refine g_sld (q := 713) X hs ⟨by omega, by omega⟩ dL_law_712 rfl ?_
  have h := hp n iv rv ((xs (i + 1).toNat).toInt) ((xs (i + 2).toNat).toInt) ((xs (i + 3).toNat).toInt) hI (i32_in _) (i32_in _) (i32_in _)
  refine g_cvU (q := 716) [aI ((xs (i + 1).toNat).toInt), aI ((xs (i + 2).toNat).toInt), aI ((xs (i + 3).toNat).toInt)] 10 X (ce_X10_ring hK h) kV_L_64 rfl (by decide) rfl (hK.n (by decide)) rfl rfl (Nat.le_of_ble_eq_true rfl) (by decide) (hQ.cap (by omega) (by omega)) dL_law_713 rfl (fun r n_ iv_ rv_ hf => ?_)
  obtain ⟨en_, hK2_, r1, rfl, h⟩ := hf; subst n_
  generalize iv_ = iv1 at h ⊢
  generalize rv_ = rv1 at h hK2_ ⊢
  have hK1 := hK2_
  refine g_aload_n (q := 717) 2 X dL_law_716 rfl rfl rfl ?_
  refine g_aload_n (q := 718) 0 X dL_law_717 rfl rfl rfl ?_
  refine g_iload (q := 720) 4 X dL_law_718 rfl rfl ?_
  refine g_iconst (q := 721) 1 X dL_law_720 rfl rfl (by unfold inI; omega) ?_
  refine g_iadd (q := 722) X dL_law_721 rfl ?_
  rw [show w32 (i + 1) = i + 1 from w32_id (by omega) (by omega)]
  refine g_sld (q := 723) X hs ⟨by omega, by omega⟩ dL_law_722 rfl ?_
  refine g_aload_n (q := 724) 0 X dL_law_723 rfl rfl rfl ?_
  refine g_iload (q := 726) 4 X dL_law_724 rfl rfl ?_
  refine g_iconst (q := 727) 2 X dL_law_726 rfl rfl (by unfold inI; omega) ?_
  refine g_iadd (q := 728) X dL_law_727 rfl ?_
  rw [show w32 (i + 2) = i + 2 from w32_id (by omega) (by omega)]
  refine g_sld (q := 729) X hs ⟨by omega, by omega⟩ dL_law_728 rfl ?_
  refine g_aload_n (q := 730) 0 X dL_law_729 rfl rfl rfl ?_
  refine g_iload (q := 732) 4 X dL_law_730 rfl rfl ?_
  refine g_iconst (q := 733) 3 X dL_law_732 rfl rfl (by unfold inI; omega) ?_
  refine g_iadd (q := 734) X dL_law_733 rfl ?_
  rw [show w32 (i + 3) = i + 3 from w32_id (by omega) (by omega)]
  refine g_sld (q := 735) X hs ⟨by omega, by omega⟩ dL_law_734 rfl ?_
  refine g_cvU (q := 738) [aI ((xs (i + 1).toNat).toInt), aI ((xs (i + 2).toNat).toInt), aI ((xs (i + 3).toNat).toInt)] 12 X (ce_X12_ring hK1 h) kV_L_67 rfl (by decide) rfl (hK1.n (by decide)) rfl rfl (Nat.le_of_ble_eq_true rfl) (by decide) (hQ.cap (by omega) (by omega)) dL_law_735 rfl (fun r n_ iv_ rv_ hf => ?_)
  obtain ⟨en_, er_, r2, rfl, h⟩ := hf; subst n_; subst rv_
  generalize iv_ = iv2 at h ⊢
  refine g_icmp_eq (q := 741) 1409 X dL_law_738 (by decide) rfl (fun _ => hn _ _ _ h.2) (fun cx => absurd h.1.symm cx)
def Pr_way (Inv : Nat → IV → RV → Prop) : Prop := ∀ (n : Nat) (iv : IV) (rv : RV) (a1 a2 : Int), Inv n iv rv → inI a1 → inI a2 → wp_X10_way a1 a2 iv rv (fun r1 iv1 rv1 => wp_X12_way a1 a2 iv1 rv1 (fun r2 iv2 => r2 = r1 ∧ Inv n iv2 rv1))
theorem kV_L_68 : lkV RL 68 yX10_way cX10_way 4 (some .int) 2 = true := lkV_of 4 101 4 102 (lkM_of 4 100 4 103 1 1 rfl rfl rfl (by decide +kernel) (by decide +kernel) (by decide)) rfl rfl
theorem kV_L_72 : lkV RL 72 yX12_way cX12_way 5 (some .int) 2 = true := lkV_of 7 210 7 211 (lkM_of 7 209 7 212 1 12 rfl rfl rfl (by decide +kernel) (by decide +kernel) (by decide)) rfl rfl
set_option maxRecDepth 10000 in
theorem lc_way {Γ : GX} {Inv : Nat → IV → RV → Prop} {Ln : Nat} {xs : Nat → Int32} {n : Nat} {iv : IV} {rv : RV} {u v : Nat} {i : Int} (X : Cx Γ RL cL_law 7 17) (hQ : LQ Γ) (hs : SX Γ Ln xs) (hi : 0 ≤ i ∧ i + 6 ≤ Ln) (hL : Ln ≤ 3072) (hu : u ≤ 600000) (hv : v ≤ 7290000) (hK : Lk n rv) (hI : Inv n iv rv) (hp : Pr_way Inv) (hn : ∀ n iv rv, Inv n iv rv → G Γ 7 1409 (LwL i) [] n iv rv u v) : G Γ 7 743 (LwL i) [] n iv rv u v := by
  refine g_aload_n (q := 744) 1 X dL_law_743 rfl rfl rfl ?_
  refine g_aload_n (q := 745) 0 X dL_law_744 rfl rfl rfl ?_
  refine g_iload (q := 747) 4 X dL_law_745 rfl rfl ?_
  refine g_iconst (q := 748) 1 X dL_law_747 rfl rfl (by unfold inI; omega) ?_
  refine g_iadd (q := 749) X dL_law_748 rfl ?_
  rw [show w32 (i + 1) = i + 1 from w32_id (by omega) (by omega)]
  refine g_sld (q := 750) X hs ⟨by omega, by omega⟩ dL_law_749 rfl ?_
  refine g_aload_n (q := 751) 0 X dL_law_750 rfl rfl rfl ?_
  refine g_iload (q := 753) 4 X dL_law_751 rfl rfl ?_
  refine g_iconst (q := 754) 2 X dL_law_753 rfl rfl (by unfold inI; omega) ?_
  refine g_iadd (q := 755) X dL_law_754 rfl ?_
  rw [show w32 (i + 2) = i + 2 from w32_id (by omega) (by omega)]
  refine g_sld (q := 756) X hs ⟨by omega, by omega⟩ dL_law_755 rfl ?_
  have h := hp n iv rv ((xs (i + 1).toNat).toInt) ((xs (i + 2).toNat).toInt) hI (i32_in _) (i32_in _)
  refine g_cvU (q := 759) [aI ((xs (i + 1).toNat).toInt), aI ((xs (i + 2).toNat).toInt)] 10 X (ce_X10_way hK h) kV_L_68 rfl (by decide) rfl (hK.n (by decide)) rfl rfl (Nat.le_of_ble_eq_true rfl) (by decide) (hQ.cap (by omega) (by omega)) dL_law_756 rfl (fun r n_ iv_ rv_ hf => ?_)
  obtain ⟨en_, hK2_, r1, rfl, h⟩ := hf; subst n_
  generalize iv_ = iv1 at h ⊢
  generalize rv_ = rv1 at h hK2_ ⊢
  have hK1 := hK2_
  refine g_aload_n (q := 760) 2 X dL_law_759 rfl rfl rfl ?_
  refine g_aload_n (q := 761) 0 X dL_law_760 rfl rfl rfl ?_
  refine g_iload (q := 763) 4 X dL_law_761 rfl rfl ?_
  refine g_iconst (q := 764) 1 X dL_law_763 rfl rfl (by unfold inI; omega) ?_
  refine g_iadd (q := 765) X dL_law_764 rfl ?_
  rw [show w32 (i + 1) = i + 1 from w32_id (by omega) (by omega)]
  refine g_sld (q := 766) X hs ⟨by omega, by omega⟩ dL_law_765 rfl ?_
  refine g_aload_n (q := 767) 0 X dL_law_766 rfl rfl rfl ?_
  refine g_iload (q := 769) 4 X dL_law_767 rfl rfl ?_
  refine g_iconst (q := 770) 2 X dL_law_769 rfl rfl (by unfold inI; omega) ?_
  refine g_iadd (q := 771) X dL_law_770 rfl ?_
  rw [show w32 (i + 2) = i + 2 from w32_id (by omega) (by omega)]
  refine g_sld (q := 772) X hs ⟨by omega, by omega⟩ dL_law_771 rfl ?_
  refine g_cvU (q := 775) [aI ((xs (i + 1).toNat).toInt), aI ((xs (i + 2).toNat).toInt)] 12 X (ce_X12_way hK1 h) kV_L_72 rfl (by decide) rfl (hK1.n (by decide)) rfl rfl (Nat.le_of_ble_eq_true rfl) (by decide) (hQ.cap (by omega) (by omega)) dL_law_772 rfl (fun r n_ iv_ rv_ hf => ?_)
  obtain ⟨en_, er_, r2, rfl, h⟩ := hf; subst n_; subst rv_
  generalize iv_ = iv2 at h ⊢
  refine g_icmp_eq (q := 778) 1409 X dL_law_775 (by decide) rfl (fun _ => hn _ _ _ h.2) (fun cx => absurd h.1.symm cx)
def Pr_stop (Inv : Nat → IV → RV → Prop) : Prop := ∀ (n : Nat) (iv : IV) (rv : RV) (a1 : Int), Inv n iv rv → inI a1 → wp_X10_stop a1 iv rv (fun r1 => wp_X12_stop a1 iv rv (fun r2 iv2 => r2 = r1 ∧ Inv n iv2 rv))
theorem kV_L_73 : lkV RL 73 yX10_stop cX10_stop 2 (some .int) 1 = true := lkV_of 4 137 4 138 (lkM_of 4 136 4 139 1 1 rfl rfl rfl (by decide +kernel) (by decide +kernel) (by decide)) rfl rfl
theorem kV_L_76 : lkV RL 76 yX12_stop cX12_stop 2 (some .int) 1 = true := lkV_of 7 230 7 231 (lkM_of 7 229 7 232 1 12 rfl rfl rfl (by decide +kernel) (by decide +kernel) (by decide)) rfl rfl
set_option maxRecDepth 10000 in
theorem lc_stop {Γ : GX} {Inv : Nat → IV → RV → Prop} {Ln : Nat} {xs : Nat → Int32} {n : Nat} {iv : IV} {rv : RV} {u v : Nat} {i : Int} (X : Cx Γ RL cL_law 7 17) (hQ : LQ Γ) (hs : SX Γ Ln xs) (hi : 0 ≤ i ∧ i + 6 ≤ Ln) (hL : Ln ≤ 3072) (hu : u ≤ 600000) (hv : v ≤ 7290000) (hK : Lk n rv) (hI : Inv n iv rv) (hp : Pr_stop Inv) (hn : ∀ n iv rv, Inv n iv rv → G Γ 7 1409 (LwL i) [] n iv rv u v) : G Γ 7 780 (LwL i) [] n iv rv u v := by
  refine g_aload_n (q := 781) 1 X dL_law_780 rfl rfl rfl ?_
  refine g_aload_n (q := 782) 0 X dL_law_781 rfl rfl rfl ?_
  refine g_iload (q := 784) 4 X dL_law_782 rfl rfl ?_
  refine g_iconst (q := 785) 1 X dL_law_784 rfl rfl (by unfold inI; omega) ?_
  refine g_iadd (q := 786) X dL_law_785 rfl ?_
  rw [show w32 (i + 1) = i + 1 from w32_id (by omega) (by omega)]
  refine g_sld (q := 787) X hs ⟨by omega, by omega⟩ dL_law_786 rfl ?_
  have h := hp n iv rv ((xs (i + 1).toNat).toInt) hI (i32_in _)
  refine g_cvU (q := 790) [aI ((xs (i + 1).toNat).toInt)] 10 X (ce_X10_stop hK h) kV_L_73 rfl (by decide) rfl (hK.n (by decide)) rfl rfl (Nat.le_of_ble_eq_true rfl) (by decide) (hQ.cap (by omega) (by omega)) dL_law_787 rfl (fun r n_ iv_ rv_ hf => ?_)
  obtain ⟨en_, ei_, er_, r1, rfl, h⟩ := hf; subst n_; subst iv_; subst rv_
  have hK1 := hK
  refine g_aload_n (q := 791) 2 X dL_law_790 rfl rfl rfl ?_
  refine g_aload_n (q := 792) 0 X dL_law_791 rfl rfl rfl ?_
  refine g_iload (q := 794) 4 X dL_law_792 rfl rfl ?_
  refine g_iconst (q := 795) 1 X dL_law_794 rfl rfl (by unfold inI; omega) ?_
  refine g_iadd (q := 796) X dL_law_795 rfl ?_
  rw [show w32 (i + 1) = i + 1 from w32_id (by omega) (by omega)]
  refine g_sld (q := 797) X hs ⟨by omega, by omega⟩ dL_law_796 rfl ?_
  refine g_cvU (q := 800) [aI ((xs (i + 1).toNat).toInt)] 12 X (ce_X12_stop hK1 h) kV_L_76 rfl (by decide) rfl (hK1.n (by decide)) rfl rfl (Nat.le_of_ble_eq_true rfl) (by decide) (hQ.cap (by omega) (by omega)) dL_law_797 rfl (fun r n_ iv_ rv_ hf => ?_)
  obtain ⟨en_, er_, r2, rfl, h⟩ := hf; subst n_; subst rv_
  generalize iv_ = iv2 at h ⊢
  refine g_icmp_eq (q := 803) 1409 X dL_law_800 (by decide) rfl (fun _ => hn _ _ _ h.2) (fun cx => absurd h.1.symm cx)
def Pr_length (Inv : Nat → IV → RV → Prop) : Prop := ∀ (n : Nat) (iv : IV) (rv : RV), Inv n iv rv → wp_X10_length  iv rv (fun r1 => wp_X12_length  iv rv (fun r2 iv2 => r2 = r1 ∧ Inv n iv2 rv))
theorem kV_L_77 : lkV RL 77 yX10_length cX10_length 1 (some .int) 0 = true := lkV_of 4 141 4 142 (lkM_of 4 140 4 143 1 1 rfl rfl rfl (by decide +kernel) (by decide +kernel) (by decide)) rfl rfl
theorem kV_L_80 : lkV RL 80 yX12_length cX12_length 1 (some .int) 0 = true := lkV_of 7 234 7 235 (lkM_of 7 233 7 236 1 12 rfl rfl rfl (by decide +kernel) (by decide +kernel) (by decide)) rfl rfl
set_option maxRecDepth 10000 in
theorem lc_length {Γ : GX} {Inv : Nat → IV → RV → Prop} {Ln : Nat} {xs : Nat → Int32} {n : Nat} {iv : IV} {rv : RV} {u v : Nat} {i : Int} (X : Cx Γ RL cL_law 7 17) (hQ : LQ Γ) (hs : SX Γ Ln xs) (hi : 0 ≤ i ∧ i + 6 ≤ Ln) (hL : Ln ≤ 3072) (hu : u ≤ 600000) (hv : v ≤ 7290000) (hK : Lk n rv) (hI : Inv n iv rv) (hp : Pr_length Inv) (hn : ∀ n iv rv, Inv n iv rv → G Γ 7 1409 (LwL i) [] n iv rv u v) : G Γ 7 805 (LwL i) [] n iv rv u v := by
  refine g_aload_n (q := 806) 1 X dL_law_805 rfl rfl rfl ?_
  have h := hp n iv rv  hI
  refine g_cvU (q := 809) [] 10 X (ce_X10_length hK h) kV_L_77 rfl (by decide) rfl (hK.n (by decide)) rfl rfl (Nat.le_of_ble_eq_true rfl) (by decide) (hQ.cap (by omega) (by omega)) dL_law_806 rfl (fun r n_ iv_ rv_ hf => ?_)
  obtain ⟨en_, ei_, er_, r1, rfl, h⟩ := hf; subst n_; subst iv_; subst rv_
  have hK1 := hK
  refine g_aload_n (q := 810) 2 X dL_law_809 rfl rfl rfl ?_
  refine g_cvU (q := 813) [] 12 X (ce_X12_length hK1 h) kV_L_80 rfl (by decide) rfl (hK1.n (by decide)) rfl rfl (Nat.le_of_ble_eq_true rfl) (by decide) (hQ.cap (by omega) (by omega)) dL_law_810 rfl (fun r n_ iv_ rv_ hf => ?_)
  obtain ⟨en_, er_, r2, rfl, h⟩ := hf; subst n_; subst rv_
  generalize iv_ = iv2 at h ⊢
  refine g_icmp_eq (q := 816) 1409 X dL_law_813 (by decide) rfl (fun _ => hn _ _ _ h.2) (fun cx => absurd h.1.symm cx)
def Pr_partner (Inv : Nat → IV → RV → Prop) : Prop := ∀ (n : Nat) (iv : IV) (rv : RV) (a1 a2 : Int), Inv n iv rv → inI a1 → inI a2 → wp_X10_partner a1 a2 iv rv (fun r1 iv1 rv1 => wp_X12_partner a1 a2 iv1 rv1 (fun r2 iv2 => r2 = r1 ∧ Inv n iv2 rv1))
theorem kV_L_81 : lkV RL 81 yX10_partner cX10_partner 4 (some .int) 2 = true := lkV_of 4 145 4 146 (lkM_of 4 144 4 147 1 1 rfl rfl rfl (by decide +kernel) (by decide +kernel) (by decide)) rfl rfl
theorem kV_L_84 : lkV RL 84 yX12_partner cX12_partner 6 (some .int) 2 = true := lkV_of 7 238 7 239 (lkM_of 7 237 8 0 1 12 rfl rfl rfl (by decide +kernel) (by decide +kernel) (by decide)) rfl rfl
set_option maxRecDepth 10000 in
theorem lc_partner {Γ : GX} {Inv : Nat → IV → RV → Prop} {Ln : Nat} {xs : Nat → Int32} {n : Nat} {iv : IV} {rv : RV} {u v : Nat} {i : Int} (X : Cx Γ RL cL_law 7 17) (hQ : LQ Γ) (hs : SX Γ Ln xs) (hi : 0 ≤ i ∧ i + 6 ≤ Ln) (hL : Ln ≤ 3072) (hu : u ≤ 600000) (hv : v ≤ 7290000) (hK : Lk n rv) (hI : Inv n iv rv) (hp : Pr_partner Inv) (hn : ∀ n iv rv, Inv n iv rv → G Γ 7 1409 (LwL i) [] n iv rv u v) : G Γ 7 818 (LwL i) [] n iv rv u v := by
  refine g_aload_n (q := 819) 1 X dL_law_818 rfl rfl rfl ?_
  refine g_aload_n (q := 820) 0 X dL_law_819 rfl rfl rfl ?_
  refine g_iload (q := 822) 4 X dL_law_820 rfl rfl ?_
  refine g_iconst (q := 823) 1 X dL_law_822 rfl rfl (by unfold inI; omega) ?_
  refine g_iadd (q := 824) X dL_law_823 rfl ?_
  rw [show w32 (i + 1) = i + 1 from w32_id (by omega) (by omega)]
  refine g_sld (q := 825) X hs ⟨by omega, by omega⟩ dL_law_824 rfl ?_
  refine g_aload_n (q := 826) 0 X dL_law_825 rfl rfl rfl ?_
  refine g_iload (q := 828) 4 X dL_law_826 rfl rfl ?_
  refine g_iconst (q := 829) 2 X dL_law_828 rfl rfl (by unfold inI; omega) ?_
  refine g_iadd (q := 830) X dL_law_829 rfl ?_
  rw [show w32 (i + 2) = i + 2 from w32_id (by omega) (by omega)]
  refine g_sld (q := 831) X hs ⟨by omega, by omega⟩ dL_law_830 rfl ?_
  have h := hp n iv rv ((xs (i + 1).toNat).toInt) ((xs (i + 2).toNat).toInt) hI (i32_in _) (i32_in _)
  refine g_cvU (q := 834) [aI ((xs (i + 1).toNat).toInt), aI ((xs (i + 2).toNat).toInt)] 10 X (ce_X10_partner hK h) kV_L_81 rfl (by decide) rfl (hK.n (by decide)) rfl rfl (Nat.le_of_ble_eq_true rfl) (by decide) (hQ.cap (by omega) (by omega)) dL_law_831 rfl (fun r n_ iv_ rv_ hf => ?_)
  obtain ⟨en_, hK2_, r1, rfl, h⟩ := hf; subst n_
  generalize iv_ = iv1 at h ⊢
  generalize rv_ = rv1 at h hK2_ ⊢
  have hK1 := hK2_
  refine g_aload_n (q := 835) 2 X dL_law_834 rfl rfl rfl ?_
  refine g_aload_n (q := 836) 0 X dL_law_835 rfl rfl rfl ?_
  refine g_iload (q := 838) 4 X dL_law_836 rfl rfl ?_
  refine g_iconst (q := 839) 1 X dL_law_838 rfl rfl (by unfold inI; omega) ?_
  refine g_iadd (q := 840) X dL_law_839 rfl ?_
  rw [show w32 (i + 1) = i + 1 from w32_id (by omega) (by omega)]
  refine g_sld (q := 841) X hs ⟨by omega, by omega⟩ dL_law_840 rfl ?_
  refine g_aload_n (q := 842) 0 X dL_law_841 rfl rfl rfl ?_
  refine g_iload (q := 844) 4 X dL_law_842 rfl rfl ?_
  refine g_iconst (q := 845) 2 X dL_law_844 rfl rfl (by unfold inI; omega) ?_
  refine g_iadd (q := 846) X dL_law_845 rfl ?_
  rw [show w32 (i + 2) = i + 2 from w32_id (by omega) (by omega)]
  refine g_sld (q := 847) X hs ⟨by omega, by omega⟩ dL_law_846 rfl ?_
  refine g_cvU (q := 850) [aI ((xs (i + 1).toNat).toInt), aI ((xs (i + 2).toNat).toInt)] 12 X (ce_X12_partner hK1 h) kV_L_84 rfl (by decide) rfl (hK1.n (by decide)) rfl rfl (Nat.le_of_ble_eq_true rfl) (by decide) (hQ.cap (by omega) (by omega)) dL_law_847 rfl (fun r n_ iv_ rv_ hf => ?_)
  obtain ⟨en_, er_, r2, rfl, h⟩ := hf; subst n_; subst rv_
  generalize iv_ = iv2 at h ⊢
  refine g_icmp_eq (q := 853) 1409 X dL_law_850 (by decide) rfl (fun _ => hn _ _ _ h.2) (fun cx => absurd h.1.symm cx)
def Pr_saves (Inv : Nat → IV → RV → Prop) : Prop := ∀ (n : Nat) (iv : IV) (rv : RV) (a1 a2 a3 : Int), Inv n iv rv → inI a1 → inI a2 → inI a3 → wp_X10_saves a1 a2 a3 iv rv (fun r1 iv1 rv1 => wp_X12_saves a1 a2 a3 iv1 rv1 (fun r2 iv2 => r2 = r1 ∧ Inv n iv2 rv1))
theorem kV_L_85 : lkV RL 85 yX10_saves cX10_saves 5 (some .int) 3 = true := lkV_of 4 154 4 155 (lkM_of 4 153 4 156 1 1 rfl rfl rfl (by decide +kernel) (by decide +kernel) (by decide)) rfl rfl
theorem kV_L_88 : lkV RL 88 yX12_saves cX12_saves 5 (some .int) 3 = true := lkV_of 8 2 8 3 (lkM_of 8 1 8 4 1 12 rfl rfl rfl (by decide +kernel) (by decide +kernel) (by decide)) rfl rfl
set_option maxRecDepth 10000 in
theorem lc_saves {Γ : GX} {Inv : Nat → IV → RV → Prop} {Ln : Nat} {xs : Nat → Int32} {n : Nat} {iv : IV} {rv : RV} {u v : Nat} {i : Int} (X : Cx Γ RL cL_law 7 17) (hQ : LQ Γ) (hs : SX Γ Ln xs) (hi : 0 ≤ i ∧ i + 6 ≤ Ln) (hL : Ln ≤ 3072) (hu : u ≤ 600000) (hv : v ≤ 7290000) (hK : Lk n rv) (hI : Inv n iv rv) (hp : Pr_saves Inv) (hn : ∀ n iv rv, Inv n iv rv → G Γ 7 1409 (LwL i) [] n iv rv u v) : G Γ 7 855 (LwL i) [] n iv rv u v := by
  refine g_aload_n (q := 856) 1 X dL_law_855 rfl rfl rfl ?_
  refine g_aload_n (q := 857) 0 X dL_law_856 rfl rfl rfl ?_
  refine g_iload (q := 859) 4 X dL_law_857 rfl rfl ?_
  refine g_iconst (q := 860) 1 X dL_law_859 rfl rfl (by unfold inI; omega) ?_
  refine g_iadd (q := 861) X dL_law_860 rfl ?_
  rw [show w32 (i + 1) = i + 1 from w32_id (by omega) (by omega)]
  refine g_sld (q := 862) X hs ⟨by omega, by omega⟩ dL_law_861 rfl ?_
  refine g_aload_n (q := 863) 0 X dL_law_862 rfl rfl rfl ?_
  refine g_iload (q := 865) 4 X dL_law_863 rfl rfl ?_
  refine g_iconst (q := 866) 2 X dL_law_865 rfl rfl (by unfold inI; omega) ?_
  refine g_iadd (q := 867) X dL_law_866 rfl ?_
  rw [show w32 (i + 2) = i + 2 from w32_id (by omega) (by omega)]
  refine g_sld (q := 868) X hs ⟨by omega, by omega⟩ dL_law_867 rfl ?_
  refine g_aload_n (q := 869) 0 X dL_law_868 rfl rfl rfl ?_
  refine g_iload (q := 871) 4 X dL_law_869 rfl rfl ?_
  refine g_iconst (q := 872) 3 X dL_law_871 rfl rfl (by unfold inI; omega) ?_
  refine g_iadd (q := 873) X dL_law_872 rfl ?_
  rw [show w32 (i + 3) = i + 3 from w32_id (by omega) (by omega)]
  refine g_sld (q := 874) X hs ⟨by omega, by omega⟩ dL_law_873 rfl ?_
  have h := hp n iv rv ((xs (i + 1).toNat).toInt) ((xs (i + 2).toNat).toInt) ((xs (i + 3).toNat).toInt) hI (i32_in _) (i32_in _) (i32_in _)
  refine g_cvU (q := 877) [aI ((xs (i + 1).toNat).toInt), aI ((xs (i + 2).toNat).toInt), aI ((xs (i + 3).toNat).toInt)] 10 X (ce_X10_saves hK h) kV_L_85 rfl (by decide) rfl (hK.n (by decide)) rfl rfl (Nat.le_of_ble_eq_true rfl) (by decide) (hQ.cap (by omega) (by omega)) dL_law_874 rfl (fun r n_ iv_ rv_ hf => ?_)
  obtain ⟨en_, hK2_, r1, rfl, h⟩ := hf; subst n_
  generalize iv_ = iv1 at h ⊢
  generalize rv_ = rv1 at h hK2_ ⊢
  have hK1 := hK2_
  refine g_aload_n (q := 878) 2 X dL_law_877 rfl rfl rfl ?_
  refine g_aload_n (q := 879) 0 X dL_law_878 rfl rfl rfl ?_
  refine g_iload (q := 881) 4 X dL_law_879 rfl rfl ?_
  refine g_iconst (q := 882) 1 X dL_law_881 rfl rfl (by unfold inI; omega) ?_
  refine g_iadd (q := 883) X dL_law_882 rfl ?_
  rw [show w32 (i + 1) = i + 1 from w32_id (by omega) (by omega)]
  refine g_sld (q := 884) X hs ⟨by omega, by omega⟩ dL_law_883 rfl ?_
  refine g_aload_n (q := 885) 0 X dL_law_884 rfl rfl rfl ?_
  refine g_iload (q := 887) 4 X dL_law_885 rfl rfl ?_
  refine g_iconst (q := 888) 2 X dL_law_887 rfl rfl (by unfold inI; omega) ?_
  refine g_iadd (q := 889) X dL_law_888 rfl ?_
  rw [show w32 (i + 2) = i + 2 from w32_id (by omega) (by omega)]
  refine g_sld (q := 890) X hs ⟨by omega, by omega⟩ dL_law_889 rfl ?_
  refine g_aload_n (q := 891) 0 X dL_law_890 rfl rfl rfl ?_
  refine g_iload (q := 893) 4 X dL_law_891 rfl rfl ?_
  refine g_iconst (q := 894) 3 X dL_law_893 rfl rfl (by unfold inI; omega) ?_
  refine g_iadd (q := 895) X dL_law_894 rfl ?_
  rw [show w32 (i + 3) = i + 3 from w32_id (by omega) (by omega)]
  refine g_sld (q := 896) X hs ⟨by omega, by omega⟩ dL_law_895 rfl ?_
  refine g_cvU (q := 899) [aI ((xs (i + 1).toNat).toInt), aI ((xs (i + 2).toNat).toInt), aI ((xs (i + 3).toNat).toInt)] 12 X (ce_X12_saves hK1 h) kV_L_88 rfl (by decide) rfl (hK1.n (by decide)) rfl rfl (Nat.le_of_ble_eq_true rfl) (by decide) (hQ.cap (by omega) (by omega)) dL_law_896 rfl (fun r n_ iv_ rv_ hf => ?_)
  obtain ⟨en_, er_, r2, rfl, h⟩ := hf; subst n_; subst rv_
  generalize iv_ = iv2 at h ⊢
  refine g_icmp_eq (q := 902) 1409 X dL_law_899 (by decide) rfl (fun _ => hn _ _ _ h.2) (fun cx => absurd h.1.symm cx)
def Pr_coin (Inv : Nat → IV → RV → Prop) : Prop := ∀ (n : Nat) (iv : IV) (rv : RV) (a1 : Int), Inv n iv rv → inI a1 → wp_X10_coin a1 iv rv (fun r1 iv1 rv1 => wp_X12_coin a1 iv1 rv1 (fun r2 iv2 => r2 = r1 ∧ Inv n iv2 rv1))
theorem kV_L_89 : lkV RL 89 yX10_coin cX10_coin 2 (some .int) 1 = true := lkV_of 4 160 4 161 (lkM_of 4 159 4 162 1 1 rfl rfl rfl (by decide +kernel) (by decide +kernel) (by decide)) rfl rfl
theorem kV_L_92 : lkV RL 92 yX12_coin cX12_coin 2 (some .int) 1 = true := lkV_of 8 11 8 12 (lkM_of 8 10 8 13 1 12 rfl rfl rfl (by decide +kernel) (by decide +kernel) (by decide)) rfl rfl
set_option maxRecDepth 10000 in
theorem lc_coin {Γ : GX} {Inv : Nat → IV → RV → Prop} {Ln : Nat} {xs : Nat → Int32} {n : Nat} {iv : IV} {rv : RV} {u v : Nat} {i : Int} (X : Cx Γ RL cL_law 7 17) (hQ : LQ Γ) (hs : SX Γ Ln xs) (hi : 0 ≤ i ∧ i + 6 ≤ Ln) (hL : Ln ≤ 3072) (hu : u ≤ 600000) (hv : v ≤ 7290000) (hK : Lk n rv) (hI : Inv n iv rv) (hp : Pr_coin Inv) (hn : ∀ n iv rv, Inv n iv rv → G Γ 7 1409 (LwL i) [] n iv rv u v) : G Γ 7 904 (LwL i) [] n iv rv u v := by
  refine g_aload_n (q := 905) 1 X dL_law_904 rfl rfl rfl ?_
  refine g_aload_n (q := 906) 0 X dL_law_905 rfl rfl rfl ?_
  refine g_iload (q := 908) 4 X dL_law_906 rfl rfl ?_
  refine g_iconst (q := 909) 1 X dL_law_908 rfl rfl (by unfold inI; omega) ?_
  refine g_iadd (q := 910) X dL_law_909 rfl ?_
  rw [show w32 (i + 1) = i + 1 from w32_id (by omega) (by omega)]
  refine g_sld (q := 911) X hs ⟨by omega, by omega⟩ dL_law_910 rfl ?_
  have h := hp n iv rv ((xs (i + 1).toNat).toInt) hI (i32_in _)
  refine g_cvU (q := 914) [aI ((xs (i + 1).toNat).toInt)] 10 X (ce_X10_coin hK h) kV_L_89 rfl (by decide) rfl (hK.n (by decide)) rfl rfl (Nat.le_of_ble_eq_true rfl) (by decide) (hQ.cap (by omega) (by omega)) dL_law_911 rfl (fun r n_ iv_ rv_ hf => ?_)
  obtain ⟨en_, hK2_, r1, rfl, h⟩ := hf; subst n_
  generalize iv_ = iv1 at h ⊢
  generalize rv_ = rv1 at h hK2_ ⊢
  have hK1 := hK2_
  refine g_aload_n (q := 915) 2 X dL_law_914 rfl rfl rfl ?_
  refine g_aload_n (q := 916) 0 X dL_law_915 rfl rfl rfl ?_
  refine g_iload (q := 918) 4 X dL_law_916 rfl rfl ?_
  refine g_iconst (q := 919) 1 X dL_law_918 rfl rfl (by unfold inI; omega) ?_
  refine g_iadd (q := 920) X dL_law_919 rfl ?_
  rw [show w32 (i + 1) = i + 1 from w32_id (by omega) (by omega)]
  refine g_sld (q := 921) X hs ⟨by omega, by omega⟩ dL_law_920 rfl ?_
  refine g_cvU (q := 924) [aI ((xs (i + 1).toNat).toInt)] 12 X (ce_X12_coin hK1 h) kV_L_92 rfl (by decide) rfl (hK1.n (by decide)) rfl rfl (Nat.le_of_ble_eq_true rfl) (by decide) (hQ.cap (by omega) (by omega)) dL_law_921 rfl (fun r n_ iv_ rv_ hf => ?_)
  obtain ⟨en_, er_, r2, rfl, h⟩ := hf; subst n_; subst rv_
  generalize iv_ = iv2 at h ⊢
  refine g_icmp_eq (q := 927) 1409 X dL_law_924 (by decide) rfl (fun _ => hn _ _ _ h.2) (fun cx => absurd h.1.symm cx)
def Pr_worth (Inv : Nat → IV → RV → Prop) : Prop := ∀ (n : Nat) (iv : IV) (rv : RV) (a1 a2 : Int), Inv n iv rv → inI a1 → inI a2 → wp_X10_worth a1 a2 iv rv (fun r1 iv1 rv1 => wp_X12_worth a1 a2 iv1 rv1 (fun r2 iv2 => r2 = r1 ∧ Inv n iv2 rv1))
theorem kV_L_93 : lkV RL 93 yX10_worth cX10_worth 4 (some .int) 2 = true := lkV_of 4 168 4 169 (lkM_of 4 167 4 170 1 1 rfl rfl rfl (by decide +kernel) (by decide +kernel) (by decide)) rfl rfl
theorem kV_L_96 : lkV RL 96 yX12_worth cX12_worth 4 (some .int) 2 = true := lkV_of 8 19 8 20 (lkM_of 8 18 8 21 1 12 rfl rfl rfl (by decide +kernel) (by decide +kernel) (by decide)) rfl rfl
set_option maxRecDepth 10000 in
theorem lc_worth {Γ : GX} {Inv : Nat → IV → RV → Prop} {Ln : Nat} {xs : Nat → Int32} {n : Nat} {iv : IV} {rv : RV} {u v : Nat} {i : Int} (X : Cx Γ RL cL_law 7 17) (hQ : LQ Γ) (hs : SX Γ Ln xs) (hi : 0 ≤ i ∧ i + 6 ≤ Ln) (hL : Ln ≤ 3072) (hu : u ≤ 600000) (hv : v ≤ 7290000) (hK : Lk n rv) (hI : Inv n iv rv) (hp : Pr_worth Inv) (hn : ∀ n iv rv, Inv n iv rv → G Γ 7 1409 (LwL i) [] n iv rv u v) : G Γ 7 929 (LwL i) [] n iv rv u v := by
  refine g_aload_n (q := 930) 1 X dL_law_929 rfl rfl rfl ?_
  refine g_aload_n (q := 931) 0 X dL_law_930 rfl rfl rfl ?_
  refine g_iload (q := 933) 4 X dL_law_931 rfl rfl ?_
  refine g_iconst (q := 934) 1 X dL_law_933 rfl rfl (by unfold inI; omega) ?_
  refine g_iadd (q := 935) X dL_law_934 rfl ?_
  rw [show w32 (i + 1) = i + 1 from w32_id (by omega) (by omega)]
  refine g_sld (q := 936) X hs ⟨by omega, by omega⟩ dL_law_935 rfl ?_
  refine g_aload_n (q := 937) 0 X dL_law_936 rfl rfl rfl ?_
  refine g_iload (q := 939) 4 X dL_law_937 rfl rfl ?_
  refine g_iconst (q := 940) 2 X dL_law_939 rfl rfl (by unfold inI; omega) ?_
  refine g_iadd (q := 941) X dL_law_940 rfl ?_
  rw [show w32 (i + 2) = i + 2 from w32_id (by omega) (by omega)]
  refine g_sld (q := 942) X hs ⟨by omega, by omega⟩ dL_law_941 rfl ?_
  have h := hp n iv rv ((xs (i + 1).toNat).toInt) ((xs (i + 2).toNat).toInt) hI (i32_in _) (i32_in _)
  refine g_cvU (q := 945) [aI ((xs (i + 1).toNat).toInt), aI ((xs (i + 2).toNat).toInt)] 10 X (ce_X10_worth hK h) kV_L_93 rfl (by decide) rfl (hK.n (by decide)) rfl rfl (Nat.le_of_ble_eq_true rfl) (by decide) (hQ.cap (by omega) (by omega)) dL_law_942 rfl (fun r n_ iv_ rv_ hf => ?_)
  obtain ⟨en_, hK2_, r1, rfl, h⟩ := hf; subst n_
  generalize iv_ = iv1 at h ⊢
  generalize rv_ = rv1 at h hK2_ ⊢
  have hK1 := hK2_
  refine g_aload_n (q := 946) 2 X dL_law_945 rfl rfl rfl ?_
  refine g_aload_n (q := 947) 0 X dL_law_946 rfl rfl rfl ?_
  refine g_iload (q := 949) 4 X dL_law_947 rfl rfl ?_
  refine g_iconst (q := 950) 1 X dL_law_949 rfl rfl (by unfold inI; omega) ?_
  refine g_iadd (q := 951) X dL_law_950 rfl ?_
  rw [show w32 (i + 1) = i + 1 from w32_id (by omega) (by omega)]
  refine g_sld (q := 952) X hs ⟨by omega, by omega⟩ dL_law_951 rfl ?_
  refine g_aload_n (q := 953) 0 X dL_law_952 rfl rfl rfl ?_
  refine g_iload (q := 955) 4 X dL_law_953 rfl rfl ?_
  refine g_iconst (q := 956) 2 X dL_law_955 rfl rfl (by unfold inI; omega) ?_
  refine g_iadd (q := 957) X dL_law_956 rfl ?_
  rw [show w32 (i + 2) = i + 2 from w32_id (by omega) (by omega)]
  refine g_sld (q := 958) X hs ⟨by omega, by omega⟩ dL_law_957 rfl ?_
  refine g_cvU (q := 961) [aI ((xs (i + 1).toNat).toInt), aI ((xs (i + 2).toNat).toInt)] 12 X (ce_X12_worth hK1 h) kV_L_96 rfl (by decide) rfl (hK1.n (by decide)) rfl rfl (Nat.le_of_ble_eq_true rfl) (by decide) (hQ.cap (by omega) (by omega)) dL_law_958 rfl (fun r n_ iv_ rv_ hf => ?_)
  obtain ⟨en_, er_, r2, rfl, h⟩ := hf; subst n_; subst rv_
  generalize iv_ = iv2 at h ⊢
  refine g_icmp_eq (q := 964) 1409 X dL_law_961 (by decide) rfl (fun _ => hn _ _ _ h.2) (fun cx => absurd h.1.symm cx)
def Pr_hangs (Inv : Nat → IV → RV → Prop) : Prop := ∀ (n : Nat) (iv : IV) (rv : RV) (a1 : Int), Inv n iv rv → inI a1 → wp_X10_hangs a1 iv rv (fun r1 iv1 rv1 => wp_X12_hangs a1 iv1 rv1 (fun r2 iv2 => r2 = r1 ∧ Inv n iv2 rv1))
theorem kV_L_97 : lkV RL 97 yX10_hangs cX10_hangs 3 (some .int) 1 = true := lkV_of 4 172 4 173 (lkM_of 4 171 4 174 1 1 rfl rfl rfl (by decide +kernel) (by decide +kernel) (by decide)) rfl rfl
theorem kV_L_100 : lkV RL 100 yX12_hangs cX12_hangs 6 (some .int) 1 = true := lkV_of 8 23 8 24 (lkM_of 8 22 8 25 1 12 rfl rfl rfl (by decide +kernel) (by decide +kernel) (by decide)) rfl rfl
set_option maxRecDepth 10000 in
theorem lc_hangs {Γ : GX} {Inv : Nat → IV → RV → Prop} {Ln : Nat} {xs : Nat → Int32} {n : Nat} {iv : IV} {rv : RV} {u v : Nat} {i : Int} (X : Cx Γ RL cL_law 7 17) (hQ : LQ Γ) (hs : SX Γ Ln xs) (hi : 0 ≤ i ∧ i + 6 ≤ Ln) (hL : Ln ≤ 3072) (hu : u ≤ 600000) (hv : v ≤ 7290000) (hK : Lk n rv) (hI : Inv n iv rv) (hp : Pr_hangs Inv) (hn : ∀ n iv rv, Inv n iv rv → G Γ 7 1409 (LwL i) [] n iv rv u v) : G Γ 7 966 (LwL i) [] n iv rv u v := by
  refine g_aload_n (q := 967) 1 X dL_law_966 rfl rfl rfl ?_
  refine g_aload_n (q := 968) 0 X dL_law_967 rfl rfl rfl ?_
  refine g_iload (q := 970) 4 X dL_law_968 rfl rfl ?_
  refine g_iconst (q := 971) 1 X dL_law_970 rfl rfl (by unfold inI; omega) ?_
  refine g_iadd (q := 972) X dL_law_971 rfl ?_
  rw [show w32 (i + 1) = i + 1 from w32_id (by omega) (by omega)]
  refine g_sld (q := 973) X hs ⟨by omega, by omega⟩ dL_law_972 rfl ?_
  have h := hp n iv rv ((xs (i + 1).toNat).toInt) hI (i32_in _)
  refine g_cvU (q := 976) [aI ((xs (i + 1).toNat).toInt)] 10 X (ce_X10_hangs hK h) kV_L_97 rfl (by decide) rfl (hK.n (by decide)) rfl rfl (Nat.le_of_ble_eq_true rfl) (by decide) (hQ.cap (by omega) (by omega)) dL_law_973 rfl (fun r n_ iv_ rv_ hf => ?_)
  obtain ⟨en_, hK2_, r1, rfl, h⟩ := hf; subst n_
  generalize iv_ = iv1 at h ⊢
  generalize rv_ = rv1 at h hK2_ ⊢
  have hK1 := hK2_
  refine g_aload_n (q := 977) 2 X dL_law_976 rfl rfl rfl ?_
  refine g_aload_n (q := 978) 0 X dL_law_977 rfl rfl rfl ?_
  refine g_iload (q := 980) 4 X dL_law_978 rfl rfl ?_
  refine g_iconst (q := 981) 1 X dL_law_980 rfl rfl (by unfold inI; omega) ?_
  refine g_iadd (q := 982) X dL_law_981 rfl ?_
  rw [show w32 (i + 1) = i + 1 from w32_id (by omega) (by omega)]
  refine g_sld (q := 983) X hs ⟨by omega, by omega⟩ dL_law_982 rfl ?_
  refine g_cvU (q := 986) [aI ((xs (i + 1).toNat).toInt)] 12 X (ce_X12_hangs hK1 h) kV_L_100 rfl (by decide) rfl (hK1.n (by decide)) rfl rfl (Nat.le_of_ble_eq_true rfl) (by decide) (hQ.cap (by omega) (by omega)) dL_law_983 rfl (fun r n_ iv_ rv_ hf => ?_)
  obtain ⟨en_, er_, r2, rfl, h⟩ := hf; subst n_; subst rv_
  generalize iv_ = iv2 at h ⊢
  refine g_icmp_eq (q := 989) 1409 X dL_law_986 (by decide) rfl (fun _ => hn _ _ _ h.2) (fun cx => absurd h.1.symm cx)
def Pr_moves (Inv : Nat → IV → RV → Prop) : Prop := ∀ (n : Nat) (iv : IV) (rv : RV) (a1 a2 : Int), Inv n iv rv → inI a1 → inI a2 → wp_X10_moves a1 a2 iv rv (fun r1 iv1 rv1 => wp_X12_moves a1 a2 iv1 rv1 (fun r2 iv2 => r2 = r1 ∧ Inv n iv2 rv1))
theorem kV_L_101 : lkV RL 101 yX10_moves cX10_moves 3 (some .int) 2 = true := lkV_of 4 185 4 186 (lkM_of 4 184 4 187 1 1 rfl rfl rfl (by decide +kernel) (by decide +kernel) (by decide)) rfl rfl
theorem kV_L_104 : lkV RL 104 yX12_moves cX12_moves 3 (some .int) 2 = true := lkV_of 8 31 8 32 (lkM_of 8 30 8 33 1 12 rfl rfl rfl (by decide +kernel) (by decide +kernel) (by decide)) rfl rfl
set_option maxRecDepth 10000 in
theorem lc_moves {Γ : GX} {Inv : Nat → IV → RV → Prop} {Ln : Nat} {xs : Nat → Int32} {n : Nat} {iv : IV} {rv : RV} {u v : Nat} {i : Int} (X : Cx Γ RL cL_law 7 17) (hQ : LQ Γ) (hs : SX Γ Ln xs) (hi : 0 ≤ i ∧ i + 6 ≤ Ln) (hL : Ln ≤ 3072) (hu : u ≤ 600000) (hv : v ≤ 7290000) (hK : Lk n rv) (hI : Inv n iv rv) (hp : Pr_moves Inv) (hn : ∀ n iv rv, Inv n iv rv → G Γ 7 1409 (LwL i) [] n iv rv u v) : G Γ 7 991 (LwL i) [] n iv rv u v := by
  refine g_aload_n (q := 992) 1 X dL_law_991 rfl rfl rfl ?_
  refine g_aload_n (q := 993) 0 X dL_law_992 rfl rfl rfl ?_
  refine g_iload (q := 995) 4 X dL_law_993 rfl rfl ?_
  refine g_iconst (q := 996) 1 X dL_law_995 rfl rfl (by unfold inI; omega) ?_
  refine g_iadd (q := 997) X dL_law_996 rfl ?_
  rw [show w32 (i + 1) = i + 1 from w32_id (by omega) (by omega)]
  refine g_sld (q := 998) X hs ⟨by omega, by omega⟩ dL_law_997 rfl ?_
  refine g_aload_n (q := 999) 0 X dL_law_998 rfl rfl rfl ?_
  refine g_iload (q := 1001) 4 X dL_law_999 rfl rfl ?_
  refine g_iconst (q := 1002) 2 X dL_law_1001 rfl rfl (by unfold inI; omega) ?_
  refine g_iadd (q := 1003) X dL_law_1002 rfl ?_
  rw [show w32 (i + 2) = i + 2 from w32_id (by omega) (by omega)]
  refine g_sld (q := 1004) X hs ⟨by omega, by omega⟩ dL_law_1003 rfl ?_
  have h := hp n iv rv ((xs (i + 1).toNat).toInt) ((xs (i + 2).toNat).toInt) hI (i32_in _) (i32_in _)
  refine g_cvU (q := 1007) [aI ((xs (i + 1).toNat).toInt), aI ((xs (i + 2).toNat).toInt)] 10 X (ce_X10_moves hK h) kV_L_101 rfl (by decide) rfl (hK.n (by decide)) rfl rfl (Nat.le_of_ble_eq_true rfl) (by decide) (hQ.cap (by omega) (by omega)) dL_law_1004 rfl (fun r n_ iv_ rv_ hf => ?_)
  obtain ⟨en_, hK2_, r1, rfl, h⟩ := hf; subst n_
  generalize iv_ = iv1 at h ⊢
  generalize rv_ = rv1 at h hK2_ ⊢
  have hK1 := hK2_
  refine g_aload_n (q := 1008) 2 X dL_law_1007 rfl rfl rfl ?_
  refine g_aload_n (q := 1009) 0 X dL_law_1008 rfl rfl rfl ?_
  refine g_iload (q := 1011) 4 X dL_law_1009 rfl rfl ?_
  refine g_iconst (q := 1012) 1 X dL_law_1011 rfl rfl (by unfold inI; omega) ?_
  refine g_iadd (q := 1013) X dL_law_1012 rfl ?_
  rw [show w32 (i + 1) = i + 1 from w32_id (by omega) (by omega)]
  refine g_sld (q := 1014) X hs ⟨by omega, by omega⟩ dL_law_1013 rfl ?_
  refine g_aload_n (q := 1015) 0 X dL_law_1014 rfl rfl rfl ?_
  refine g_iload (q := 1017) 4 X dL_law_1015 rfl rfl ?_
  refine g_iconst (q := 1018) 2 X dL_law_1017 rfl rfl (by unfold inI; omega) ?_
  refine g_iadd (q := 1019) X dL_law_1018 rfl ?_
  rw [show w32 (i + 2) = i + 2 from w32_id (by omega) (by omega)]
  refine g_sld (q := 1020) X hs ⟨by omega, by omega⟩ dL_law_1019 rfl ?_
  refine g_cvU (q := 1023) [aI ((xs (i + 1).toNat).toInt), aI ((xs (i + 2).toNat).toInt)] 12 X (ce_X12_moves hK1 h) kV_L_104 rfl (by decide) rfl (hK1.n (by decide)) rfl rfl (Nat.le_of_ble_eq_true rfl) (by decide) (hQ.cap (by omega) (by omega)) dL_law_1020 rfl (fun r n_ iv_ rv_ hf => ?_)
  obtain ⟨en_, er_, r2, rfl, h⟩ := hf; subst n_; subst rv_
  generalize iv_ = iv2 at h ⊢
  refine g_icmp_eq (q := 1026) 1409 X dL_law_1023 (by decide) rfl (fun _ => hn _ _ _ h.2) (fun cx => absurd h.1.symm cx)
def Pr_brings (Inv : Nat → IV → RV → Prop) : Prop := ∀ (n : Nat) (iv : IV) (rv : RV) (a1 a2 a3 a4 : Int), Inv n iv rv → inI a1 → inI a2 → inI a3 → inI a4 → wp_X10_brings a1 a2 a3 a4 iv rv (fun r1 iv1 rv1 => wp_X12_brings a1 a2 a3 a4 iv1 rv1 (fun r2 iv2 => r2 = r1 ∧ Inv n iv2 rv1))
theorem kV_L_105 : lkV RL 105 yX10_brings cX10_brings 7 (some .int) 4 = true := lkV_of 4 190 4 191 (lkM_of 4 189 4 192 1 1 rfl rfl rfl (by decide +kernel) (by decide +kernel) (by decide)) rfl rfl
theorem kV_L_108 : lkV RL 108 yX12_brings cX12_brings 6 (some .int) 4 = true := lkV_of 8 35 8 36 (lkM_of 8 34 8 37 1 12 rfl rfl rfl (by decide +kernel) (by decide +kernel) (by decide)) rfl rfl
set_option maxRecDepth 10000 in
theorem lc_brings {Γ : GX} {Inv : Nat → IV → RV → Prop} {Ln : Nat} {xs : Nat → Int32} {n : Nat} {iv : IV} {rv : RV} {u v : Nat} {i : Int} (X : Cx Γ RL cL_law 7 17) (hQ : LQ Γ) (hs : SX Γ Ln xs) (hi : 0 ≤ i ∧ i + 6 ≤ Ln) (hL : Ln ≤ 3072) (hu : u ≤ 600000) (hv : v ≤ 7290000) (hK : Lk n rv) (hI : Inv n iv rv) (hp : Pr_brings Inv) (hn : ∀ n iv rv, Inv n iv rv → G Γ 7 1409 (LwL i) [] n iv rv u v) : G Γ 7 1028 (LwL i) [] n iv rv u v := by
  refine g_aload_n (q := 1029) 1 X dL_law_1028 rfl rfl rfl ?_
  refine g_aload_n (q := 1030) 0 X dL_law_1029 rfl rfl rfl ?_
  refine g_iload (q := 1032) 4 X dL_law_1030 rfl rfl ?_
  refine g_iconst (q := 1033) 1 X dL_law_1032 rfl rfl (by unfold inI; omega) ?_
  refine g_iadd (q := 1034) X dL_law_1033 rfl ?_
  rw [show w32 (i + 1) = i + 1 from w32_id (by omega) (by omega)]
  refine g_sld (q := 1035) X hs ⟨by omega, by omega⟩ dL_law_1034 rfl ?_
  refine g_aload_n (q := 1036) 0 X dL_law_1035 rfl rfl rfl ?_
  refine g_iload (q := 1038) 4 X dL_law_1036 rfl rfl ?_
  refine g_iconst (q := 1039) 2 X dL_law_1038 rfl rfl (by unfold inI; omega) ?_
  refine g_iadd (q := 1040) X dL_law_1039 rfl ?_
  rw [show w32 (i + 2) = i + 2 from w32_id (by omega) (by omega)]
  refine g_sld (q := 1041) X hs ⟨by omega, by omega⟩ dL_law_1040 rfl ?_
  refine g_aload_n (q := 1042) 0 X dL_law_1041 rfl rfl rfl ?_
  refine g_iload (q := 1044) 4 X dL_law_1042 rfl rfl ?_
  refine g_iconst (q := 1045) 3 X dL_law_1044 rfl rfl (by unfold inI; omega) ?_
  refine g_iadd (q := 1046) X dL_law_1045 rfl ?_
  rw [show w32 (i + 3) = i + 3 from w32_id (by omega) (by omega)]
  refine g_sld (q := 1047) X hs ⟨by omega, by omega⟩ dL_law_1046 rfl ?_
  refine g_aload_n (q := 1048) 0 X dL_law_1047 rfl rfl rfl ?_
  refine g_iload (q := 1050) 4 X dL_law_1048 rfl rfl ?_
  refine g_iconst (q := 1051) 4 X dL_law_1050 rfl rfl (by unfold inI; omega) ?_
  refine g_iadd (q := 1052) X dL_law_1051 rfl ?_
  rw [show w32 (i + 4) = i + 4 from w32_id (by omega) (by omega)]
  refine g_sld (q := 1053) X hs ⟨by omega, by omega⟩ dL_law_1052 rfl ?_
  have h := hp n iv rv ((xs (i + 1).toNat).toInt) ((xs (i + 2).toNat).toInt) ((xs (i + 3).toNat).toInt) ((xs (i + 4).toNat).toInt) hI (i32_in _) (i32_in _) (i32_in _) (i32_in _)
  refine g_cvU (q := 1056) [aI ((xs (i + 1).toNat).toInt), aI ((xs (i + 2).toNat).toInt), aI ((xs (i + 3).toNat).toInt), aI ((xs (i + 4).toNat).toInt)] 10 X (ce_X10_brings hK h) kV_L_105 rfl (by decide) rfl (hK.n (by decide)) rfl rfl (Nat.le_of_ble_eq_true rfl) (by decide) (hQ.cap (by omega) (by omega)) dL_law_1053 rfl (fun r n_ iv_ rv_ hf => ?_)
  obtain ⟨en_, hK2_, r1, rfl, h⟩ := hf; subst n_
  generalize iv_ = iv1 at h ⊢
  generalize rv_ = rv1 at h hK2_ ⊢
  have hK1 := hK2_
  refine g_aload_n (q := 1057) 2 X dL_law_1056 rfl rfl rfl ?_
  refine g_aload_n (q := 1058) 0 X dL_law_1057 rfl rfl rfl ?_
  refine g_iload (q := 1060) 4 X dL_law_1058 rfl rfl ?_
  refine g_iconst (q := 1061) 1 X dL_law_1060 rfl rfl (by unfold inI; omega) ?_
  refine g_iadd (q := 1062) X dL_law_1061 rfl ?_
  rw [show w32 (i + 1) = i + 1 from w32_id (by omega) (by omega)]
  refine g_sld (q := 1063) X hs ⟨by omega, by omega⟩ dL_law_1062 rfl ?_
  refine g_aload_n (q := 1064) 0 X dL_law_1063 rfl rfl rfl ?_
  refine g_iload (q := 1066) 4 X dL_law_1064 rfl rfl ?_
  refine g_iconst (q := 1067) 2 X dL_law_1066 rfl rfl (by unfold inI; omega) ?_
  refine g_iadd (q := 1068) X dL_law_1067 rfl ?_
  rw [show w32 (i + 2) = i + 2 from w32_id (by omega) (by omega)]
  refine g_sld (q := 1069) X hs ⟨by omega, by omega⟩ dL_law_1068 rfl ?_
  refine g_aload_n (q := 1070) 0 X dL_law_1069 rfl rfl rfl ?_
  refine g_iload (q := 1072) 4 X dL_law_1070 rfl rfl ?_
  refine g_iconst (q := 1073) 3 X dL_law_1072 rfl rfl (by unfold inI; omega) ?_
  refine g_iadd (q := 1074) X dL_law_1073 rfl ?_
  rw [show w32 (i + 3) = i + 3 from w32_id (by omega) (by omega)]
  refine g_sld (q := 1075) X hs ⟨by omega, by omega⟩ dL_law_1074 rfl ?_
  refine g_aload_n (q := 1076) 0 X dL_law_1075 rfl rfl rfl ?_
  refine g_iload (q := 1078) 4 X dL_law_1076 rfl rfl ?_
  refine g_iconst (q := 1079) 4 X dL_law_1078 rfl rfl (by unfold inI; omega) ?_
  refine g_iadd (q := 1080) X dL_law_1079 rfl ?_
  rw [show w32 (i + 4) = i + 4 from w32_id (by omega) (by omega)]
  refine g_sld (q := 1081) X hs ⟨by omega, by omega⟩ dL_law_1080 rfl ?_
  refine g_cvU (q := 1084) [aI ((xs (i + 1).toNat).toInt), aI ((xs (i + 2).toNat).toInt), aI ((xs (i + 3).toNat).toInt), aI ((xs (i + 4).toNat).toInt)] 12 X (ce_X12_brings hK1 h) kV_L_108 rfl (by decide) rfl (hK1.n (by decide)) rfl rfl (Nat.le_of_ble_eq_true rfl) (by decide) (hQ.cap (by omega) (by omega)) dL_law_1081 rfl (fun r n_ iv_ rv_ hf => ?_)
  obtain ⟨en_, er_, r2, rfl, h⟩ := hf; subst n_; subst rv_
  generalize iv_ = iv2 at h ⊢
  refine g_icmp_eq (q := 1087) 1409 X dL_law_1084 (by decide) rfl (fun _ => hn _ _ _ h.2) (fun cx => absurd h.1.symm cx)
def Pr_part (Inv : Nat → IV → RV → Prop) : Prop := ∀ (n : Nat) (iv : IV) (rv : RV) (a1 a2 : Int), Inv n iv rv → inI a1 → inI a2 → wp_X10_part a1 a2 iv rv (fun r1 iv1 rv1 => wp_X12_part a1 a2 iv1 rv1 (fun r2 iv2 => r2 = r1 ∧ Inv n iv2 rv1))
theorem kV_L_109 : lkV RL 109 yX10_part cX10_part 5 (some .int) 2 = true := lkV_of 4 198 4 199 (lkM_of 4 197 4 200 1 1 rfl rfl rfl (by decide +kernel) (by decide +kernel) (by decide)) rfl rfl
theorem kV_L_112 : lkV RL 112 yX12_part cX12_part 6 (some .int) 2 = true := lkV_of 8 39 8 40 (lkM_of 8 38 8 41 1 12 rfl rfl rfl (by decide +kernel) (by decide +kernel) (by decide)) rfl rfl
set_option maxRecDepth 10000 in
theorem lc_part {Γ : GX} {Inv : Nat → IV → RV → Prop} {Ln : Nat} {xs : Nat → Int32} {n : Nat} {iv : IV} {rv : RV} {u v : Nat} {i : Int} (X : Cx Γ RL cL_law 7 17) (hQ : LQ Γ) (hs : SX Γ Ln xs) (hi : 0 ≤ i ∧ i + 6 ≤ Ln) (hL : Ln ≤ 3072) (hu : u ≤ 600000) (hv : v ≤ 7290000) (hK : Lk n rv) (hI : Inv n iv rv) (hp : Pr_part Inv) (hn : ∀ n iv rv, Inv n iv rv → G Γ 7 1409 (LwL i) [] n iv rv u v) : G Γ 7 1089 (LwL i) [] n iv rv u v := by
  refine g_aload_n (q := 1090) 1 X dL_law_1089 rfl rfl rfl ?_
  refine g_aload_n (q := 1091) 0 X dL_law_1090 rfl rfl rfl ?_
  refine g_iload (q := 1093) 4 X dL_law_1091 rfl rfl ?_
  refine g_iconst (q := 1094) 1 X dL_law_1093 rfl rfl (by unfold inI; omega) ?_
  refine g_iadd (q := 1095) X dL_law_1094 rfl ?_
  rw [show w32 (i + 1) = i + 1 from w32_id (by omega) (by omega)]
  refine g_sld (q := 1096) X hs ⟨by omega, by omega⟩ dL_law_1095 rfl ?_
  refine g_aload_n (q := 1097) 0 X dL_law_1096 rfl rfl rfl ?_
  refine g_iload (q := 1099) 4 X dL_law_1097 rfl rfl ?_
  refine g_iconst (q := 1100) 2 X dL_law_1099 rfl rfl (by unfold inI; omega) ?_
  refine g_iadd (q := 1101) X dL_law_1100 rfl ?_
  rw [show w32 (i + 2) = i + 2 from w32_id (by omega) (by omega)]
  refine g_sld (q := 1102) X hs ⟨by omega, by omega⟩ dL_law_1101 rfl ?_
  have h := hp n iv rv ((xs (i + 1).toNat).toInt) ((xs (i + 2).toNat).toInt) hI (i32_in _) (i32_in _)
  refine g_cvU (q := 1105) [aI ((xs (i + 1).toNat).toInt), aI ((xs (i + 2).toNat).toInt)] 10 X (ce_X10_part hK h) kV_L_109 rfl (by decide) rfl (hK.n (by decide)) rfl rfl (Nat.le_of_ble_eq_true rfl) (by decide) (hQ.cap (by omega) (by omega)) dL_law_1102 rfl (fun r n_ iv_ rv_ hf => ?_)
  obtain ⟨en_, hK2_, r1, rfl, h⟩ := hf; subst n_
  generalize iv_ = iv1 at h ⊢
  generalize rv_ = rv1 at h hK2_ ⊢
  have hK1 := hK2_
  refine g_aload_n (q := 1106) 2 X dL_law_1105 rfl rfl rfl ?_
  refine g_aload_n (q := 1107) 0 X dL_law_1106 rfl rfl rfl ?_
  refine g_iload (q := 1109) 4 X dL_law_1107 rfl rfl ?_
  refine g_iconst (q := 1110) 1 X dL_law_1109 rfl rfl (by unfold inI; omega) ?_
  refine g_iadd (q := 1111) X dL_law_1110 rfl ?_
  rw [show w32 (i + 1) = i + 1 from w32_id (by omega) (by omega)]
  refine g_sld (q := 1112) X hs ⟨by omega, by omega⟩ dL_law_1111 rfl ?_
  refine g_aload_n (q := 1113) 0 X dL_law_1112 rfl rfl rfl ?_
  refine g_iload (q := 1115) 4 X dL_law_1113 rfl rfl ?_
  refine g_iconst (q := 1116) 2 X dL_law_1115 rfl rfl (by unfold inI; omega) ?_
  refine g_iadd (q := 1117) X dL_law_1116 rfl ?_
  rw [show w32 (i + 2) = i + 2 from w32_id (by omega) (by omega)]
  refine g_sld (q := 1118) X hs ⟨by omega, by omega⟩ dL_law_1117 rfl ?_
  refine g_cvU (q := 1121) [aI ((xs (i + 1).toNat).toInt), aI ((xs (i + 2).toNat).toInt)] 12 X (ce_X12_part hK1 h) kV_L_112 rfl (by decide) rfl (hK1.n (by decide)) rfl rfl (Nat.le_of_ble_eq_true rfl) (by decide) (hQ.cap (by omega) (by omega)) dL_law_1118 rfl (fun r n_ iv_ rv_ hf => ?_)
  obtain ⟨en_, er_, r2, rfl, h⟩ := hf; subst n_; subst rv_
  generalize iv_ = iv2 at h ⊢
  refine g_icmp_eq (q := 1124) 1409 X dL_law_1121 (by decide) rfl (fun _ => hn _ _ _ h.2) (fun cx => absurd h.1.symm cx)
def Pr_lose (Inv : Nat → IV → RV → Prop) : Prop := ∀ (n : Nat) (iv : IV) (rv : RV) (a1 a2 : Int), Inv n iv rv → inI a1 → (a2 = 0 ∨ a2 = 1) → wp_X10_lose a1 a2 iv rv (fun r1 iv1 => wp_X12_lose a1 a2 iv1 rv (fun r2 iv2 => r2 = r1 ∧ Inv n iv2 rv))
theorem kV_L_113 : lkV RL 113 yX10_lose cX10_lose 3 (some .boolean) 2 = true := lkV_of 4 206 4 207 (lkM_of 4 205 4 208 1 1 rfl rfl rfl (by decide +kernel) (by decide +kernel) (by decide)) rfl rfl
theorem kV_L_117 : lkV RL 117 yX12_lose cX12_lose 3 (some .boolean) 2 = true := lkV_of 8 43 8 44 (lkM_of 8 42 8 45 1 12 rfl rfl rfl (by decide +kernel) (by decide +kernel) (by decide)) rfl rfl
set_option maxRecDepth 10000 in
theorem lc_lose {Γ : GX} {Inv : Nat → IV → RV → Prop} {Ln : Nat} {xs : Nat → Int32} {n : Nat} {iv : IV} {rv : RV} {u v : Nat} {i : Int} (X : Cx Γ RL cL_law 7 17) (hQ : LQ Γ) (hs : SX Γ Ln xs) (hi : 0 ≤ i ∧ i + 6 ≤ Ln) (hL : Ln ≤ 3072) (hu : u ≤ 600000) (hv : v ≤ 7290000) (hK : Lk n rv) (hI : Inv n iv rv) (hp : Pr_lose Inv) (hn : ∀ n iv rv, Inv n iv rv → G Γ 7 1409 (LwL i) [] n iv rv u v) : G Γ 7 1126 (LwL i) [] n iv rv u v := by
  refine g_aload_n (q := 1127) 1 X dL_law_1126 rfl rfl rfl ?_
  refine g_aload_n (q := 1128) 0 X dL_law_1127 rfl rfl rfl ?_
  refine g_iload (q := 1130) 4 X dL_law_1128 rfl rfl ?_
  refine g_iconst (q := 1131) 1 X dL_law_1130 rfl rfl (by unfold inI; omega) ?_
  refine g_iadd (q := 1132) X dL_law_1131 rfl ?_
  rw [show w32 (i + 1) = i + 1 from w32_id (by omega) (by omega)]
  refine g_sld (q := 1133) X hs ⟨by omega, by omega⟩ dL_law_1132 rfl ?_
  refine g_aload_n (q := 1134) 0 X dL_law_1133 rfl rfl rfl ?_
  refine g_iload (q := 1136) 4 X dL_law_1134 rfl rfl ?_
  refine g_iconst (q := 1137) 2 X dL_law_1136 rfl rfl (by unfold inI; omega) ?_
  refine g_iadd (q := 1138) X dL_law_1137 rfl ?_
  rw [show w32 (i + 2) = i + 2 from w32_id (by omega) (by omega)]
  refine g_sld (q := 1139) X hs ⟨by omega, by omega⟩ dL_law_1138 rfl ?_
  refine g_if_eq (q := 1142) 1146 X dL_law_1139 (by decide) rfl (fun cz1139 => ?_) (fun cz1139 => ?_)
  · refine g_iconst (q := 1147) 0 X dL_law_1146 rfl rfl i0 ?_
    have h := hp n iv rv ((xs (i + 1).toNat).toInt) 0 hI (i32_in _) (Or.inl rfl)
    have cz0 := cz1139
    refine g_cvU (q := 1150) [aI ((xs (i + 1).toNat).toInt), aI 0] 10 X (ce_X10_lose hK h) kV_L_113 rfl (by decide) rfl (hK.n (by decide)) rfl rfl (Nat.le_of_ble_eq_true rfl) (by decide) (hQ.cap (by omega) (by omega)) dL_law_1147 rfl (fun r n_ iv_ rv_ hf => ?_)
    obtain ⟨en_, er_, r1, rfl, _, h⟩ := hf; subst n_; subst rv_
    generalize iv_ = iv1 at h ⊢
    have hK1 := hK
    refine g_aload_n (q := 1151) 2 X dL_law_1150 rfl rfl rfl ?_
    refine g_aload_n (q := 1152) 0 X dL_law_1151 rfl rfl rfl ?_
    refine g_iload (q := 1154) 4 X dL_law_1152 rfl rfl ?_
    refine g_iconst (q := 1155) 1 X dL_law_1154 rfl rfl (by unfold inI; omega) ?_
    refine g_iadd (q := 1156) X dL_law_1155 rfl ?_
    rw [show w32 (i + 1) = i + 1 from w32_id (by omega) (by omega)]
    refine g_sld (q := 1157) X hs ⟨by omega, by omega⟩ dL_law_1156 rfl ?_
    refine g_aload_n (q := 1158) 0 X dL_law_1157 rfl rfl rfl ?_
    refine g_iload (q := 1160) 4 X dL_law_1158 rfl rfl ?_
    refine g_iconst (q := 1161) 2 X dL_law_1160 rfl rfl (by unfold inI; omega) ?_
    refine g_iadd (q := 1162) X dL_law_1161 rfl ?_
    rw [show w32 (i + 2) = i + 2 from w32_id (by omega) (by omega)]
    refine g_sld (q := 1163) X hs ⟨by omega, by omega⟩ dL_law_1162 rfl ?_
    refine g_if_eq (q := 1166) 1170 X dL_law_1163 (by decide) rfl (fun cz1163 => ?_) (fun cz1163 => ?_)
    · refine g_iconst (q := 1171) 0 X dL_law_1170 rfl rfl i0 ?_
      refine g_cvU (q := 1174) [aI ((xs (i + 1).toNat).toInt), aI 0] 12 X (ce_X12_lose hK1 h) kV_L_117 rfl (by decide) rfl (hK1.n (by decide)) rfl rfl (Nat.le_of_ble_eq_true rfl) (by decide) (hQ.cap (by omega) (by omega)) dL_law_1171 rfl (fun r n_ iv_ rv_ hf => ?_)
      obtain ⟨en_, er_, r2, rfl, _, h⟩ := hf; subst n_; subst rv_
      generalize iv_ = iv2 at h ⊢
      refine g_icmp_eq (q := 1177) 1409 X dL_law_1174 (by decide) rfl (fun _ => hn _ _ _ h.2) (fun cx => absurd h.1.symm cx)
    · refine g_iconst (q := 1167) 1 X dL_law_1166 rfl rfl (by unfold inI; omega) ?_
      refine g_goto (q := 1171) X dL_law_1167 (by decide) ?_
      exact absurd cz0 cz1163
  · refine g_iconst (q := 1143) 1 X dL_law_1142 rfl rfl (by unfold inI; omega) ?_
    refine g_goto (q := 1147) X dL_law_1143 (by decide) ?_
    have h := hp n iv rv ((xs (i + 1).toNat).toInt) 1 hI (i32_in _) (Or.inr rfl)
    have cz0 := cz1139
    refine g_cvU (q := 1150) [aI ((xs (i + 1).toNat).toInt), aI 1] 10 X (ce_X10_lose hK h) kV_L_113 rfl (by decide) rfl (hK.n (by decide)) rfl rfl (Nat.le_of_ble_eq_true rfl) (by decide) (hQ.cap (by omega) (by omega)) dL_law_1147 rfl (fun r n_ iv_ rv_ hf => ?_)
    obtain ⟨en_, er_, r1, rfl, _, h⟩ := hf; subst n_; subst rv_
    generalize iv_ = iv1 at h ⊢
    have hK1 := hK
    refine g_aload_n (q := 1151) 2 X dL_law_1150 rfl rfl rfl ?_
    refine g_aload_n (q := 1152) 0 X dL_law_1151 rfl rfl rfl ?_
    refine g_iload (q := 1154) 4 X dL_law_1152 rfl rfl ?_
    refine g_iconst (q := 1155) 1 X dL_law_1154 rfl rfl (by unfold inI; omega) ?_
    refine g_iadd (q := 1156) X dL_law_1155 rfl ?_
    rw [show w32 (i + 1) = i + 1 from w32_id (by omega) (by omega)]
    refine g_sld (q := 1157) X hs ⟨by omega, by omega⟩ dL_law_1156 rfl ?_
    refine g_aload_n (q := 1158) 0 X dL_law_1157 rfl rfl rfl ?_
    refine g_iload (q := 1160) 4 X dL_law_1158 rfl rfl ?_
    refine g_iconst (q := 1161) 2 X dL_law_1160 rfl rfl (by unfold inI; omega) ?_
    refine g_iadd (q := 1162) X dL_law_1161 rfl ?_
    rw [show w32 (i + 2) = i + 2 from w32_id (by omega) (by omega)]
    refine g_sld (q := 1163) X hs ⟨by omega, by omega⟩ dL_law_1162 rfl ?_
    refine g_if_eq (q := 1166) 1170 X dL_law_1163 (by decide) rfl (fun cz1163 => ?_) (fun cz1163 => ?_)
    · refine g_iconst (q := 1171) 0 X dL_law_1170 rfl rfl i0 ?_
      exact absurd cz1163 cz0
    · refine g_iconst (q := 1167) 1 X dL_law_1166 rfl rfl (by unfold inI; omega) ?_
      refine g_goto (q := 1171) X dL_law_1167 (by decide) ?_
      refine g_cvU (q := 1174) [aI ((xs (i + 1).toNat).toInt), aI 1] 12 X (ce_X12_lose hK1 h) kV_L_117 rfl (by decide) rfl (hK1.n (by decide)) rfl rfl (Nat.le_of_ble_eq_true rfl) (by decide) (hQ.cap (by omega) (by omega)) dL_law_1171 rfl (fun r n_ iv_ rv_ hf => ?_)
      obtain ⟨en_, er_, r2, rfl, _, h⟩ := hf; subst n_; subst rv_
      generalize iv_ = iv2 at h ⊢
      refine g_icmp_eq (q := 1177) 1409 X dL_law_1174 (by decide) rfl (fun _ => hn _ _ _ h.2) (fun cx => absurd h.1.symm cx)
def Pr_find (Inv : Nat → IV → RV → Prop) : Prop := ∀ (n : Nat) (iv : IV) (rv : RV) (a1 : Int), Inv n iv rv → inI a1 → wp_X10_find a1 iv rv (fun r1 iv1 => wp_X12_find a1 iv1 rv (fun r2 iv2 => r2 = r1 ∧ Inv n iv2 rv))
theorem kV_L_118 : lkV RL 118 yX10_find cX10_find 2 (some .boolean) 1 = true := lkV_of 4 210 4 211 (lkM_of 4 209 4 212 1 1 rfl rfl rfl (by decide +kernel) (by decide +kernel) (by decide)) rfl rfl
theorem kV_L_122 : lkV RL 122 yX12_find cX12_find 2 (some .boolean) 1 = true := lkV_of 8 55 8 56 (lkM_of 8 54 8 57 1 12 rfl rfl rfl (by decide +kernel) (by decide +kernel) (by decide)) rfl rfl
set_option maxRecDepth 10000 in
theorem lc_find {Γ : GX} {Inv : Nat → IV → RV → Prop} {Ln : Nat} {xs : Nat → Int32} {n : Nat} {iv : IV} {rv : RV} {u v : Nat} {i : Int} (X : Cx Γ RL cL_law 7 17) (hQ : LQ Γ) (hs : SX Γ Ln xs) (hi : 0 ≤ i ∧ i + 6 ≤ Ln) (hL : Ln ≤ 3072) (hu : u ≤ 600000) (hv : v ≤ 7290000) (hK : Lk n rv) (hI : Inv n iv rv) (hp : Pr_find Inv) (hn : ∀ n iv rv, Inv n iv rv → G Γ 7 1409 (LwL i) [] n iv rv u v) : G Γ 7 1179 (LwL i) [] n iv rv u v := by
  refine g_aload_n (q := 1180) 1 X dL_law_1179 rfl rfl rfl ?_
  refine g_aload_n (q := 1181) 0 X dL_law_1180 rfl rfl rfl ?_
  refine g_iload (q := 1183) 4 X dL_law_1181 rfl rfl ?_
  refine g_iconst (q := 1184) 1 X dL_law_1183 rfl rfl (by unfold inI; omega) ?_
  refine g_iadd (q := 1185) X dL_law_1184 rfl ?_
  rw [show w32 (i + 1) = i + 1 from w32_id (by omega) (by omega)]
  refine g_sld (q := 1186) X hs ⟨by omega, by omega⟩ dL_law_1185 rfl ?_
  have h := hp n iv rv ((xs (i + 1).toNat).toInt) hI (i32_in _)
  refine g_cvU (q := 1189) [aI ((xs (i + 1).toNat).toInt)] 10 X (ce_X10_find hK h) kV_L_118 rfl (by decide) rfl (hK.n (by decide)) rfl rfl (Nat.le_of_ble_eq_true rfl) (by decide) (hQ.cap (by omega) (by omega)) dL_law_1186 rfl (fun r n_ iv_ rv_ hf => ?_)
  obtain ⟨en_, er_, r1, rfl, _, h⟩ := hf; subst n_; subst rv_
  generalize iv_ = iv1 at h ⊢
  have hK1 := hK
  refine g_aload_n (q := 1190) 2 X dL_law_1189 rfl rfl rfl ?_
  refine g_aload_n (q := 1191) 0 X dL_law_1190 rfl rfl rfl ?_
  refine g_iload (q := 1193) 4 X dL_law_1191 rfl rfl ?_
  refine g_iconst (q := 1194) 1 X dL_law_1193 rfl rfl (by unfold inI; omega) ?_
  refine g_iadd (q := 1195) X dL_law_1194 rfl ?_
  rw [show w32 (i + 1) = i + 1 from w32_id (by omega) (by omega)]
  refine g_sld (q := 1196) X hs ⟨by omega, by omega⟩ dL_law_1195 rfl ?_
  refine g_cvU (q := 1199) [aI ((xs (i + 1).toNat).toInt)] 12 X (ce_X12_find hK1 h) kV_L_122 rfl (by decide) rfl (hK1.n (by decide)) rfl rfl (Nat.le_of_ble_eq_true rfl) (by decide) (hQ.cap (by omega) (by omega)) dL_law_1196 rfl (fun r n_ iv_ rv_ hf => ?_)
  obtain ⟨en_, er_, r2, rfl, _, h⟩ := hf; subst n_; subst rv_
  generalize iv_ = iv2 at h ⊢
  refine g_icmp_eq (q := 1202) 1409 X dL_law_1199 (by decide) rfl (fun _ => hn _ _ _ h.2) (fun cx => absurd h.1.symm cx)
def Pr_date (Inv : Nat → IV → RV → Prop) : Prop := ∀ (n : Nat) (iv : IV) (rv : RV) (a1 a2 : Int), Inv n iv rv → inI a1 → inI a2 → wp_X10_date a1 a2 iv rv (fun r1 iv1 => wp_X12_date a1 a2 iv1 rv (fun r2 iv2 => r2 = r1 ∧ Inv n iv2 rv))
theorem kV_L_123 : lkV RL 123 yX10_date cX10_date 3 (some .boolean) 2 = true := lkV_of 4 214 4 215 (lkM_of 4 213 4 216 1 1 rfl rfl rfl (by decide +kernel) (by decide +kernel) (by decide)) rfl rfl
theorem kV_L_127 : lkV RL 127 yX12_date cX12_date 3 (some .boolean) 2 = true := lkV_of 8 59 8 60 (lkM_of 8 58 8 61 1 12 rfl rfl rfl (by decide +kernel) (by decide +kernel) (by decide)) rfl rfl
set_option maxRecDepth 10000 in
theorem lc_date {Γ : GX} {Inv : Nat → IV → RV → Prop} {Ln : Nat} {xs : Nat → Int32} {n : Nat} {iv : IV} {rv : RV} {u v : Nat} {i : Int} (X : Cx Γ RL cL_law 7 17) (hQ : LQ Γ) (hs : SX Γ Ln xs) (hi : 0 ≤ i ∧ i + 6 ≤ Ln) (hL : Ln ≤ 3072) (hu : u ≤ 600000) (hv : v ≤ 7290000) (hK : Lk n rv) (hI : Inv n iv rv) (hp : Pr_date Inv) (hn : ∀ n iv rv, Inv n iv rv → G Γ 7 1409 (LwL i) [] n iv rv u v) : G Γ 7 1204 (LwL i) [] n iv rv u v := by
  refine g_aload_n (q := 1205) 1 X dL_law_1204 rfl rfl rfl ?_
  refine g_aload_n (q := 1206) 0 X dL_law_1205 rfl rfl rfl ?_
  refine g_iload (q := 1208) 4 X dL_law_1206 rfl rfl ?_
  refine g_iconst (q := 1209) 1 X dL_law_1208 rfl rfl (by unfold inI; omega) ?_
  refine g_iadd (q := 1210) X dL_law_1209 rfl ?_
  rw [show w32 (i + 1) = i + 1 from w32_id (by omega) (by omega)]
  refine g_sld (q := 1211) X hs ⟨by omega, by omega⟩ dL_law_1210 rfl ?_
  refine g_aload_n (q := 1212) 0 X dL_law_1211 rfl rfl rfl ?_
  refine g_iload (q := 1214) 4 X dL_law_1212 rfl rfl ?_
  refine g_iconst (q := 1215) 2 X dL_law_1214 rfl rfl (by unfold inI; omega) ?_
  refine g_iadd (q := 1216) X dL_law_1215 rfl ?_
  rw [show w32 (i + 2) = i + 2 from w32_id (by omega) (by omega)]
  refine g_sld (q := 1217) X hs ⟨by omega, by omega⟩ dL_law_1216 rfl ?_
  have h := hp n iv rv ((xs (i + 1).toNat).toInt) ((xs (i + 2).toNat).toInt) hI (i32_in _) (i32_in _)
  refine g_cvU (q := 1220) [aI ((xs (i + 1).toNat).toInt), aI ((xs (i + 2).toNat).toInt)] 10 X (ce_X10_date hK h) kV_L_123 rfl (by decide) rfl (hK.n (by decide)) rfl rfl (Nat.le_of_ble_eq_true rfl) (by decide) (hQ.cap (by omega) (by omega)) dL_law_1217 rfl (fun r n_ iv_ rv_ hf => ?_)
  obtain ⟨en_, er_, r1, rfl, _, h⟩ := hf; subst n_; subst rv_
  generalize iv_ = iv1 at h ⊢
  have hK1 := hK
  refine g_aload_n (q := 1221) 2 X dL_law_1220 rfl rfl rfl ?_
  refine g_aload_n (q := 1222) 0 X dL_law_1221 rfl rfl rfl ?_
  refine g_iload (q := 1224) 4 X dL_law_1222 rfl rfl ?_
  refine g_iconst (q := 1225) 1 X dL_law_1224 rfl rfl (by unfold inI; omega) ?_
  refine g_iadd (q := 1226) X dL_law_1225 rfl ?_
  rw [show w32 (i + 1) = i + 1 from w32_id (by omega) (by omega)]
  refine g_sld (q := 1227) X hs ⟨by omega, by omega⟩ dL_law_1226 rfl ?_
  refine g_aload_n (q := 1228) 0 X dL_law_1227 rfl rfl rfl ?_
  refine g_iload (q := 1230) 4 X dL_law_1228 rfl rfl ?_
  refine g_iconst (q := 1231) 2 X dL_law_1230 rfl rfl (by unfold inI; omega) ?_
  refine g_iadd (q := 1232) X dL_law_1231 rfl ?_
  rw [show w32 (i + 2) = i + 2 from w32_id (by omega) (by omega)]
  refine g_sld (q := 1233) X hs ⟨by omega, by omega⟩ dL_law_1232 rfl ?_
  refine g_cvU (q := 1236) [aI ((xs (i + 1).toNat).toInt), aI ((xs (i + 2).toNat).toInt)] 12 X (ce_X12_date hK1 h) kV_L_127 rfl (by decide) rfl (hK1.n (by decide)) rfl rfl (Nat.le_of_ble_eq_true rfl) (by decide) (hQ.cap (by omega) (by omega)) dL_law_1233 rfl (fun r n_ iv_ rv_ hf => ?_)
  obtain ⟨en_, er_, r2, rfl, _, h⟩ := hf; subst n_; subst rv_
  generalize iv_ = iv2 at h ⊢
  refine g_icmp_eq (q := 1239) 1409 X dL_law_1236 (by decide) rfl (fun _ => hn _ _ _ h.2) (fun cx => absurd h.1.symm cx)
def Pr_grant (Inv : Nat → IV → RV → Prop) : Prop := ∀ (n : Nat) (iv : IV) (rv : RV) (a1 a2 : Int), Inv n iv rv → inI a1 → inI a2 → wp_X10_grant a1 a2 iv rv (fun r1 => wp_X12_grant a1 a2 iv rv (fun r2 iv2 => r2 = r1 ∧ Inv n iv2 rv))
theorem kV_L_128 : lkV RL 128 yX10_grant cX10_grant 3 (some .int) 2 = true := lkV_of 4 218 4 219 (lkM_of 4 217 4 220 1 1 rfl rfl rfl (by decide +kernel) (by decide +kernel) (by decide)) rfl rfl
theorem kV_L_131 : lkV RL 131 yX12_grant cX12_grant 5 (some .int) 2 = true := lkV_of 8 63 8 64 (lkM_of 8 62 8 65 1 12 rfl rfl rfl (by decide +kernel) (by decide +kernel) (by decide)) rfl rfl
set_option maxRecDepth 10000 in
theorem lc_grant {Γ : GX} {Inv : Nat → IV → RV → Prop} {Ln : Nat} {xs : Nat → Int32} {n : Nat} {iv : IV} {rv : RV} {u v : Nat} {i : Int} (X : Cx Γ RL cL_law 7 17) (hQ : LQ Γ) (hs : SX Γ Ln xs) (hi : 0 ≤ i ∧ i + 6 ≤ Ln) (hL : Ln ≤ 3072) (hu : u ≤ 600000) (hv : v ≤ 7290000) (hK : Lk n rv) (hI : Inv n iv rv) (hp : Pr_grant Inv) (hn : ∀ n iv rv, Inv n iv rv → G Γ 7 1409 (LwL i) [] n iv rv u v) : G Γ 7 1241 (LwL i) [] n iv rv u v := by
  refine g_aload_n (q := 1242) 1 X dL_law_1241 rfl rfl rfl ?_
  refine g_aload_n (q := 1243) 0 X dL_law_1242 rfl rfl rfl ?_
  refine g_iload (q := 1245) 4 X dL_law_1243 rfl rfl ?_
  refine g_iconst (q := 1246) 1 X dL_law_1245 rfl rfl (by unfold inI; omega) ?_
  refine g_iadd (q := 1247) X dL_law_1246 rfl ?_
  rw [show w32 (i + 1) = i + 1 from w32_id (by omega) (by omega)]
  refine g_sld (q := 1248) X hs ⟨by omega, by omega⟩ dL_law_1247 rfl ?_
  refine g_aload_n (q := 1249) 0 X dL_law_1248 rfl rfl rfl ?_
  refine g_iload (q := 1251) 4 X dL_law_1249 rfl rfl ?_
  refine g_iconst (q := 1252) 2 X dL_law_1251 rfl rfl (by unfold inI; omega) ?_
  refine g_iadd (q := 1253) X dL_law_1252 rfl ?_
  rw [show w32 (i + 2) = i + 2 from w32_id (by omega) (by omega)]
  refine g_sld (q := 1254) X hs ⟨by omega, by omega⟩ dL_law_1253 rfl ?_
  have h := hp n iv rv ((xs (i + 1).toNat).toInt) ((xs (i + 2).toNat).toInt) hI (i32_in _) (i32_in _)
  refine g_cvU (q := 1257) [aI ((xs (i + 1).toNat).toInt), aI ((xs (i + 2).toNat).toInt)] 10 X (ce_X10_grant hK h) kV_L_128 rfl (by decide) rfl (hK.n (by decide)) rfl rfl (Nat.le_of_ble_eq_true rfl) (by decide) (hQ.cap (by omega) (by omega)) dL_law_1254 rfl (fun r n_ iv_ rv_ hf => ?_)
  obtain ⟨en_, ei_, er_, r1, rfl, h⟩ := hf; subst n_; subst iv_; subst rv_
  have hK1 := hK
  refine g_aload_n (q := 1258) 2 X dL_law_1257 rfl rfl rfl ?_
  refine g_aload_n (q := 1259) 0 X dL_law_1258 rfl rfl rfl ?_
  refine g_iload (q := 1261) 4 X dL_law_1259 rfl rfl ?_
  refine g_iconst (q := 1262) 1 X dL_law_1261 rfl rfl (by unfold inI; omega) ?_
  refine g_iadd (q := 1263) X dL_law_1262 rfl ?_
  rw [show w32 (i + 1) = i + 1 from w32_id (by omega) (by omega)]
  refine g_sld (q := 1264) X hs ⟨by omega, by omega⟩ dL_law_1263 rfl ?_
  refine g_aload_n (q := 1265) 0 X dL_law_1264 rfl rfl rfl ?_
  refine g_iload (q := 1267) 4 X dL_law_1265 rfl rfl ?_
  refine g_iconst (q := 1268) 2 X dL_law_1267 rfl rfl (by unfold inI; omega) ?_
  refine g_iadd (q := 1269) X dL_law_1268 rfl ?_
  rw [show w32 (i + 2) = i + 2 from w32_id (by omega) (by omega)]
  refine g_sld (q := 1270) X hs ⟨by omega, by omega⟩ dL_law_1269 rfl ?_
  refine g_cvU (q := 1273) [aI ((xs (i + 1).toNat).toInt), aI ((xs (i + 2).toNat).toInt)] 12 X (ce_X12_grant hK1 h) kV_L_131 rfl (by decide) rfl (hK1.n (by decide)) rfl rfl (Nat.le_of_ble_eq_true rfl) (by decide) (hQ.cap (by omega) (by omega)) dL_law_1270 rfl (fun r n_ iv_ rv_ hf => ?_)
  obtain ⟨en_, er_, r2, rfl, h⟩ := hf; subst n_; subst rv_
  generalize iv_ = iv2 at h ⊢
  refine g_icmp_eq (q := 1276) 1409 X dL_law_1273 (by decide) rfl (fun _ => hn _ _ _ h.2) (fun cx => absurd h.1.symm cx)
def Pr_cart (Inv : Nat → IV → RV → Prop) : Prop := ∀ (n : Nat) (iv : IV) (rv : RV) (a1 a2 : Int), Inv n iv rv → inI a1 → inI a2 → wp_X10_cart a1 a2 iv rv (fun r1 => wp_X12_cart a1 a2 iv rv (fun r2 iv2 => r2 = r1 ∧ Inv n iv2 rv))
theorem kV_L_132 : lkV RL 132 yX10_cart cX10_cart 3 (some .int) 2 = true := lkV_of 4 226 4 227 (lkM_of 4 225 4 228 1 1 rfl rfl rfl (by decide +kernel) (by decide +kernel) (by decide)) rfl rfl
theorem kV_L_135 : lkV RL 135 yX12_cart cX12_cart 3 (some .int) 2 = true := lkV_of 8 67 8 68 (lkM_of 8 66 8 69 1 12 rfl rfl rfl (by decide +kernel) (by decide +kernel) (by decide)) rfl rfl
set_option maxRecDepth 10000 in
theorem lc_cart {Γ : GX} {Inv : Nat → IV → RV → Prop} {Ln : Nat} {xs : Nat → Int32} {n : Nat} {iv : IV} {rv : RV} {u v : Nat} {i : Int} (X : Cx Γ RL cL_law 7 17) (hQ : LQ Γ) (hs : SX Γ Ln xs) (hi : 0 ≤ i ∧ i + 6 ≤ Ln) (hL : Ln ≤ 3072) (hu : u ≤ 600000) (hv : v ≤ 7290000) (hK : Lk n rv) (hI : Inv n iv rv) (hp : Pr_cart Inv) (hn : ∀ n iv rv, Inv n iv rv → G Γ 7 1409 (LwL i) [] n iv rv u v) : G Γ 7 1278 (LwL i) [] n iv rv u v := by
  refine g_aload_n (q := 1279) 1 X dL_law_1278 rfl rfl rfl ?_
  refine g_aload_n (q := 1280) 0 X dL_law_1279 rfl rfl rfl ?_
  refine g_iload (q := 1282) 4 X dL_law_1280 rfl rfl ?_
  refine g_iconst (q := 1283) 1 X dL_law_1282 rfl rfl (by unfold inI; omega) ?_
  refine g_iadd (q := 1284) X dL_law_1283 rfl ?_
  rw [show w32 (i + 1) = i + 1 from w32_id (by omega) (by omega)]
  refine g_sld (q := 1285) X hs ⟨by omega, by omega⟩ dL_law_1284 rfl ?_
  refine g_aload_n (q := 1286) 0 X dL_law_1285 rfl rfl rfl ?_
  refine g_iload (q := 1288) 4 X dL_law_1286 rfl rfl ?_
  refine g_iconst (q := 1289) 2 X dL_law_1288 rfl rfl (by unfold inI; omega) ?_
  refine g_iadd (q := 1290) X dL_law_1289 rfl ?_
  rw [show w32 (i + 2) = i + 2 from w32_id (by omega) (by omega)]
  refine g_sld (q := 1291) X hs ⟨by omega, by omega⟩ dL_law_1290 rfl ?_
  have h := hp n iv rv ((xs (i + 1).toNat).toInt) ((xs (i + 2).toNat).toInt) hI (i32_in _) (i32_in _)
  refine g_cvU (q := 1294) [aI ((xs (i + 1).toNat).toInt), aI ((xs (i + 2).toNat).toInt)] 10 X (ce_X10_cart hK h) kV_L_132 rfl (by decide) rfl (hK.n (by decide)) rfl rfl (Nat.le_of_ble_eq_true rfl) (by decide) (hQ.cap (by omega) (by omega)) dL_law_1291 rfl (fun r n_ iv_ rv_ hf => ?_)
  obtain ⟨en_, ei_, er_, r1, rfl, h⟩ := hf; subst n_; subst iv_; subst rv_
  have hK1 := hK
  refine g_aload_n (q := 1295) 2 X dL_law_1294 rfl rfl rfl ?_
  refine g_aload_n (q := 1296) 0 X dL_law_1295 rfl rfl rfl ?_
  refine g_iload (q := 1298) 4 X dL_law_1296 rfl rfl ?_
  refine g_iconst (q := 1299) 1 X dL_law_1298 rfl rfl (by unfold inI; omega) ?_
  refine g_iadd (q := 1300) X dL_law_1299 rfl ?_
  rw [show w32 (i + 1) = i + 1 from w32_id (by omega) (by omega)]
  refine g_sld (q := 1301) X hs ⟨by omega, by omega⟩ dL_law_1300 rfl ?_
  refine g_aload_n (q := 1302) 0 X dL_law_1301 rfl rfl rfl ?_
  refine g_iload (q := 1304) 4 X dL_law_1302 rfl rfl ?_
  refine g_iconst (q := 1305) 2 X dL_law_1304 rfl rfl (by unfold inI; omega) ?_
  refine g_iadd (q := 1306) X dL_law_1305 rfl ?_
  rw [show w32 (i + 2) = i + 2 from w32_id (by omega) (by omega)]
  refine g_sld (q := 1307) X hs ⟨by omega, by omega⟩ dL_law_1306 rfl ?_
  refine g_cvU (q := 1310) [aI ((xs (i + 1).toNat).toInt), aI ((xs (i + 2).toNat).toInt)] 12 X (ce_X12_cart hK1 h) kV_L_135 rfl (by decide) rfl (hK1.n (by decide)) rfl rfl (Nat.le_of_ble_eq_true rfl) (by decide) (hQ.cap (by omega) (by omega)) dL_law_1307 rfl (fun r n_ iv_ rv_ hf => ?_)
  obtain ⟨en_, er_, r2, rfl, h⟩ := hf; subst n_; subst rv_
  generalize iv_ = iv2 at h ⊢
  refine g_icmp_eq (q := 1313) 1409 X dL_law_1310 (by decide) rfl (fun _ => hn _ _ _ h.2) (fun cx => absurd h.1.symm cx)
def Pr_size (Inv : Nat → IV → RV → Prop) : Prop := ∀ (n : Nat) (iv : IV) (rv : RV) (a1 : Int), Inv n iv rv → inI a1 → wp_X10_size a1 iv rv (fun r1 => wp_X12_size a1 iv rv (fun r2 iv2 => r2 = r1 ∧ Inv n iv2 rv))
theorem kV_L_145 : lkV RL 145 yX10_size cX10_size 2 (some .int) 1 = true := lkV_of 4 230 4 231 (lkM_of 4 229 4 232 1 1 rfl rfl rfl (by decide +kernel) (by decide +kernel) (by decide)) rfl rfl
theorem kV_L_148 : lkV RL 148 yX12_size cX12_size 2 (some .int) 1 = true := lkV_of 8 75 8 76 (lkM_of 8 74 8 77 1 12 rfl rfl rfl (by decide +kernel) (by decide +kernel) (by decide)) rfl rfl
set_option maxRecDepth 10000 in
theorem lc_size {Γ : GX} {Inv : Nat → IV → RV → Prop} {Ln : Nat} {xs : Nat → Int32} {n : Nat} {iv : IV} {rv : RV} {u v : Nat} {i : Int} (X : Cx Γ RL cL_law 7 17) (hQ : LQ Γ) (hs : SX Γ Ln xs) (hi : 0 ≤ i ∧ i + 6 ≤ Ln) (hL : Ln ≤ 3072) (hu : u ≤ 600000) (hv : v ≤ 7290000) (hK : Lk n rv) (hI : Inv n iv rv) (hp : Pr_size Inv) (hn : ∀ n iv rv, Inv n iv rv → G Γ 7 1409 (LwL i) [] n iv rv u v) : G Γ 7 1371 (LwL i) [] n iv rv u v := by
  refine g_aload_n (q := 1372) 1 X dL_law_1371 rfl rfl rfl ?_
  refine g_aload_n (q := 1373) 0 X dL_law_1372 rfl rfl rfl ?_
  refine g_iload (q := 1375) 4 X dL_law_1373 rfl rfl ?_
  refine g_iconst (q := 1376) 1 X dL_law_1375 rfl rfl (by unfold inI; omega) ?_
  refine g_iadd (q := 1377) X dL_law_1376 rfl ?_
  rw [show w32 (i + 1) = i + 1 from w32_id (by omega) (by omega)]
  refine g_sld (q := 1378) X hs ⟨by omega, by omega⟩ dL_law_1377 rfl ?_
  have h := hp n iv rv ((xs (i + 1).toNat).toInt) hI (i32_in _)
  refine g_cvU (q := 1381) [aI ((xs (i + 1).toNat).toInt)] 10 X (ce_X10_size hK h) kV_L_145 rfl (by decide) rfl (hK.n (by decide)) rfl rfl (Nat.le_of_ble_eq_true rfl) (by decide) (hQ.cap (by omega) (by omega)) dL_law_1378 rfl (fun r n_ iv_ rv_ hf => ?_)
  obtain ⟨en_, ei_, er_, r1, rfl, h⟩ := hf; subst n_; subst iv_; subst rv_
  have hK1 := hK
  refine g_aload_n (q := 1382) 2 X dL_law_1381 rfl rfl rfl ?_
  refine g_aload_n (q := 1383) 0 X dL_law_1382 rfl rfl rfl ?_
  refine g_iload (q := 1385) 4 X dL_law_1383 rfl rfl ?_
  refine g_iconst (q := 1386) 1 X dL_law_1385 rfl rfl (by unfold inI; omega) ?_
  refine g_iadd (q := 1387) X dL_law_1386 rfl ?_
  rw [show w32 (i + 1) = i + 1 from w32_id (by omega) (by omega)]
  refine g_sld (q := 1388) X hs ⟨by omega, by omega⟩ dL_law_1387 rfl ?_
  refine g_cvU (q := 1391) [aI ((xs (i + 1).toNat).toInt)] 12 X (ce_X12_size hK1 h) kV_L_148 rfl (by decide) rfl (hK1.n (by decide)) rfl rfl (Nat.le_of_ble_eq_true rfl) (by decide) (hQ.cap (by omega) (by omega)) dL_law_1388 rfl (fun r n_ iv_ rv_ hf => ?_)
  obtain ⟨en_, er_, r2, rfl, h⟩ := hf; subst n_; subst rv_
  generalize iv_ = iv2 at h ⊢
  refine g_icmp_eq (q := 1394) 1409 X dL_law_1391 (by decide) rfl (fun _ => hn _ _ _ h.2) (fun cx => absurd h.1.symm cx)
def Pr_trouble (Inv : Nat → IV → RV → Prop) : Prop := ∀ (n : Nat) (iv : IV) (rv : RV), Inv n iv rv → wp_X10_trouble  iv rv (fun r1 => wp_X12_trouble  iv rv (fun r2 iv2 => r2 = r1 ∧ Inv n iv2 rv))
theorem kV_L_149 : lkV RL 149 yX10_trouble cX10_trouble 1 (some .int) 0 = true := lkV_of 4 236 4 237 (lkM_of 4 235 4 238 1 1 rfl rfl rfl (by decide +kernel) (by decide +kernel) (by decide)) rfl rfl
theorem kV_L_152 : lkV RL 152 yX12_trouble cX12_trouble 1 (some .int) 0 = true := lkV_of 8 79 8 80 (lkM_of 8 78 8 81 1 12 rfl rfl rfl (by decide +kernel) (by decide +kernel) (by decide)) rfl rfl
set_option maxRecDepth 10000 in
theorem lc_trouble {Γ : GX} {Inv : Nat → IV → RV → Prop} {Ln : Nat} {xs : Nat → Int32} {n : Nat} {iv : IV} {rv : RV} {u v : Nat} {i : Int} (X : Cx Γ RL cL_law 7 17) (hQ : LQ Γ) (hs : SX Γ Ln xs) (hi : 0 ≤ i ∧ i + 6 ≤ Ln) (hL : Ln ≤ 3072) (hu : u ≤ 600000) (hv : v ≤ 7290000) (hK : Lk n rv) (hI : Inv n iv rv) (hp : Pr_trouble Inv) (hn : ∀ n iv rv, Inv n iv rv → G Γ 7 1409 (LwL i) [] n iv rv u v) : G Γ 7 1396 (LwL i) [] n iv rv u v := by
  refine g_aload_n (q := 1397) 1 X dL_law_1396 rfl rfl rfl ?_
  have h := hp n iv rv  hI
  refine g_cvU (q := 1400) [] 10 X (ce_X10_trouble hK h) kV_L_149 rfl (by decide) rfl (hK.n (by decide)) rfl rfl (Nat.le_of_ble_eq_true rfl) (by decide) (hQ.cap (by omega) (by omega)) dL_law_1397 rfl (fun r n_ iv_ rv_ hf => ?_)
  obtain ⟨en_, ei_, er_, r1, rfl, h⟩ := hf; subst n_; subst iv_; subst rv_
  have hK1 := hK
  refine g_aload_n (q := 1401) 2 X dL_law_1400 rfl rfl rfl ?_
  refine g_cvU (q := 1404) [] 12 X (ce_X12_trouble hK1 h) kV_L_152 rfl (by decide) rfl (hK1.n (by decide)) rfl rfl (Nat.le_of_ble_eq_true rfl) (by decide) (hQ.cap (by omega) (by omega)) dL_law_1401 rfl (fun r n_ iv_ rv_ hf => ?_)
  obtain ⟨en_, er_, r2, rfl, h⟩ := hf; subst n_; subst rv_
  generalize iv_ = iv2 at h ⊢
  refine g_icmp_eq (q := 1407) 1409 X dL_law_1404 (by decide) rfl (fun _ => hn _ _ _ h.2) (fun cx => absurd h.1.symm cx)
