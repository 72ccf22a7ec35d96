/-! THE LAW'S START: the walk to its loop -/
def iv0 : IV := fun _ _ => 0
def rv0 : RV := fun _ _ => none
theorem se_1 : isW (.classLink RL 8 RX10) = true := isW_of 1 25 rfl rfl
theorem se_2 : isW (.instantiable RX10 (nfd 10)) = true := isW_of 1 26 rfl rfl
theorem se_3 : isW (.initialized RX10) = true := isW_of 1 1 rfl rfl
theorem se_4 : lkM RL 15 yX10_init cX10_init 1 none 0 = true := lkM_of 1 27 1 29 1 1 rfl rfl rfl (by decide +kernel) (by decide +kernel) (by decide)
theorem se_5 : isW (.instanceMethod yX10_init) = true := isW_of 1 28 rfl rfl
theorem se_6 : isW (.classLink RL 16 RX12) = true := isW_of 5 72 rfl rfl
theorem se_7 : isW (.instantiable RX12 (nfd 12)) = true := isW_of 5 73 rfl rfl
theorem se_8 : isW (.initialized RX12) = true := isW_of 1 12 rfl rfl
theorem se_9 : lkM RL 18 yX12_init cX12_init 1 none 0 = true := lkM_of 5 74 5 76 1 12 rfl rfl rfl (by decide +kernel) (by decide +kernel) (by decide)
theorem se_10 : isW (.instanceMethod yX12_init) = true := isW_of 5 75 rfl rfl
def iv9 : IV := z2 (ciX12_66 (z2 (ciX10_0 (z2 iv0 0)) 66)) 79
def rv9 : RV := zr (crX12_66 (zr (crX10_0 (zr rv0 0)) 66)) 79
set_option maxRecDepth 10000 in
theorem st_walk {Γ : GX} {Inv : Nat → IV → RV → Prop} {Ln : Nat} {xs : Nat → Int32} (X : Cx Γ RL cL_law 7 17) (hQ : LQ Γ) (hLT : LT Γ) (hs : SX Γ Ln xs) (hL : Ln ≤ 3072) (hp : Pairs Inv) (hOk : InvOk Inv) (h0 : Inv 80 iv9 rv9) : G Γ 7 0 [aR (some 1993), aJ, aJ, aJ, aJ, aJ, aJ] [] 0 iv0 rv0 0 0 := by
  refine g_new (q := 3) 10 X (by decide) rfl se_1 se_2 se_3 rfl (by decide) (hQ.cap (by decide) (by decide)) dL_law_0 rfl ?_
  refine g_dup (q := 4) X dL_law_3 rfl rfl ?_
  refine g_callI (q := 7) [] X (cc_X10_0 _ _) se_4 rfl se_5 (by decide) rfl rfl (Nat.le_of_ble_eq_true rfl) (by decide) (hQ.cap (by decide) (by decide)) dL_law_4 rfl (fun r n_ iv_ rv_ hf _ => ?_)
  obtain ⟨rfl, rfl, rfl, rfl⟩ := hf
  refine g_astore_n (q := 8) 1 X dL_law_7 rfl rfl (by decide) rfl rfl ?_
  refine g_new (q := 11) 12 X (by decide) rfl se_6 se_7 se_8 rfl (by decide) (hQ.cap (by decide) (by decide)) dL_law_8 rfl ?_
  refine g_dup (q := 12) X dL_law_11 rfl rfl ?_
  refine g_callI (q := 15) [] X (cc_X12_66 _ _) se_9 rfl se_10 (by decide) rfl rfl (Nat.le_of_ble_eq_true rfl) (by decide) (hQ.cap (by decide) (by decide)) dL_law_12 rfl (fun r n_ iv_ rv_ hf _ => ?_)
  obtain ⟨rfl, rfl, rfl, rfl⟩ := hf
  refine g_astore_n (q := 16) 2 X dL_law_15 rfl rfl (by decide) rfl rfl ?_
  refine g_iconst (q := 17) 1 X dL_law_16 rfl rfl (by unfold inI; omega) ?_
  refine g_newa (q := 19) (len := 1) .long X rfl (Or.inr (Or.inr (Or.inl rfl))) ja_long rfl (by decide) (by decide) (hQ.cap (by decide) (by decide)) dL_law_17 rfl ?_
  refine g_astore_n (q := 20) 3 X dL_law_19 rfl rfl (by decide) rfl rfl ?_
  refine g_iconst (q := 21) 0 X dL_law_20 rfl rfl (by unfold inI; omega) ?_
  refine g_istore (q := 23) (k0 := 0) 4 X dL_law_21 rfl (by decide) rfl rfl ?_
  exact law_loop X hQ hLT hs hL hp hOk 512 0 80 iv9 rv9 _ _ (by omega) (by omega) (by omega) (by decide) (by decide) h0
theorem whole_startX {p : Program} {e : Env} {s : State} {m : MethodId} {below : List Frame} {meth : Method} {c : Code} (l : Launch) (hl : l.stackTraces = false) {b L : Nat} {xs : Nat → Int32} {Inv : Nat → IV → RV → Prop} (hp : Pairs Inv) (hOk : InvOk Inv) (h0 : Inv 80 iv9 rv9) (hL : L ≤ 3072) (C0 : lw_At p s m meth c b L xs) : W p l e room_1 s m #[Value.ref b] below meth c s.heap [] 0 0 (lw_Z below #[Value.ref b] s) (entryFrame m ([Value.ref b] : List Value).toArray 7) := by
  obtain ⟨hx, hb, hr, hml, hown, hts, hX, hbl, hlocks, hgv⟩ := C0
  obtain ⟨sa, hsa, hSF⟩ := st_SF hgv hts
  have hT := st_Tb hts
  obtain ⟨D, cA, hK⟩ := st_K hT
  have h9 := st_walk (Γ := (p, l, e, room_1, s, m, #[Value.ref b], below, meth, c, D, cA, sa, s.heap.size, fun _ => 0, 0, lw_Z below #[Value.ref b] s)) (Ln := L) (xs := xs) ⟨hx, hb, hml, hown, hlocks, hT, hK, hSF, Nat.le_refl _, by decide, by decide⟩ ⟨rfl, rfl, ⟨b, rfl⟩, rfl, hr, rfl⟩ ⟨hl, st_TH hgv hts⟩ ⟨by rw [hsa]; exact hX, by rw [hsa]; exact hbl, by rw [hsa]; omega⟩ hL hp hOk h0
  have hv := lv_entry [Value.ref b] (n := 7) (show 1 ≤ 7 by omega)
  rw [lg_entry_eq]
  refine h9 (fun _ => 0) s.heap [] _ agr.rf (Nat.le_refl _) ?_ (fun a ha => by cases ha) ⟨by omega, fun k j => ?_, fun k j q hk => absurd hk (Nat.not_lt_zero k), fun k q hk => absurd (wl_of hk).1 (Nat.not_lt_zero k), fun i j x y hi _ _ => absurd (wl_of hi).1 (Nat.not_lt_zero i), fun k q hk => absurd (wl_of hk).1 (Nat.not_lt_zero k)⟩ va_S.rf ⟨hv.1, hv.2.1, fun i a ha hj => ?_⟩
  · intro a ha
    rcases List.mem_cons.mp ha with rfl | ha
    · intro q hq
      cases hq
      exact Or.inr ⟨by omega, by omega⟩
    · have : a = aJ := by
        rcases List.mem_cons.mp ha with h | ha
        · exact h
        rcases List.mem_cons.mp ha with h | ha
        · exact h
        rcases List.mem_cons.mp ha with h | ha
        · exact h
        rcases List.mem_cons.mp ha with h | ha
        · exact h
        rcases List.mem_cons.mp ha with h | ha
        · exact h
        rcases List.mem_cons.mp ha with h | ha
        · exact h
        · cases ha
      rw [this]
      exact trivial
  · show if isL k j = true then inL 0 else inI 0
    split
    · unfold inL; omega
    · unfold inI; omega
  · match i, ha with
    | 0, ha =>
      cases ha
      have h8 := hv.2.2 (0, Value.ref b) List.mem_cons_self
      show _ = some (Slot.val (Value.ref (sa 993)))
      rw [hsa]
      exact h8
    | 1, ha => cases ha; exact hj.elim
    | 2, ha => cases ha; exact hj.elim
    | 3, ha => cases ha; exact hj.elim
    | 4, ha => cases ha; exact hj.elim
    | 5, ha => cases ha; exact hj.elim
    | 6, ha => cases ha; exact hj.elim
    | i + 7, ha => cases ha
