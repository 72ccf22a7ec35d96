/-! THE SAME CELLS UNDER OTHER PLACES; the law's script -/
/-- memory 1 is memory 2 seen by places s: its place k is the other's s k; r leads back -/
def Ren (n1 n2 : Nat) (σ ρ : Nat → Nat) (iv1 iv2 : IV) (rv1 rv2 : RV) : Prop :=
  n1 ≤ 1000 ∧ (∀ k, k < n1 → σ k < n2 ∧ sh (σ k) = sh k) ∧ (∀ a b, a < n1 → b < n1 → σ a = σ b → a = b) ∧ (∀ k j, k < n1 → iv1 k j = iv2 (σ k) j) ∧ (okM iv2 → okM iv1) ∧
  (∀ k j, k < n1 → rv1 k j = (rv2 (σ k) j).map ρ) ∧ (∀ k j q, k < n1 → rv2 (σ k) j = some q → (ρ q < n1 ∨ 1000 ≤ ρ q) ∧ ((1000 ≤ q ∧ q < 2000) → ρ q = q) ∧ (¬ (1000 ≤ q ∧ q < 2000) → ¬ (1000 ≤ ρ q ∧ ρ q < 2000) ∧ σ (ρ q) = q))
def fixA (n1 : Nat) (σ : Nat → Nat) (a : AV) : Prop := match a with
  | .inr (.inr (.inl r)) => ∀ q, r = some q → (q < n1 ∧ σ q = q) ∨ (1000 ≤ q ∧ q < 2000)
  | _ => True
theorem fix_tv {sa ad : Nat → Nat} {n1 : Nat} {σ : Nat → Nat} (hn : n1 ≤ 1000) {a : AV} (h : fixA n1 σ a) : tv sa (fun k => ad (σ k)) a = tv sa ad a := by
  rcases a with x | x | r | w
  · rfl
  · rfl
  · cases r with
    | none => rfl
    | some q =>
      show Value.ref (pa sa (fun k => ad (σ k)) q) = Value.ref (pa sa ad q)
      congr 1
      unfold pa
      rcases h q rfl with hq | hq
      · rw [if_neg (by omega), if_neg (by omega)]
        show ad (σ q) = ad q
        rw [hq.2]
      · rw [if_pos hq, if_pos hq]
  · rfl
theorem fix_ok {n1 n : Nat} {σ : Nat → Nat} {a : AV} (h : fixA n1 σ a) (ho : okA n a) : okA n1 a := by
  rcases a with x | x | r | w
  · exact ho
  · exact ho
  · exact fun q hq => (h q hq).elim (fun z => Or.inl z.1) Or.inr
  · exact trivial
theorem Rel.ren {D : va_G} {cA : FieldType → ClassId} {sa : Nat → Nat} {bs : Nat} {ad : Nat → Nat} {n1 n2 : Nat} {σ ρ : Nat → Nat} {iv1 iv2 : IV} {rv1 rv2 : RV} {H : Heap} (hr : Ren n1 n2 σ ρ iv1 iv2 rv1 rv2) (h : Rel D cA sa bs ad n2 iv2 rv2 H) : Rel D cA sa bs (fun k => ad (σ k)) n1 iv1 rv1 H := by
  obtain ⟨r1, r2, r3, r4, r5, r6, r7⟩ := hr
  have hcell : ∀ k, k < n1 → cellE cA sa (fun k => ad (σ k)) iv1 rv1 k = cellE cA sa ad iv2 rv2 (σ k) := by
    intro k hk
    unfold cellE
    rw [(r2 k hk).2]
    have e1 : iv1 k = iv2 (σ k) := funext fun j => r4 k j hk
    rw [e1]
    have hfv : ∀ ty j, fv sa (fun k => ad (σ k)) ty (iv2 (σ k) j) (rv1 k j) = fv sa ad ty (iv2 (σ k) j) (rv2 (σ k) j) := by
      intro ty j
      rw [r6 k j hk]
      cases hq : rv2 (σ k) j with
      | none => cases ty <;> rfl
      | some q =>
        have h7 := r7 k j q hk hq
        have h0 : pa sa (fun k => ad (σ k)) (ρ q) = pa sa ad q := by
          unfold pa
          by_cases hs : 1000 ≤ q ∧ q < 2000
          · rw [h7.2.1 hs, if_pos hs, if_pos hs]
          · rw [if_neg (h7.2.2 hs).1, if_neg hs]
            show ad (σ (ρ q)) = ad q
            rw [(h7.2.2 hs).2]
        cases ty <;> first | rfl | (show va_rf (some (pa sa (fun k => ad (σ k)) (ρ q))) = va_rf (some (pa sa ad q)); rw [h0])
    cases sh k with
    | inl ci =>
      show (Sum.inr (ci, _) : va_E) = Sum.inr (ci, _)
      rw [List.map_congr_left (fun j _ => hfv (fty ci j) j)]
    | inr q => rfl
  refine ⟨r1, r5 h.2.1, fun k j q hk hq => ?_, fun k q hk => ?_, fun i j x y hi hj hxy => ?_, fun k q hk => ?_⟩
  · rw [r6 k j hk] at hq
    cases h2 : rv2 (σ k) j with
    | none => rw [h2] at hq; cases hq
    | some z =>
      rw [h2] at hq
      cases hq
      exact (r7 k j z hk h2).1
  · obtain ⟨hk1, rfl⟩ := wl_of hk
    have := h.2.2.2.1 (σ k) _ (wl_at (r2 k hk1).1)
    rw [hcell k hk1]
    exact this
  · obtain ⟨hi1, rfl⟩ := wl_of hi
    obtain ⟨hj1, rfl⟩ := wl_of hj
    exact r3 i j hi1 hj1 (h.2.2.2.2.1 (σ i) (σ j) _ _ (wl_at (r2 i hi1).1) (wl_at (r2 j hj1).1) hxy)
  · obtain ⟨hk1, rfl⟩ := wl_of hk
    exact h.2.2.2.2.2 (σ k) (ad (σ k), cellE cA sa ad iv2 rv2 (σ k)) (wl_at (r2 k hk1).1)
def N0 (Γ : GX) : Prop := match Γ with
  | (_, _, _, _, _, _, _, _, _, _, _, _, _, _, _, n0, _) => n0 = 0
theorem g_ren {Γ : GX} {nL pc : Nat} {L S : List AV} {n1 n2 : Nat} {iv1 iv2 : IV} {rv1 rv2 : RV} {u v : Nat} {σ ρ : Nat → Nat} (h0 : N0 Γ) (hr : Ren n1 n2 σ ρ iv1 iv2 rv1 rv2) (hL : ∀ a ∈ L, fixA n1 σ a) (hS : ∀ a ∈ S, fixA n1 σ a) (k : G Γ nL pc L S n1 iv1 rv1 u v) : G Γ nL pc L S n2 iv2 rv2 u v := by
  obtain ⟨p, l, e, R, s, m, args, below, meth, c, D, cA, sa, bs, ad0, n0, Q⟩ := Γ
  intro ad H locs ls h1 h2 h3 h4 h5 h6 h7
  have hz : n0 = 0 := h0
  subst hz
  have h9 := k (fun k => ad (σ k)) H locs ls (fun k hk => absurd hk (by omega)) (Nat.zero_le _) (fun a ha => fix_ok (hL a ha) (h3 a ha)) (fun a ha => fix_ok (hS a ha) (h4 a ha)) (h5.ren hr) h6 ⟨h7.1, h7.2.1, fun i a ha hj => by rw [fix_tv hr.1 (hL a (List.mem_of_getElem? ha))]; exact h7.2.2 i a ha hj⟩
  have e9 : S.map (tv sa (fun k => ad (σ k))) = S.map (tv sa ad) := List.map_congr_left fun a ha => fix_tv hr.1 (hS a ha)
  rw [e9] at h9
  exact h9
/-- the law's script stands below the base, as constant 993 -/
def SX (Γ : GX) (Ln : Nat) (xs : Nat → Int32) : Prop := match Γ with
  | (_, _, _, _, s, _, _, _, _, _, _, _, sa, bs, _, _, _) => va_X (sa 993) Ln xs s s.heap ∧ sa 993 < s.heap.size ∧ ¬ bs ≤ sa 993
theorem g_sld {Γ : GX} {own : String} {cc : ByteArray} {nL d pc q : Nat} {L S : List AV} {n : Nat} {iv : IV} {rv : RV} {u v : Nat} {Ln : Nat} {xs : Nat → Int32} {i : Int} (X : Cx Γ own cc nL d) (hx0 : SX Γ Ln xs) (hi : 0 ≤ i ∧ i < Ln) (hd : decode cc pc = .ok (.iaload, 1)) (hq : pc + 1 = q) (kk : G Γ nL q L (aI (xs i.toNat).toInt :: S) n iv rv u v) : G Γ nL pc L (aI i :: aR (some 1993) :: S) n iv rv u v := by
  obtain ⟨p, l, e, R, s, m, args, below, meth, c, D, cA, sa, bs, ad0, n0, Q⟩ := Γ
  obtain ⟨hx, hb, hml, hown, hlk, hT, hK, hF, hbs, hfr, hlo⟩ := X
  obtain ⟨hX, hbl, hbA⟩ := hx0
  intro ad H locs ls h1 h2 h3 h4 h5 h6 h7
  subst hq
  have h4a := okL_cons.mp h4
  have h4b := okL_cons.mp h4a.2
  have hi4 : inI i := h4a.1
  have h9 := kk ad H locs ls h1 h2 h3 (okL_cons.mpr ⟨okI (i32_in _), h4b.2⟩) h5 h6 h7
  have e9 : tv sa ad (aI (xs i.toNat).toInt) = .int (xs (Int32.ofInt i).toNatClampNeg) := by
    show Value.int _ = _
    rw [Int32.ofInt_toInt, of_clamp hi4]
  rw [List.map_cons, e9] at h9
  have e8 : tv sa ad (aR (some 1993)) = .ref (sa 993) := tv_s (i := 993) (by omega)
  rw [List.map_cons, List.map_cons, e8]
  exact va_sld hx hb hX hbl hbA h6 (of_vin hi4 hi.1 hi.2) hd h9
theorem g_slen {Γ : GX} {own : String} {cc : ByteArray} {nL d pc q : Nat} {L S : List AV} {n : Nat} {iv : IV} {rv : RV} {u v : Nat} {Ln : Nat} {xs : Nat → Int32} (X : Cx Γ own cc nL d) (hx0 : SX Γ Ln xs) (hl : Ln < 2147483648) (hd : decode cc pc = .ok (.arraylength, 1)) (hq : pc + 1 = q) (kk : G Γ nL q L (aI (Ln : Int) :: S) n iv rv u v) : G Γ nL pc L (aR (some 1993) :: S) n iv rv u v := by
  obtain ⟨p, l, e, R, s, m, args, below, meth, c, D, cA, sa, bs, ad0, n0, Q⟩ := Γ
  obtain ⟨hx, hb, hml, hown, hlk, hT, hK, hF, hbs, hfr, hlo⟩ := X
  obtain ⟨hX, hbl, hbA⟩ := hx0
  intro ad H locs ls h1 h2 h3 h4 h5 h6 h7
  subst hq
  have h4a := okL_cons.mp h4
  have h9 := kk ad H locs ls h1 h2 h3 (okL_cons.mpr ⟨okI ⟨by omega, by omega⟩, h4a.2⟩) h5 h6 h7
  have e9 : tv sa ad (aI (Ln : Int)) = .int (nI Ln) := by
    show Value.int _ = _
    rw [Int32.ofInt_eq_ofNat]
    rfl
  rw [List.map_cons, e9] at h9
  have e8 : tv sa ad (aR (some 1993)) = .ref (sa 993) := tv_s (i := 993) (by omega)
  rw [List.map_cons, e8]
  exact va_slen hx hb hX hbl hbA h6 hd h9
