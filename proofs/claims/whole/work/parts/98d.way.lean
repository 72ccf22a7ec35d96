/-! PAIR: way -/
/-- the bridges of the first i links of a way -/
def bst (R : Nat → Nat → Int) (W : F1) (G : Nat → Nat) : Nat → Nat × F1
  | 0 => (0, fun _ => 0)
  | i + 1 => if R 7 (bl (gA R) (gB R) W (G i) (G (i + 1)) (gL R)).toNat < 0 then bst R W G i else ((bst R W G i).1 + 1, up1 (bst R W G i).2 (bst R W G i).1 (R 7 (bl (gA R) (gB R) W (G i) (G (i + 1)) (gL R)).toNat))
theorem bst_le {R : Nat → Nat → Int} {W : F1} {G : Nat → Nat} : ∀ i, (bst R W G i).1 ≤ i
  | 0 => Nat.le_refl _
  | i + 1 => by
    have := bst_le (R := R) (W := W) (G := G) i
    unfold bst
    split
    · omega
    · show (bst R W G i).1 + 1 ≤ i + 1
      omega
theorem bst_congr {R : Nat → Nat → Int} {W : F1} {G G' : Nat → Nat} : ∀ i, (∀ j, j ≤ i → G' j = G j) → bst R W G' i = bst R W G i
  | 0, _ => rfl
  | i + 1, h => by
    have ih := bst_congr (R := R) (W := W) i (fun j hj => h j (by omega))
    unfold bst
    rw [ih, h i (by omega), h (i + 1) (by omega)]
theorem c_farEnd {h : Nat} {R : Nat → Nat → Int} {iv : IV} {rv : RV} {e : Nat} {p : Nat} {K : Int → Prop} (hR : ∀ r i, r < 19 → iv (h + r) i = R r i) (hc : RC R) (he : e < gL R) (h1 : ∀ q, jn (gA R) (gB R) e p q → K (q : Nat)) (h0 : (∀ q, ¬ jn (gA R) (gB R) e p q) → K (-1)) : wp_X8_farEnd h e p iv rv K := by
  have te : ((e : Int)).toNat = e := Int.toNat_natCast e
  obtain ⟨k1, k2, k3, k4, k5, k6, k7, k8, k9⟩ := lk_ok hc he
  have l20 := (gL_ok hc).1
  replace h0 := fun (_ : Unit) => h0
  unfold wp_X8_farEnd
  rw [te, hR 4 e (by omega), hR 5 e (by omega)]
  refine ⟨⟨by omega, by omega⟩, fun z => ⟨⟨by omega, by omega⟩, fun y => h0 () (fun q hq => ?_), fun y => ⟨⟨by omega, by omega⟩, ?_⟩⟩, fun z => ⟨⟨by omega, by omega⟩, ?_⟩⟩
  · rcases hq with ⟨x1, x2⟩ | ⟨x1, x2⟩
    · rw [x1] at k1; omega
    · rw [x2] at k2; omega
  · rw [← k1]; exact h1 _ (Or.inr ⟨rfl, by omega⟩)
  · rw [← k2]; exact h1 _ (Or.inl ⟨by omega, rfl⟩)
def Tgt (R : Nat → Nat → Int) (W r : F1) (p e q : Nat) : Prop := jn (gA R) (gB R) e p q ∧ r q + W e = r p
def NL (R : Nat → Nat → Int) (W r : F1) (p m : Nat) (be bp : Int) : Prop := (be = -1 ∧ bp = 8 ∧ ∀ e q, e < m → ¬ Tgt R W r p e q) ∨ (∃ e q : Nat, be = e ∧ bp = q ∧ e < m ∧ Tgt R W r p e q ∧ (∀ e' q', e' < m → Tgt R W r p e' q' → q ≤ q') ∧ (∀ e', e' < e → ¬ Tgt R W r p e' q))
theorem c_nextLink {h : Nat} {R : Nat → Nat → Int} {W r : F1} {iv : IV} {rv : RV} {g p q : Nat} {K : Int → Prop} (hR : ∀ r i, r < 19 → iv (h + r) i = R r i) (hc : RC R) (hL : Lks (gA R) (gB R) W (gL R)) (hr : Msd (gA R) (gB R) W (gL R) g r) (h49 : ∀ e, e < gL R → iv 49 e = W e) (h50 : ∀ v, v < 8 → iv 50 v = r v) (hp : p < 8) (hf : r p < 1000000000) (hcd : Cd (gA R) (gB R) W (gL R) r p q) (hle : ∀ q', q' < q → ¬ Cd (gA R) (gB R) W (gL R) r p q')
    (hK : K (bl (gA R) (gB R) W p q (gL R))) : wp_X8_nextLink h p iv rv K := by
  obtain ⟨L1, L2⟩ := gL_ok hc
  have links : Unit → w32 (iv (h + 1) 3 + iv (h + 1) 4) = ((gL R : Nat) : Int) := fun _ => by rw [hR 1 3 (by omega), hR 1 4 (by omega), ← L2]; exact w32_id (by omega) (by omega)
  intro P hP
  have key : ∀ d m : Nat, m + d = gL R → ∀ x be bp : Int, x = m → NL R W r p m be bp → P p be bp x := by
    intro d
    induction d with
    | zero =>
      intro m hm x be bp ex hn
      obtain rfl : m = gL R := by omega
      apply hP
      unfold bd_X8_nextLink_9 wp_X5_links
      rw [links ()]
      refine ⟨fun _ => ?_, fun z => by omega⟩
      obtain ⟨b1, b2, b3⟩ := bl_jn hcd.1
      have tq : Tgt R W r p (bl (gA R) (gB R) W p q (gL R)).toNat q := ⟨b2, hcd.2⟩
      rcases hn with ⟨n1, n2, n3⟩ | ⟨e, q1, n1, n2, n3, n4, n5, n6⟩
      · exact absurd tq (n3 _ _ b1)
      · have le1 := n5 _ _ b1 tq
        have cd1 := Cd_of hr.2 n3 n4.1 n4.2
        have eq : q1 = q := by
          by_cases z : q1 < q
          · exact absurd cd1.1 (hle q1 z)
          · omega
        subst eq
        have a1 := cd1.2 e n3 n4.1 n4.2
        have a2 : ¬ (bl (gA R) (gB R) W p q1 (gL R)).toNat < e := fun z => n6 _ z tq
        rw [n1, show (e : Int) = bl (gA R) (gB R) W p q1 (gL R) by omega]
        exact hK
    | succ d ih =>
      intro m hm x be bp ex hn
      subst ex
      have tm : ((m : Int)).toNat = m := Int.toNat_natCast m
      have tp : ((p : Int)).toNat = p := Int.toNat_natCast p
      have ew : Unit → w32 ((m : Int) + 1) = (m : Int) + 1 := fun _ => w32_id (by omega) (by omega)
      have hm' : m < gL R := by omega
      obtain ⟨l1, l2, l3, l4⟩ := hL m hm'
      have skip : Unit → (∀ q', Tgt R W r p m q' → be ≠ -1 ∧ bp ≤ q') → P p be bp ((m : Int) + 1) := by
        intro _ hs
        refine ih (m + 1) (by omega) _ _ _ (by omega) ?_
        rcases hn with ⟨n1, n2, n3⟩ | ⟨e, q1, n1, n2, n3, n4, n5, n6⟩
        · refine Or.inl ⟨n1, n2, fun e q' he ht => ?_⟩
          by_cases z : e = m
          · subst z; exact (hs q' ht).1 n1
          · exact n3 e q' (by omega) ht
        · refine Or.inr ⟨e, q1, n1, n2, by omega, n4, fun e' q' he ht => ?_, n6⟩
          by_cases z : e' = m
          · subst z
            have := (hs q' ht).2
            omega
          · exact n5 e' q' (by omega) ht
      apply hP
      unfold bd_X8_nextLink_9 wp_X5_links bd_X8_nextLink_71
      rw [links (), ew ()]
      refine ⟨fun z => by omega, fun _ => ?_⟩
      refine c_farEnd hR hc hm' (fun v hv => ⟨fun z => by omega, fun _ => ⟨fun z => skip () (fun q' ht => ?_), fun z => ?_⟩⟩) (fun hv => ⟨fun _ => skip () (fun q' ht => absurd ht.1 (hv q')), fun z => absurd (by decide) z⟩)
      · have e : q' = v := by
          have h9 := (lk_ok hc hm').2.2.2.2.2.2.2.2
          have k1 := (lk_ok hc hm').1
          have k2 := (lk_ok hc hm').2.1
          rcases ht.1 with ⟨x1, x2⟩ | ⟨x1, x2⟩
          · rcases hv with ⟨y1, y2⟩ | ⟨y1, y2⟩
            · omega
            · omega
          · rcases hv with ⟨y1, y2⟩ | ⟨y1, y2⟩
            · omega
            · omega
        subst e
        refine ⟨fun eb => ?_, z⟩
        rcases hn with ⟨n1, n2, n3⟩ | ⟨e, q1, n1, n2, n3, n4, n5, n6⟩
        · have hv8 : q' < 8 := by rcases hv with ⟨y1, y2⟩ | ⟨y1, y2⟩ <;> omega
          omega
        · omega
      · have hv8 : v < 8 := by rcases hv with ⟨y1, y2⟩ | ⟨y1, y2⟩ <;> omega
        have rv0 := hr.1.2.1 v hv8
        rw [Int.toNat_natCast, tm, tp, h49 m hm', h50 v hv8, h50 p hp, w32_id (by omega) (by omega)]
        have uq : ∀ q', Tgt R W r p m q' → q' = v := fun q' ht => by
          have h9 := (lk_ok hc hm').2.2.2.2.2.2.2.2
          have k1 := (lk_ok hc hm').1
          have k2 := (lk_ok hc hm').2.1
          rcases ht.1 with ⟨x1, x2⟩ | ⟨x1, x2⟩
          · rcases hv with ⟨y1, y2⟩ | ⟨y1, y2⟩
            · omega
            · omega
          · rcases hv with ⟨y1, y2⟩ | ⟨y1, y2⟩
            · omega
            · omega
        refine ⟨⟨by omega, by omega⟩, ⟨by omega, by omega⟩, ⟨by omega, by omega⟩, fun y => skip () (fun q' ht => ?_), fun y => ?_⟩
        · have := uq q' ht
          subst this
          exact absurd ht.2 y
        · refine ih (m + 1) (by omega) _ _ _ (by omega) (Or.inr ⟨m, v, rfl, rfl, by omega, ⟨hv, y⟩, fun e' q' he ht => ?_, fun e' he ht => ?_⟩)
          · by_cases z2 : e' = m
            · subst z2
              have := uq q' ht
              omega
            · rcases hn with ⟨n1, n2, n3⟩ | ⟨e, q1, n1, n2, n3, n4, n5, n6⟩
              · exact absurd ht (n3 e' q' (by omega))
              · have := n5 e' q' (by omega) ht
                omega
          · rcases hn with ⟨n1, n2, n3⟩ | ⟨e, q1, n1, n2, n3, n4, n5, n6⟩
            · exact absurd ht (n3 e' v (by omega))
            · have := n5 e' v (by omega) ht
              omega
  exact key (gL R) 0 (by omega) _ _ _ rfl (Or.inl ⟨rfl, rfl, fun e q he => by omega⟩)
theorem c_trace {h : Nat} {R : Nat → Nat → Int} {W r : F1} {iv : IV} {rv : RV} {s g Kk : Nat} {G : Nat → Nat} {K : IV → Prop} (hh : h = 2 ∨ h = 21) (hR : ∀ r i, r < 19 → iv (h + r) i = R r i) (hc : RC R) (hL : Lks (gA R) (gB R) W (gL R)) (hr : Msd (gA R) (gB R) W (gL R) g r) (h49 : ∀ e, e < gL R → iv 49 e = W e) (h50 : ∀ v, v < 8 → iv 50 v = r v) (hs : s < 8) (hGP : GP (gA R) (gB R) W (gL R) r s g Kk G)
    (hK : ∀ iv' : IV, (∀ k j, ¬ (63 ≤ k ∧ k ≤ 65) → iv' k j = iv k j) → iv' 63 2 = ((Kk + 1 : Nat) : Int) → (∀ j, j ≤ Kk → iv' 64 j = (G j : Nat)) → iv' 63 3 = ((bst R W G Kk).1 : Nat) → (∀ j, j < (bst R W G Kk).1 → iv' 65 j = (bst R W G Kk).2 j) → iv' 63 4 = r s % 1000 → K iv') : wp_X9_trace h s g iv rv K := by
  have ts : ((s : Int)).toNat = s := Int.toNat_natCast s
  have r0 := hr.1.2.1 s hs
  obtain ⟨L1, L2⟩ := gL_ok hc
  have k7 := hGP.2.2.1
  intro iva ea ivb eb ivc ec
  refine ⟨⟨by omega, by omega⟩, fun iv3 e3 iv4 e4 iv5 e5 => ?_⟩
  have fc : ∀ k j, k ≠ 63 → ivc k j = iv k j := fun k j q => by rw [ec, w2_ne (by omega), eb, w2_ne (by omega), ea, w2_ne (by omega)]
  have f5 : ∀ k j, ¬ (63 ≤ k ∧ k ≤ 65) → iv5 k j = iv k j := fun k j q => by rw [e5, w2_ne (by omega), e4, w2_ne (by omega), e3, w2_ne (by omega), fc _ _ (by omega)]
  rw [ts, fc 50 s (by omega), h50 s hs, Int.tmod_eq_emod_of_nonneg r0.1] at e3
  intro P hP
  have key : ∀ d i : Nat, i + d = Kk → ∀ (x : Int) (iv' : IV), x = (G i : Nat) → (∀ k j, ¬ (63 ≤ k ∧ k ≤ 65) → iv' k j = iv k j) → iv' 63 2 = ((i + 1 : Nat) : Int) → (∀ j, j ≤ i → iv' 64 j = (G j : Nat)) → iv' 63 3 = ((bst R W G i).1 : Nat) → (∀ j, j < (bst R W G i).1 → iv' 65 j = (bst R W G i).2 j) → iv' 63 4 = r s % 1000 → P g x iv' := by
    intro d
    induction d with
    | zero =>
      intro i hi x iv' ex fr p2 p64 p3 p65 p4
      obtain rfl : i = Kk := by omega
      refine hP _ _ _ ⟨fun _ => hK iv' fr p2 p64 p3 p65 p4, fun z => ?_⟩
      rw [ex, hGP.2.1] at z
      exact absurd rfl z
    | succ d ih =>
      intro i hi x iv' ex fr p2 p64 p3 p65 p4
      subst ex
      obtain ⟨n1, n2, n3⟩ := hGP.2.2.2.2 i (by omega)
      obtain ⟨v1, v2⟩ := hGP.2.2.2.1 i (by omega)
      obtain ⟨b1, b2, b3⟩ := bl_jn n2.1
      have bl7 := bst_le (R := R) (W := W) (G := G) i
      have R' : ∀ r i, r < 19 → iv' (h + r) i = R r i := fun r i hr => by rw [fr _ _ (by omega)]; exact hR r i hr
      have lk := lk_ok hc b1
      refine hP _ _ _ ⟨fun z => absurd (by omega) n1, fun _ => ⟨fun z => by omega, fun _ => ?_⟩⟩
      refine c_nextLink R' hc hL hr (fun e he => by rw [fr _ _ (by omega)]; exact h49 e he) (fun v hv => by rw [fr _ _ (by omega)]; exact h50 v hv) v1 v2 n2 n3 ?_
      generalize hq : bl (gA R) (gB R) W (G i) (G (i + 1)) (gL R) = e at *
      have fin : ∀ iv2 : IV, (∀ k j, ¬ (63 ≤ k ∧ k ≤ 65) → iv2 k j = iv k j) → iv2 63 2 = ((i + 1 : Nat) : Int) → (∀ j, j ≤ i → iv2 64 j = (G j : Nat)) → iv2 63 3 = ((bst R W G (i + 1)).1 : Nat) → (∀ j, j < (bst R W G (i + 1)).1 → iv2 65 j = (bst R W G (i + 1)).2 j) → iv2 63 4 = r s % 1000 → bd_X9_trace_103 h P g (G i : Nat) e iv2 rv K := by
        intro iv2 q1 q2 q64 q3 q65 q4
        unfold bd_X9_trace_103
        rw [← b3]
        refine c_farEnd (fun r i hr => by rw [q1 _ _ (by omega)]; exact hR r i hr) hc b1 (fun q hq2 => ?_) (fun hn => absurd b2 (hn _))
        have eq : q = G (i + 1) := by
          rcases b2 with ⟨x1, x2⟩ | ⟨x1, x2⟩
          · rcases hq2 with ⟨y1, y2⟩ | ⟨y1, y2⟩ <;> omega
          · rcases hq2 with ⟨y1, y2⟩ | ⟨y1, y2⟩ <;> omega
        subst eq
        refine ⟨⟨by omega, by omega⟩, fun iv6 e6 iv7 e7 => ?_⟩
        rw [q2, Int.toNat_natCast] at e6
        have i63 : iv6 63 2 = ((i + 1 : Nat) : Int) := by rw [e6, w2_ne (by omega)]; exact q2
        rw [i63, w32_id (by omega) (by omega)] at e7
        have f7 : ∀ k j, ¬ (k = 64 ∧ j = i + 1) → ¬ (k = 63 ∧ j = 2) → iv7 k j = iv2 k j := fun k j y1 y2 => by rw [e7, w2_ne y2, e6, w2_ne y1]
        refine ih (i + 1) (by omega) _ iv7 rfl (fun k j y => by rw [f7 _ _ (by omega) (by omega)]; exact q1 k j y) (by rw [e7, w2_eq]; omega) (fun j hj => ?_) (by rw [f7 _ _ (by omega) (by omega)]; exact q3) (fun j hj => by rw [f7 _ _ (by omega) (by omega)]; exact q65 j hj) (by rw [f7 _ _ (by omega) (by omega)]; exact q4)
        by_cases y : j = i + 1
        · rw [y, e7, w2_ne (by omega), e6, w2_eq]
        · rw [f7 _ _ (by omega) (by omega)]; exact q64 j (by omega)
      have nb : bst R W G (i + 1) = if R 7 e.toNat < 0 then bst R W G i else ((bst R W G i).1 + 1, up1 (bst R W G i).2 (bst R W G i).1 (R 7 e.toNat)) := by
        show (if _ then _ else _) = _
        rw [hq]
      refine ⟨fun _ => ⟨⟨by omega, by omega⟩, fun z => ?_, fun z => ⟨⟨by omega, by omega⟩, ⟨by omega, by omega⟩, fun iv9 e9 iv10 e10 => ?_⟩⟩, fun z => absurd (by omega) z⟩
      · rw [R' 7 _ (by omega)] at z
        rw [if_pos z] at nb
        exact fin iv' fr p2 p64 (by rw [nb]; exact p3) (by rw [nb]; exact p65) p4
      · rw [R' 7 _ (by omega)] at z e9
        rw [if_neg z] at nb
        rw [p3, Int.toNat_natCast] at e9
        have i63 : iv9 63 3 = ((bst R W G i).1 : Nat) := by rw [e9, w2_ne (by omega)]; exact p3
        rw [i63, w32_id (by omega) (by omega)] at e10
        have f10 : ∀ k j, ¬ (k = 65 ∧ j = (bst R W G i).1) → ¬ (k = 63 ∧ j = 3) → iv10 k j = iv' k j := fun k j y1 y2 => by rw [e10, w2_ne y2, e9, w2_ne y1]
        refine fin iv10 (fun k j y => by rw [f10 _ _ (by omega) (by omega)]; exact fr k j y) (by rw [f10 _ _ (by omega) (by omega)]; exact p2) (fun j hj => by rw [f10 _ _ (by omega) (by omega)]; exact p64 j hj) ?_ (fun j hj => ?_) (by rw [f10 _ _ (by omega) (by omega)]; exact p4)
        · rw [nb, e10, w2_eq]
          show _ = (((bst R W G i).1 + 1 : Nat) : Int)
          omega
        · rw [nb] at hj ⊢
          have hj' : j < (bst R W G i).1 + 1 := hj
          show iv10 65 j = up1 (bst R W G i).2 (bst R W G i).1 (R 7 e.toNat) j
          by_cases y : j = (bst R W G i).1
          · rw [y, up1_eq, e10, w2_ne (by omega), e9, w2_eq]
          · rw [up1_ne y, f10 _ _ (by omega) (by omega)]; exact p65 j (by omega)
  refine key Kk 0 (by omega) _ iv5 (by rw [hGP.1]) f5 (by rw [e5, w2_eq]; rfl) (fun j hj => ?_) ?_ (fun j hj => absurd hj (Nat.not_lt_zero _)) ?_
  · rw [show j = 0 by omega, e5, w2_ne (by omega), e4, w2_eq, hGP.1]
  · rw [e5, w2_ne (by omega), e4, w2_ne (by omega), e3, w2_ne (by omega), ec, w2_ne (by omega), eb, w2_eq]; rfl
  · rw [e5, w2_ne (by omega), e4, w2_ne (by omega), e3, w2_eq]
