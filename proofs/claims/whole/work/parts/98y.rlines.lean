/-! THE READER: the reference's lines -/
def Okm (B : Nat) (b : Nat → Int) (n : Nat) (iv0 : IV) (K : IV → Prop) (v : Ps) : Prop := ∀ iv' : IV, FrB B iv0 iv' → MR B b n v.1 v.2.1 v.2.2.1 v.2.2.2.1 v.2.2.2.2.1 iv' → MH B v.2.2.2.2.2 iv' → K iv'
def FlM (F : Int → Nat → Prop) (B : Nat) (iv0 : IV) (K : IV → Prop) : Prop := ∀ (k : Int) (p : Nat), F k p → ∀ iv' : IV, Ov B iv0 k p iv' → K iv'
theorem f_place {R R' : IV} (cp : 0 ≤ R 1 0 ∧ R 1 0 < 100) (er : R' = w2 R 1 0 (w32 (R 1 0 + 1))) : R' 1 0 = R 1 0 + 1 ∧ ∀ k j, ¬ (k = 1 ∧ j = 0) → R' k j = R k j := by
  subst er
  exact ⟨bmp cp rfl, fun k j q => w2_ne q⟩
theorem f_goods {R R' : IV} (cp : 0 ≤ R 1 1 ∧ R 1 1 < 100) (er : R' = w2 R 1 1 (w32 (R 1 1 + 1))) : R' 1 1 = R 1 1 + 1 ∧ ∀ k j, ¬ (k = 1 ∧ j = 1) → R' k j = R k j := by
  subst er
  exact ⟨bmp cp rfl, fun k j q => w2_ne q⟩
theorem f_man {x : Nat} {v2 v3 : Int} {R R' : IV} (cp : 0 ≤ R 1 2 ∧ R 1 2 < 100) (er : R' = w2 (w2 (w2 R 2 x v2) 3 x v3) 1 2 (w32 ((w2 (w2 R 2 x v2) 3 x v3) 1 2 + 1))) : R' 1 2 = R 1 2 + 1 ∧ (∀ k j, ¬ ((k = 1 ∧ j = 2) ∨ (k = 2 ∧ j = x) ∨ (k = 3 ∧ j = x)) → R' k j = R k j) ∧ R' 2 x = v2 ∧ R' 3 x = v3 := by
  subst er
  refine ⟨bmp cp (by rw [w2_ne (by omega), w2_ne (by omega)]), fun k j q => by rw [w2_ne (by omega), w2_ne (by omega), w2_ne (by omega)], by rw [w2_ne (by omega), w2_ne (by omega), w2_eq], by rw [w2_ne (by omega), w2_eq]⟩
theorem f_road {l : Nat} {v4 v5 v6 v7 : Int} {R R' : IV} (cp : 0 ≤ R 1 3 ∧ R 1 3 < 100) (er : R' = w2 (w2 (w2 (w2 (w2 R 4 l v4) 5 l v5) 6 l v6) 7 l v7) 1 3 (w32 ((w2 (w2 (w2 (w2 R 4 l v4) 5 l v5) 6 l v6) 7 l v7) 1 3 + 1))) : R' 1 3 = R 1 3 + 1 ∧ (∀ k j, ¬ ((k = 1 ∧ j = 3) ∨ (k = 4 ∧ j = l) ∨ (k = 5 ∧ j = l) ∨ (k = 6 ∧ j = l) ∨ (k = 7 ∧ j = l)) → R' k j = R k j) ∧ R' 4 l = v4 ∧ R' 5 l = v5 ∧ R' 6 l = v6 ∧ R' 7 l = v7 := by
  subst er
  refine ⟨bmp cp (by rw [w2_ne (by omega), w2_ne (by omega), w2_ne (by omega), w2_ne (by omega)]), fun k j q => by rw [w2_ne (by omega), w2_ne (by omega), w2_ne (by omega), w2_ne (by omega), w2_ne (by omega)], by rw [w2_ne (by omega), w2_ne (by omega), w2_ne (by omega), w2_ne (by omega), w2_eq], by rw [w2_ne (by omega), w2_ne (by omega), w2_ne (by omega), w2_eq], by rw [w2_ne (by omega), w2_ne (by omega), w2_eq], by rw [w2_ne (by omega), w2_eq]⟩
theorem f_bridge {l : Nat} {v4 v5 v6 v7 : Int} {R R' : IV} (cp : 0 ≤ R 1 4 ∧ R 1 4 < 100) (er : R' = w2 (w2 (w2 (w2 (w2 R 4 l v4) 5 l v5) 6 l v6) 7 l v7) 1 4 (w32 ((w2 (w2 (w2 (w2 R 4 l v4) 5 l v5) 6 l v6) 7 l v7) 1 4 + 1))) : R' 1 4 = R 1 4 + 1 ∧ (∀ k j, ¬ ((k = 1 ∧ j = 4) ∨ (k = 4 ∧ j = l) ∨ (k = 5 ∧ j = l) ∨ (k = 6 ∧ j = l) ∨ (k = 7 ∧ j = l)) → R' k j = R k j) ∧ R' 4 l = v4 ∧ R' 5 l = v5 ∧ R' 6 l = v6 ∧ R' 7 l = v7 := by
  subst er
  refine ⟨bmp cp (by rw [w2_ne (by omega), w2_ne (by omega), w2_ne (by omega), w2_ne (by omega)]), fun k j q => by rw [w2_ne (by omega), w2_ne (by omega), w2_ne (by omega), w2_ne (by omega), w2_ne (by omega)], by rw [w2_ne (by omega), w2_ne (by omega), w2_ne (by omega), w2_ne (by omega), w2_eq], by rw [w2_ne (by omega), w2_ne (by omega), w2_ne (by omega), w2_eq], by rw [w2_ne (by omega), w2_ne (by omega), w2_eq], by rw [w2_ne (by omega), w2_eq]⟩
theorem f_take {x : Nat} {v11 v12 v13 v8 v9 : Int} {R R' : IV} (cp : 0 ≤ R 1 5 ∧ R 1 5 < 100) (er : R' = w2 (w2 (w2 (w2 (w2 (w2 R 11 x v11) 12 x v12) 13 x v13) 8 x v8) 9 x v9) 1 5 (w32 ((w2 (w2 (w2 (w2 (w2 R 11 x v11) 12 x v12) 13 x v13) 8 x v8) 9 x v9) 1 5 + 1))) : R' 1 5 = R 1 5 + 1 ∧ (∀ k j, ¬ ((k = 1 ∧ j = 5) ∨ (k = 11 ∧ j = x) ∨ (k = 12 ∧ j = x) ∨ (k = 13 ∧ j = x) ∨ (k = 8 ∧ j = x) ∨ (k = 9 ∧ j = x)) → R' k j = R k j) ∧ R' 11 x = v11 ∧ R' 12 x = v12 ∧ R' 13 x = v13 ∧ R' 8 x = v8 ∧ R' 9 x = v9 := by
  subst er
  refine ⟨bmp cp (by rw [w2_ne (by omega), w2_ne (by omega), w2_ne (by omega), w2_ne (by omega), w2_ne (by omega)]), fun k j q => by rw [w2_ne (by omega), w2_ne (by omega), w2_ne (by omega), w2_ne (by omega), w2_ne (by omega), w2_ne (by omega)], by rw [w2_ne (by omega), w2_ne (by omega), w2_ne (by omega), w2_ne (by omega), w2_ne (by omega), w2_eq], by rw [w2_ne (by omega), w2_ne (by omega), w2_ne (by omega), w2_ne (by omega), w2_eq], by rw [w2_ne (by omega), w2_ne (by omega), w2_ne (by omega), w2_eq], by rw [w2_ne (by omega), w2_ne (by omega), w2_eq], by rw [w2_ne (by omega), w2_eq]⟩
theorem f_free {x : Nat} {v11 v12 v13 v8 v9 : Int} {R R' : IV} (cp : 0 ≤ R 1 6 ∧ R 1 6 < 100) (er : R' = w2 (w2 (w2 (w2 (w2 (w2 R 11 (6 + x) v11) 12 (6 + x) v12) 13 (6 + x) v13) 8 (6 + x) v8) 9 (6 + x) v9) 1 6 (w32 ((w2 (w2 (w2 (w2 (w2 R 11 (6 + x) v11) 12 (6 + x) v12) 13 (6 + x) v13) 8 (6 + x) v8) 9 (6 + x) v9) 1 6 + 1))) : R' 1 6 = R 1 6 + 1 ∧ (∀ k j, ¬ ((k = 1 ∧ j = 6) ∨ (k = 11 ∧ j = (6 + x)) ∨ (k = 12 ∧ j = (6 + x)) ∨ (k = 13 ∧ j = (6 + x)) ∨ (k = 8 ∧ j = (6 + x)) ∨ (k = 9 ∧ j = (6 + x))) → R' k j = R k j) ∧ R' 11 (6 + x) = v11 ∧ R' 12 (6 + x) = v12 ∧ R' 13 (6 + x) = v13 ∧ R' 8 (6 + x) = v8 ∧ R' 9 (6 + x) = v9 := by
  subst er
  refine ⟨bmp cp (by rw [w2_ne (by omega), w2_ne (by omega), w2_ne (by omega), w2_ne (by omega), w2_ne (by omega)]), fun k j q => by rw [w2_ne (by omega), w2_ne (by omega), w2_ne (by omega), w2_ne (by omega), w2_ne (by omega), w2_ne (by omega)], by rw [w2_ne (by omega), w2_ne (by omega), w2_ne (by omega), w2_ne (by omega), w2_ne (by omega), w2_eq], by rw [w2_ne (by omega), w2_ne (by omega), w2_ne (by omega), w2_ne (by omega), w2_eq], by rw [w2_ne (by omega), w2_ne (by omega), w2_ne (by omega), w2_eq], by rw [w2_ne (by omega), w2_ne (by omega), w2_eq], by rw [w2_ne (by omega), w2_eq]⟩
theorem f_as {x : Nat} {v11 v12 v13 v8 v9 : Int} {R R' : IV} (cp : 0 ≤ R 1 7 ∧ R 1 7 < 100) (er : R' = w2 (w2 (w2 (w2 (w2 (w2 R 11 (12 + x) v11) 12 (12 + x) v12) 13 (12 + x) v13) 8 (12 + x) v8) 9 (12 + x) v9) 1 7 (w32 ((w2 (w2 (w2 (w2 (w2 R 11 (12 + x) v11) 12 (12 + x) v12) 13 (12 + x) v13) 8 (12 + x) v8) 9 (12 + x) v9) 1 7 + 1))) : R' 1 7 = R 1 7 + 1 ∧ (∀ k j, ¬ ((k = 1 ∧ j = 7) ∨ (k = 11 ∧ j = (12 + x)) ∨ (k = 12 ∧ j = (12 + x)) ∨ (k = 13 ∧ j = (12 + x)) ∨ (k = 8 ∧ j = (12 + x)) ∨ (k = 9 ∧ j = (12 + x))) → R' k j = R k j) ∧ R' 11 (12 + x) = v11 ∧ R' 12 (12 + x) = v12 ∧ R' 13 (12 + x) = v13 ∧ R' 8 (12 + x) = v8 ∧ R' 9 (12 + x) = v9 := by
  subst er
  refine ⟨bmp cp (by rw [w2_ne (by omega), w2_ne (by omega), w2_ne (by omega), w2_ne (by omega), w2_ne (by omega)]), fun k j q => by rw [w2_ne (by omega), w2_ne (by omega), w2_ne (by omega), w2_ne (by omega), w2_ne (by omega), w2_ne (by omega)], by rw [w2_ne (by omega), w2_ne (by omega), w2_ne (by omega), w2_ne (by omega), w2_ne (by omega), w2_eq], by rw [w2_ne (by omega), w2_ne (by omega), w2_ne (by omega), w2_ne (by omega), w2_eq], by rw [w2_ne (by omega), w2_ne (by omega), w2_ne (by omega), w2_eq], by rw [w2_ne (by omega), w2_ne (by omega), w2_eq], by rw [w2_ne (by omega), w2_eq]⟩
theorem f_renew {x : Nat} {v14 v15 v16 : Int} {R R' : IV} (cp : 0 ≤ R 1 8 ∧ R 1 8 < 100) (er : R' = w2 (w2 (w2 (w2 R 14 x v14) 15 x v15) 16 x v16) 1 8 (w32 ((w2 (w2 (w2 R 14 x v14) 15 x v15) 16 x v16) 1 8 + 1))) : R' 1 8 = R 1 8 + 1 ∧ (∀ k j, ¬ ((k = 1 ∧ j = 8) ∨ (k = 14 ∧ j = x) ∨ (k = 15 ∧ j = x) ∨ (k = 16 ∧ j = x)) → R' k j = R k j) ∧ R' 14 x = v14 ∧ R' 15 x = v15 ∧ R' 16 x = v16 := by
  subst er
  refine ⟨bmp cp (by rw [w2_ne (by omega), w2_ne (by omega), w2_ne (by omega)]), fun k j q => by rw [w2_ne (by omega), w2_ne (by omega), w2_ne (by omega), w2_ne (by omega)], by rw [w2_ne (by omega), w2_ne (by omega), w2_ne (by omega), w2_eq], by rw [w2_ne (by omega), w2_ne (by omega), w2_eq], by rw [w2_ne (by omega), w2_eq]⟩
theorem f_lost {x : Nat} {v10 : Int} {R R' : IV} (cp : 0 ≤ R 1 9 ∧ R 1 9 < 100) (er : R' = w2 (w2 R 10 x v10) 1 9 (w32 ((w2 R 10 x v10) 1 9 + 1))) : R' 1 9 = R 1 9 + 1 ∧ (∀ k j, ¬ ((k = 1 ∧ j = 9) ∨ (k = 10 ∧ j = x)) → R' k j = R k j) ∧ R' 10 x = v10 := by
  subst er
  refine ⟨bmp cp (by rw [w2_ne (by omega)]), fun k j q => by rw [w2_ne (by omega), w2_ne (by omega)], by rw [w2_ne (by omega), w2_eq]⟩
theorem f_law {x : Nat} {v17 : Int} {R R' : IV} (cp : 0 ≤ R 1 10 ∧ R 1 10 < 100) (er : R' = w2 (w2 R 17 x v17) 1 10 (w32 ((w2 R 17 x v17) 1 10 + 1))) : R' 1 10 = R 1 10 + 1 ∧ (∀ k j, ¬ ((k = 1 ∧ j = 10) ∨ (k = 17 ∧ j = x)) → R' k j = R k j) ∧ R' 17 x = v17 := by
  subst er
  refine ⟨bmp cp (by rw [w2_ne (by omega)]), fun k j q => by rw [w2_ne (by omega), w2_ne (by omega)], by rw [w2_ne (by omega), w2_eq]⟩
theorem f_cart {x : Nat} {td : F1} {R R' : IV} (cp : 0 ≤ R 1 11 ∧ R 1 11 < 100) (er : R' = w2 (crt R x td) 1 11 (w32 (crt R x td 1 11 + 1))) : R' 1 11 = R 1 11 + 1 ∧ (∀ k j, ¬ ((k = 1 ∧ j = 11) ∨ (k = 18 ∧ x * 7 ≤ j ∧ j < x * 7 + 7)) → R' k j = R k j) ∧ ∀ f, f < 7 → R' 18 (7 * x + f) = td f := by
  subst er
  have o0 : ∀ k j, ¬ (k = 18 ∧ x * 7 ≤ j ∧ j < x * 7 + 7) → crt R x td k j = R k j := fun k j q => if_neg q
  refine ⟨bmp cp (o0 1 11 (by omega)), fun k j q => by rw [w2_ne (by omega), o0 _ _ (by omega)], fun f hf => ?_⟩
  have e : crt R x td 18 (7 * x + f) = td (7 * x + f - x * 7) := if_pos ⟨rfl, by omega, by omega⟩
  rw [w2_ne (by omega), e, show 7 * x + f - x * 7 = f by omega]
theorem r_choice3 {B : Nat} {b : Nat → Int} {n a m w wa wb wd : Nat} {c so nu : F1} {iv : IV} {rv : RV} {X : Int → Prop} (ha : wa < 51) (hb : wb < 51) (hd : wd < 51) (oa : okv (bs wa) 0 = true) (ob : okv (bs wb) 0 = true) (od : okv (bs wd) 0 = true) (hc : ∀ cd, amg cd (bs w) 0 0 = if wc wa = cd then 0 else if wc wb = cd then 1 else if wc wd = cd then 2 else -1) (M : MR B b n a m c so nu iv) (h1 : Unit → (kd b n a = 1 ∧ 0 ≤ amg (co b n a) (bs w) 0 0) → X (amg (co b n a) (bs w) 0 0)) (h0 : Unit → ¬ (kd b n a = 1 ∧ 0 ≤ amg (co b n a) (bs w) 0 0) → X (-1)) :
    wp_X12_isWord wa iv rv (fun r10 => ((r10 = 0) → (wp_X12_isWord wb iv rv (fun r12 => ((r12 = 0) → (wp_X12_isWord wd iv rv (fun r14 => ((r14 = 0) → X (-1)) ∧ ((¬ (r14 = 0)) → X 2)))) ∧ ((¬ (r12 = 0)) → X 1)))) ∧ ((¬ (r10 = 0)) → X 0)) := by
  rw [hc] at h1 h0
  refine r_is ha oa M (fun _ q => ⟨fun y => absurd y (by decide), fun _ => ?_⟩) (fun _ q => ⟨fun _ => r_is hb ob M (fun _ q2 => ⟨fun y => absurd y (by decide), fun _ => ?_⟩) (fun _ q2 => ⟨fun _ => r_is hd od M (fun _ q3 => ⟨fun y => absurd y (by decide), fun _ => ?_⟩) (fun _ q3 => ⟨fun _ => h0 () (fun y => ?_), fun y => absurd rfl y⟩), fun y => absurd rfl y⟩), fun y => absurd rfl y⟩)
  · rw [if_pos q.2] at h1
    exact h1 () ⟨q.1, by decide⟩
  · rw [if_neg (fun y => q ⟨q2.1, y⟩), if_pos q2.2] at h1
    exact h1 () ⟨q2.1, by decide⟩
  · rw [if_neg (fun y => q ⟨q3.1, y⟩), if_neg (fun y => q2 ⟨q3.1, y⟩), if_pos q3.2] at h1
    exact h1 () ⟨q3.1, by decide⟩
  · have z := y.2
    rw [if_neg (fun u => q ⟨y.1, u⟩), if_neg (fun u => q2 ⟨y.1, u⟩), if_neg (fun u => q3 ⟨y.1, u⟩)] at z
    exact absurd z (by decide)
theorem m_place {B : Nat} {b : Nat → Int} {n a m x : Nat} {c so nu : F1} {R iv0 : IV} {rv : RV} {K : IV → Prop} {F : Int → Nat → Prop} {S : Ps → Prop} (hB : 80 ≤ B) (hg : gR rv 66 4 = B) (hh : hMm rv 66 4) (N : NI m so nu R) (W : RW R) (k1 : kd b n a = 1) (hx : R 1 0 = (x : Nat)) (p5 : ¬ (R 1 0 < roomL.getD 0 0) → F 5 (st b n a)) (p : R 1 0 < roomL.getD 0 0 → pl_name b n m c so nu R 0 x (nx b n a) F S) (M : MR B b n a m c so nu iv0) (H : MH B R iv0) (hO : FlM F B iv0 K) (hS : ∀ v, S v → Okm B b n iv0 K (bump 0 v)) : wp_X12_readPlace iv0 rv K := by
  have cp := N.cap
  have hm := N.1
  have ec : iv0 B 0 = R 1 0 := H.1.1 0 (by omega)
  unfold wp_X12_readPlace
  rw [hg]
  refine ⟨hh, ?_⟩
  rw [ec]
  refine r_begins (F := F) hB k1 (by omega) p5 (fun _ _ _ _ _ => rfl) M (fun _ _ f iv' o => o_fresh hg hh o.2.1 o.2.2.2.2 (⟨fun _ => hO _ _ f iv' o, fun y => absurd o.2.1 y⟩)) (fun room iv fr M => ?_)
  replace p := p room
  replace room : R 1 0 < 8 := room
  have ex : iv B 0 = (x : Nat) := by rw [fr _ _ (by omega) (by omega) (by omega), ec, hx]
  rw [ex]
  refine r_fresh (s := ((0 : Nat) : Int)) (num := ((x : Nat) : Int)) hB hg hh (by decide) (by omega) p fr M (fun _ _ f iv' o => ⟨fun _ => hO _ _ f iv' o, fun y => absurd o.2.1 y⟩) (fun s0 p iv fr M => ?_)
  clear ex
  have ex : iv B 0 = (x : Nat) := by rw [fr _ _ (by omega) (by omega) (by omega), ec, hx]
  refine ⟨fun y => absurd y M.n5, fun _ => ?_⟩
  intro ivz ez
  rw [ex, w32_id (by omega) (by omega)] at ez
  have fB : FrB B iv0 ivz := fun k j q1 q2 => by rw [ez, w2_ne (by omega)]; exact fr.b k j q1 q2
  have Mz := M.congr (iv' := ivz) (fun k j q => by rw [ez, w2_ne (by omega)])
  have hz : ∀ g, 12 ≤ g → g < 16 → ivz (B + 9) g = 0 := fun g g1 g2 => by rw [ez, w2_ne (by omega), fr _ _ (by omega) (by omega) (by omega)]; exact H.2 g g1 g2
  have eS : sft B ivz 80 0 = R 1 0 + 1 := by show ivz B 0 = _; rw [ez, w2_eq]; omega
  have uo : ∀ k j, 80 ≤ k ∧ k ≤ 106 ∧ ¬ (k = 80 ∧ j = 12) ∧ ¬ ((k = 80 ∧ j = 0)) → sft B ivz k j = sft B iv0 k j := fun k j q => by show ivz (B + (k - 80)) j = iv0 (B + (k - 80)) j; rw [ez, w2_ne (by omega), fr _ _ (by omega) (by omega) (by omega)]
  obtain ⟨fe, fo⟩ := f_place (R := R) ⟨by omega, by omega⟩ rfl
  exact hS _ p ivz fB Mz ⟨n_place H.1 W (cap3 N) ⟨by omega, room⟩ hx fe eS fo uo, hz⟩
theorem m_goods {B : Nat} {b : Nat → Int} {n a m x : Nat} {c so nu : F1} {R iv0 : IV} {rv : RV} {K : IV → Prop} {F : Int → Nat → Prop} {S : Ps → Prop} (hB : 80 ≤ B) (hg : gR rv 66 4 = B) (hh : hMm rv 66 4) (N : NI m so nu R) (W : RW R) (k1 : kd b n a = 1) (hx : R 1 1 = (x : Nat)) (p5 : ¬ (R 1 1 < roomL.getD 1 0) → F 5 (st b n a)) (p : R 1 1 < roomL.getD 1 0 → pl_name b n m c so nu R 1 x (nx b n a) F S) (M : MR B b n a m c so nu iv0) (H : MH B R iv0) (hO : FlM F B iv0 K) (hS : ∀ v, S v → Okm B b n iv0 K (bump 1 v)) : wp_X12_readGoods iv0 rv K := by
  have cp := N.cap
  have hm := N.1
  have ec : iv0 B 1 = R 1 1 := H.1.1 1 (by omega)
  unfold wp_X12_readGoods
  rw [hg]
  refine ⟨hh, ?_⟩
  rw [ec]
  refine r_begins (F := F) hB k1 (by omega) p5 (fun _ _ _ _ _ => rfl) M (fun _ _ f iv' o => o_fresh hg hh o.2.1 o.2.2.2.2 (⟨fun _ => hO _ _ f iv' o, fun y => absurd o.2.1 y⟩)) (fun room iv fr M => ?_)
  replace p := p room
  replace room : R 1 1 < 4 := room
  have ex : iv B 1 = (x : Nat) := by rw [fr _ _ (by omega) (by omega) (by omega), ec, hx]
  rw [ex]
  refine r_fresh (s := ((1 : Nat) : Int)) (num := ((x : Nat) : Int)) hB hg hh (by decide) (by omega) p fr M (fun _ _ f iv' o => ⟨fun _ => hO _ _ f iv' o, fun y => absurd o.2.1 y⟩) (fun s0 p iv fr M => ?_)
  clear ex
  have ex : iv B 1 = (x : Nat) := by rw [fr _ _ (by omega) (by omega) (by omega), ec, hx]
  refine ⟨fun y => absurd y M.n5, fun _ => ?_⟩
  intro ivz ez
  rw [ex, w32_id (by omega) (by omega)] at ez
  have fB : FrB B iv0 ivz := fun k j q1 q2 => by rw [ez, w2_ne (by omega)]; exact fr.b k j q1 q2
  have Mz := M.congr (iv' := ivz) (fun k j q => by rw [ez, w2_ne (by omega)])
  have hz : ∀ g, 12 ≤ g → g < 16 → ivz (B + 9) g = 0 := fun g g1 g2 => by rw [ez, w2_ne (by omega), fr _ _ (by omega) (by omega) (by omega)]; exact H.2 g g1 g2
  have eS : sft B ivz 80 1 = R 1 1 + 1 := by show ivz B 1 = _; rw [ez, w2_eq]; omega
  have uo : ∀ k j, 80 ≤ k ∧ k ≤ 106 ∧ ¬ (k = 80 ∧ j = 12) ∧ ¬ ((k = 80 ∧ j = 1)) → sft B ivz k j = sft B iv0 k j := fun k j q => by show ivz (B + (k - 80)) j = iv0 (B + (k - 80)) j; rw [ez, w2_ne (by omega), fr _ _ (by omega) (by omega) (by omega)]
  obtain ⟨fe, fo⟩ := f_goods (R := R) ⟨by omega, by omega⟩ rfl
  exact hS _ p ivz fB Mz ⟨n_goods H.1 W (cap3 N) ⟨by omega, room⟩ hx fe eS fo uo, hz⟩
theorem m_man {B : Nat} {b : Nat → Int} {n a m x l ta : Nat} {c so nu : F1} {R iv0 : IV} {rv : RV} {K : IV → Prop} {F : Int → Nat → Prop} {S : Ps → Prop} (hB : 80 ≤ B) (hg : gR rv 66 4 = B) (hh : hMm rv 66 4) (N : NI m so nu R) (W : RW R) (k1 : kd b n a = 1) (hx : R 1 2 = (x : Nat)) (p5 : ¬ (R 1 2 < roomL.getD 2 0) → F 5 (st b n a)) (p : R 1 2 < roomL.getD 2 0 → pl_man b n m c so nu R x l ta (nx b n a) F S) (M : MR B b n a m c so nu iv0) (H : MH B R iv0) (hO : FlM F B iv0 K) (hS : ∀ v, S v → Okm B b n iv0 K (bump 2 v)) : wp_X12_readMan iv0 rv K := by
  have cp := N.cap
  have hm := N.1
  have ec : iv0 B 2 = R 1 2 := H.1.1 2 (by omega)
  unfold wp_X12_readMan
  rw [hg]
  refine ⟨hh, ?_⟩
  rw [ec]
  refine r_begins (F := F) hB k1 (by omega) p5 (fun _ _ _ _ _ => rfl) M (fun _ _ f iv' o => o_fresh hg hh o.2.1 o.2.2.2.2 (o_needs o.2.1 (o_use hg hh o.2.1 o.2.2.2.2 (fun _ => o_needs o.2.1 (o_whole o.2.1 (fun _ => ⟨fun y => absurd o.2.1 y, fun _ => hO _ _ f iv' o⟩)))))) (fun room iv fr M => ?_)
  replace p := p room
  replace room : R 1 2 < 6 := room
  have ex : iv B 2 = (x : Nat) := by rw [fr _ _ (by omega) (by omega) (by omega), ec, hx]
  rw [ex]
  refine r_fresh (s := 2) (num := ((x : Nat) : Int)) hB hg hh (by decide) (by omega) p fr M (fun _ _ f iv' o => o_needs o.2.1 (o_use hg hh o.2.1 o.2.2.2.2 (fun _ => o_needs o.2.1 (o_whole o.2.1 (fun _ => ⟨fun y => absurd o.2.1 y, fun _ => hO _ _ f iv' o⟩))))) (fun s0 p iv fr M => r_needs hB (by omega) rfl p fr M (fun _ _ f iv' o => o_use hg hh o.2.1 o.2.2.2.2 (fun _ => o_needs o.2.1 (o_whole o.2.1 (fun _ => ⟨fun y => absurd o.2.1 y, fun _ => hO _ _ f iv' o⟩)))) (fun s1 p iv fr M => r_use (lo := 0) (hi := 0) hB hg hh so0 p fr M (fun _ _ f iv' o _ => o_needs o.2.1 (o_whole o.2.1 (fun _ => ⟨fun y => absurd o.2.1 y, fun _ => hO _ _ f iv' o⟩))) (fun s2 p iv fr M => r_needs hB (by omega) rfl p fr M (fun _ _ f iv' o => o_whole o.2.1 (fun _ => ⟨fun y => absurd o.2.1 y, fun _ => hO _ _ f iv' o⟩)) (fun s3 p iv fr M => r_whole hB p fr M (fun _ _ f iv' o _ => ⟨fun y => absurd o.2.1 y, fun _ => hO _ _ f iv' o⟩) (fun s4 p iv fr M => ?_)))))
  clear ex
  have ex : iv B 2 = (x : Nat) := by rw [fr _ _ (by omega) (by omega) (by omega), ec, hx]
  refine ⟨fun _ => ?_, fun y => absurd y M.n5⟩
  refine ⟨⟨by omega, by omega⟩, fun iu0 e0 => ?_⟩
  rw [ex, Int.toNat_natCast] at e0
  have x0 : iu0 B 2 = (x : Nat) := by rw [e0, w2_ne (by omega)]; exact ex
  refine ⟨⟨by omega, by omega⟩, fun iu1 e1 => ?_⟩
  rw [x0, Int.toNat_natCast] at e1
  have x1 : iu1 B 2 = (x : Nat) := by rw [e1, w2_ne (by omega)]; exact x0
  intro ivz ez
  rw [x1, w32_id (by omega) (by omega)] at ez
  have fB : FrB B iv0 ivz := fun k j q1 q2 => by rw [ez, w2_ne (by omega), e1, w2_ne (by omega), e0, w2_ne (by omega)]; exact fr.b k j q1 q2
  have Mz := M.congr (iv' := ivz) (fun k j q => by rw [ez, w2_ne (by omega), e1, w2_ne (by omega), e0, w2_ne (by omega)])
  have hz : ∀ g, 12 ≤ g → g < 16 → ivz (B + 9) g = 0 := fun g g1 g2 => by rw [ez, w2_ne (by omega), e1, w2_ne (by omega), e0, w2_ne (by omega), fr _ _ (by omega) (by omega) (by omega)]; exact H.2 g g1 g2
  have eS : sft B ivz 80 2 = R 1 2 + 1 := by show ivz B 2 = _; rw [ez, w2_eq]; omega
  have uo : ∀ k j, 80 ≤ k ∧ k ≤ 106 ∧ ¬ (k = 80 ∧ j = 12) ∧ ¬ ((k = 80 ∧ j = 2) ∨ (k = 81 ∧ j = x) ∨ (k = 82 ∧ j = x)) → sft B ivz k j = sft B iv0 k j := fun k j q => by show ivz (B + (k - 80)) j = iv0 (B + (k - 80)) j; rw [ez, w2_ne (by omega), e1, w2_ne (by omega), e0, w2_ne (by omega), fr _ _ (by omega) (by omega) (by omega)]
  obtain ⟨fe, fo, f2, f3⟩ := f_man (R := R) (x := x) (v2 := s2.1) (v3 := s4.1) ⟨by omega, by omega⟩ rfl
  exact hS _ p ivz fB Mz ⟨n_man H.1 W (cap3 N) ⟨by omega, room⟩ hx fe eS fo uo f2 (by show ivz (B + 1) x = _; rw [ez, w2_ne (by omega), e1, w2_ne (by omega), e0, w2_eq]) f3 (by show ivz (B + 2) x = _; rw [ez, w2_ne (by omega), e1, w2_eq]), hz⟩
theorem m_law {B : Nat} {b : Nat → Int} {n a m x l ta : Nat} {c so nu : F1} {R iv0 : IV} {rv : RV} {K : IV → Prop} {F : Int → Nat → Prop} {S : Ps → Prop} (hB : 80 ≤ B) (hg : gR rv 66 4 = B) (hh : hMm rv 66 4) (N : NI m so nu R) (W : RW R) (k1 : kd b n a = 1) (hx : R 1 10 = (x : Nat)) (p5 : ¬ (R 1 10 < roomL.getD 10 0) → F 5 (st b n a)) (p : R 1 10 < roomL.getD 10 0 → pl_law b n m c so nu R x l ta (nx b n a) F S) (M : MR B b n a m c so nu iv0) (H : MH B R iv0) (hO : FlM F B iv0 K) (hS : ∀ v, S v → Okm B b n iv0 K (bump 10 v)) : wp_X12_readLaw iv0 rv K := by
  have cp := N.cap
  have hm := N.1
  have ec : iv0 B 10 = R 1 10 := H.1.1 10 (by omega)
  unfold wp_X12_readLaw
  rw [hg]
  refine ⟨hh, ?_⟩
  rw [ec]
  refine r_begins (F := F) hB k1 (by omega) p5 (fun _ _ _ _ _ => rfl) M (fun _ _ f iv' o => o_fresh hg hh o.2.1 o.2.2.2.2 (o_either o.2.1 (fun _ => o_either o.2.1 (fun _ => o_either o.2.1 (fun _ => o_either o.2.1 (fun _ => ⟨fun y => absurd o.2.1 y, fun _ => hO _ _ f iv' o⟩)))))) (fun room iv fr M => ?_)
  replace p := p room
  replace room : R 1 10 < 3 := room
  have ex : iv B 10 = (x : Nat) := by rw [fr _ _ (by omega) (by omega) (by omega), ec, hx]
  rw [ex]
  refine r_fresh (s := 10) (num := ((x : Nat) : Int)) hB hg hh (by decide) (by omega) p fr M (fun _ _ f iv' o => o_either o.2.1 (fun _ => o_either o.2.1 (fun _ => o_either o.2.1 (fun _ => o_either o.2.1 (fun _ => ⟨fun y => absurd o.2.1 y, fun _ => hO _ _ f iv' o⟩))))) (fun s0 p iv fr M => r_either hB (by omega) (by omega) rfl rfl am32 (by decide) p fr M (fun _ _ f iv' o _ => o_either o.2.1 (fun _ => o_either o.2.1 (fun _ => o_either o.2.1 (fun _ => ⟨fun y => absurd o.2.1 y, fun _ => hO _ _ f iv' o⟩)))) (fun s1 p iv fr M bs1 => r_either hB (by omega) (by omega) rfl rfl am35 (by decide) p fr M (fun _ _ f iv' o _ => o_either o.2.1 (fun _ => o_either o.2.1 (fun _ => ⟨fun y => absurd o.2.1 y, fun _ => hO _ _ f iv' o⟩))) (fun s2 p iv fr M bs2 => r_eithr hB (by omega) (by omega) rfl rfl am28 (by decide) p fr M (fun _ _ f iv' o _ => o_either o.2.1 (fun _ => ⟨fun y => absurd o.2.1 y, fun _ => hO _ _ f iv' o⟩)) (fun s3 p iv fr M bs3 => r_eithr hB (by omega) (by omega) rfl rfl am11 (by decide) p fr M (fun _ _ f iv' o _ => ⟨fun y => absurd o.2.1 y, fun _ => hO _ _ f iv' o⟩) (fun s4 p iv fr M bs4 => ?_)))))
  clear ex
  have ex : iv B 10 = (x : Nat) := by rw [fr _ _ (by omega) (by omega) (by omega), ec, hx]
  refine ⟨fun _ => ?_, fun y => absurd y M.n5⟩
  refine ⟨⟨by omega, by omega⟩, fun iu0 e0 => ?_⟩
  rw [ex, Int.toNat_natCast] at e0
  have x0 : iu0 B 10 = (x : Nat) := by rw [e0, w2_ne (by omega)]; exact ex
  refine ⟨⟨by omega, by omega⟩, fun iu1 e1 => ?_⟩
  rw [x0, Int.toNat_natCast] at e1
  have x1 : iu1 B 10 = (x : Nat) := by rw [e1, w2_ne (by omega)]; exact x0
  refine ⟨⟨by omega, by omega⟩, fun iu2 e2 => ?_⟩
  rw [x1, Int.toNat_natCast] at e2
  have x2 : iu2 B 10 = (x : Nat) := by rw [e2, w2_ne (by omega)]; exact x1
  refine ⟨⟨by omega, by omega⟩, fun iu3 e3 => ?_⟩
  rw [x2, Int.toNat_natCast] at e3
  have x3 : iu3 B 10 = (x : Nat) := by rw [e3, w2_ne (by omega)]; exact x2
  intro ivz ez
  rw [x3, w32_id (by omega) (by omega)] at ez
  have fB : FrB B iv0 ivz := fun k j q1 q2 => by rw [ez, w2_ne (by omega), e3, w2_ne (by omega), e2, w2_ne (by omega), e1, w2_ne (by omega), e0, w2_ne (by omega)]; exact fr.b k j q1 q2
  have Mz := M.congr (iv' := ivz) (fun k j q => by rw [ez, w2_ne (by omega), e3, w2_ne (by omega), e2, w2_ne (by omega), e1, w2_ne (by omega), e0, w2_ne (by omega)])
  have hz : ∀ g, 12 ≤ g → g < 16 → ivz (B + 9) g = 0 := fun g g1 g2 => by rw [ez, w2_ne (by omega), e3, w2_ne (by omega), e2, w2_ne (by omega), e1, w2_ne (by omega), e0, w2_ne (by omega), fr _ _ (by omega) (by omega) (by omega)]; exact H.2 g g1 g2
  have eS : sft B ivz 80 10 = R 1 10 + 1 := by show ivz B 10 = _; rw [ez, w2_eq]; omega
  have uo : ∀ k j, 80 ≤ k ∧ k ≤ 106 ∧ ¬ (k = 80 ∧ j = 12) ∧ ¬ ((k = 80 ∧ j = 10) ∨ (96 ≤ k ∧ k ≤ 99 ∧ j = x)) → sft B ivz k j = sft B iv0 k j := fun k j q => by show ivz (B + (k - 80)) j = iv0 (B + (k - 80)) j; rw [ez, w2_ne (by omega), e3, w2_ne (by omega), e2, w2_ne (by omega), e1, w2_ne (by omega), e0, w2_ne (by omega), fr _ _ (by omega) (by omega) (by omega)]
  obtain ⟨fe, fo, f17⟩ := f_law (R := R) (x := x) (v17 := lwb (up1 (up1 (up1 (up1 (fun _ => 0) 0 s1.1) 1 s2.1) 2 s3.1) 3 s4.1)) ⟨by omega, by omega⟩ rfl
  have u0 : sft B ivz 96 x = s1.1 := by show ivz (B + 16) x = _; rw [ez, w2_ne (by omega), e3, w2_ne (by omega), e2, w2_ne (by omega), e1, w2_ne (by omega), e0, w2_eq]
  have u1 : sft B ivz 97 x = s2.1 := by show ivz (B + 17) x = _; rw [ez, w2_ne (by omega), e3, w2_ne (by omega), e2, w2_ne (by omega), e1, w2_eq]
  have u2 : sft B ivz 98 x = 1 - s3.1 := by show ivz (B + 18) x = _; rw [ez, w2_ne (by omega), e3, w2_ne (by omega), e2, w2_eq]
  have u3 : sft B ivz 99 x = 1 - s4.1 := by show ivz (B + 19) x = _; rw [ez, w2_ne (by omega), e3, w2_eq]
  have lw : lwb (up1 (up1 (up1 (up1 (fun _ => 0) 0 s1.1) 1 s2.1) 2 s3.1) 3 s4.1) = s1.1 + 2 * s2.1 + 4 * s3.1 + 8 * s4.1 := lwb_eq (t := up1 (up1 (up1 (up1 (fun _ => 0) 0 s1.1) 1 s2.1) 2 s3.1) 3 s4.1) bs1 bs2 bs3 bs4
  replace f17 := f17.trans lw
  exact hS _ p ivz fB Mz ⟨n_law H.1 W (cap3 N) ⟨by omega, room⟩ hx fe eS fo uo (by rw [u0, u1, u2, u3]; exact ⟨bs1, bs2, by omega, by omega, f17.trans (by omega)⟩), hz⟩
theorem o_edge {B : Nat} {w : Int} {iv : IV} {rv : RV} {K : IV → Prop} (hg : gR rv 66 4 = B) (hh : hMm rv 66 4) (o : iv 66 9 = 5) (hm : 0 ≤ iv B 12 ∧ iv B 12 ≤ 51) (h : K iv) : wp_X12_readEdge w iv rv K :=
  o_use hg hh o hm (fun _ => o_needs o (o_other hg hh o hm (fun _ => o_needs o (o_whole o (fun _ => ⟨fun y => absurd o y, fun _ => h⟩)))))
theorem m_edge {B : Nat} {b : Nat → Int} {n a m l : Nat} {w : Int} {c so nu : F1} {iv0 iv : IV} {rv : RV} {K : IV → Prop} {F : Int → Nat → Prop} {S : Int × Int × Int × Nat → Prop} (hB : 80 ≤ B) (hg : gR rv 66 4 = B) (hh : hMm rv 66 4) (hl : l < 20) (el : iv0 B 13 = (l : Nat)) (p : pw_use b n c so nu m 0 0 a F (fun v0 => pw_word b n 48 v0.2.1 F (fun v1 => pw_use b n c so nu m 0 0 v1 F (fun v2 => pw_differ v2.1 v0.1 v2.2.2 F (fun _ => pw_word b n 23 v2.2.1 F (fun v4 => pw_whole b n 1 99 v4 F (fun v5 => S (v0.1, v2.1, v5.1, v5.2)))))))) (fr : FrN B iv0 iv) (M : MR B b n a m c so nu iv) (hO : FlM F B iv0 K) (hS : ∀ q, S q → ∀ iv' : IV, (∀ k j, ¬ (k = B ∧ (j = 12 ∨ j = 13)) → ¬ (B + 27 ≤ k ∧ k ≤ B + 29) → ¬ (k = 66 ∧ 8 ≤ j ∧ j ≤ 14) → ¬ (B + 3 ≤ k ∧ k ≤ B + 6 ∧ j = l) → iv' k j = iv0 k j) → iv' (B + 3) l = q.1 → iv' (B + 4) l = q.2.1 → iv' (B + 5) l = q.2.2.1 → iv' (B + 6) l = w → iv' B 13 = (l : Nat) + 1 → MR B b n q.2.2.2 m c so nu iv' → K iv') : wp_X12_readEdge w iv rv K := by
  unfold wp_X12_readEdge
  rw [hg]
  refine r_use (lo := 0) (hi := 0) hB hg hh so0 p fr M (fun _ _ f iv' o _ => o_needs o.2.1 (o_other hg hh o.2.1 o.2.2.2.2 (fun _ => o_needs o.2.1 (o_whole o.2.1 (fun _ => ⟨fun y => absurd o.2.1 y, fun _ => hO _ _ f iv' o⟩))))) (fun s0 p iv fr M => r_needs hB (by omega) rfl p fr M (fun _ _ f iv' o => o_other hg hh o.2.1 o.2.2.2.2 (fun _ => o_needs o.2.1 (o_whole o.2.1 (fun _ => ⟨fun y => absurd o.2.1 y, fun _ => hO _ _ f iv' o⟩)))) (fun s1 p iv fr M => r_other hB hg hh p fr M (fun _ _ f iv' o _ => o_needs o.2.1 (o_whole o.2.1 (fun _ => ⟨fun y => absurd o.2.1 y, fun _ => hO _ _ f iv' o⟩))) (fun s2 p iv fr M => r_needs hB (by omega) rfl p fr M (fun _ _ f iv' o => o_whole o.2.1 (fun _ => ⟨fun y => absurd o.2.1 y, fun _ => hO _ _ f iv' o⟩)) (fun s3 p iv fr M => r_whole hB p fr M (fun _ _ f iv' o _ => ⟨fun y => absurd o.2.1 y, fun _ => hO _ _ f iv' o⟩) (fun s4 p iv fr M => ?_)))))
  have ex : iv B 13 = (l : Nat) := by rw [fr _ _ (by omega) (by omega) (by omega), el]
  refine ⟨fun _ => ⟨hh, ?_⟩, fun y => absurd y M.n5⟩
  refine ⟨⟨by omega, by omega⟩, fun iu0 e0 => ?_⟩
  rw [ex, Int.toNat_natCast] at e0
  have x0 : iu0 B 13 = (l : Nat) := by rw [e0, w2_ne (by omega)]; exact ex
  refine ⟨⟨by omega, by omega⟩, fun iu1 e1 => ?_⟩
  rw [x0, Int.toNat_natCast] at e1
  have x1 : iu1 B 13 = (l : Nat) := by rw [e1, w2_ne (by omega)]; exact x0
  refine ⟨⟨by omega, by omega⟩, fun iu2 e2 => ?_⟩
  rw [x1, Int.toNat_natCast] at e2
  have x2 : iu2 B 13 = (l : Nat) := by rw [e2, w2_ne (by omega)]; exact x1
  refine ⟨⟨by omega, by omega⟩, fun iu3 e3 => ?_⟩
  rw [x2, Int.toNat_natCast] at e3
  have x3 : iu3 B 13 = (l : Nat) := by rw [e3, w2_ne (by omega)]; exact x2
  intro ivz ez
  rw [x3, w32_id (by omega) (by omega)] at ez
  exact hS _ p ivz (fun k j q1 q2 q3 q4 => by rw [ez, w2_ne (by omega), e3, w2_ne (by omega), e2, w2_ne (by omega), e1, w2_ne (by omega), e0, w2_ne (by omega)]; exact fr k j (by omega) q2 q3) (by rw [ez, w2_ne (by omega), e3, w2_ne (by omega), e2, w2_ne (by omega), e1, w2_ne (by omega), e0, w2_eq]) (by rw [ez, w2_ne (by omega), e3, w2_ne (by omega), e2, w2_ne (by omega), e1, w2_eq]) (by rw [ez, w2_ne (by omega), e3, w2_ne (by omega), e2, w2_eq]) (by rw [ez, w2_ne (by omega), e3, w2_eq]) (by rw [ez, w2_eq]) (M.congr (fun k j q => by rw [ez, w2_ne (by omega), e3, w2_ne (by omega), e2, w2_ne (by omega), e1, w2_ne (by omega), e0, w2_ne (by omega)]))
theorem m_road {B : Nat} {b : Nat → Int} {n a m x l ta : Nat} {c so nu : F1} {R iv0 : IV} {rv : RV} {K : IV → Prop} {F : Int → Nat → Prop} {S : Ps → Prop} (hB : 80 ≤ B) (hg : gR rv 66 4 = B) (hh : hMm rv 66 4) (N : NI m so nu R) (W : RW R) (k1 : kd b n a = 1) (hx : R 1 3 = (x : Nat)) (hl : R 1 3 + R 1 4 = (l : Nat)) (p5 : ¬ (R 1 3 < roomL.getD 3 0) → F 5 (st b n a)) (p : R 1 3 < roomL.getD 3 0 → pl_road b n m c so nu R x l ta (nx b n a) F S) (M : MR B b n a m c so nu iv0) (H : MH B R iv0) (hO : FlM F B iv0 K) (hS : ∀ v, S v → Okm B b n iv0 K (bump 3 v)) : wp_X12_readRoad iv0 rv K := by
  have cp := N.cap
  have hm := N.1
  have ec : iv0 B 3 = R 1 3 := H.1.1 3 (by omega)
  have el : iv0 B 13 = (l : Nat) := by rw [← hl]; exact H.1.2.1.1
  unfold wp_X12_readRoad
  rw [hg]
  refine ⟨hh, ?_⟩
  rw [ec]
  refine r_begins (F := F) hB k1 (by omega) p5 (fun _ _ _ _ _ => rfl) M (fun _ _ f iv' o => o_edge hg hh o.2.1 o.2.2.2.2 ⟨fun _ => hO _ _ f iv' o, fun y => absurd o.2.1 y⟩) (fun room iv fr M => ?_)
  replace p := p room
  replace room : R 1 3 < 12 := room
  refine m_edge (l := l) (S := fun q => S (q.2.2.2, m, c, so, nu, (w2 (w2 (w2 (w2 R 4 l q.1) 5 l q.2.1) 6 l q.2.2.1) 7 l (-1)))) hB hg hh (by omega) el p fr M (fun _ _ f iv' o => ⟨fun _ => hO _ _ f iv' o, fun y => absurd o.2.1 y⟩) (fun q p iv fd d3 d4 d5 d6 d13 M => ?_)
  refine ⟨fun y => absurd y M.n5, fun _ ivz ez => ?_⟩
  have ex : iv B 3 = (x : Nat) := by rw [fd _ _ (by omega) (by omega) (by omega) (by omega), ec, hx]
  rw [ex, w32_id (by omega) (by omega)] at ez
  have fB : FrB B iv0 ivz := fun k j q1 q2 => by rw [ez, w2_ne (by omega)]; exact fd k j (by omega) (by omega) (by omega) (by omega)
  have Mz := M.congr (iv' := ivz) (fun k j q => by rw [ez, w2_ne (by omega)])
  have hz : ∀ g, 12 ≤ g → g < 16 → ivz (B + 9) g = 0 := fun g g1 g2 => by rw [ez, w2_ne (by omega), fd _ _ (by omega) (by omega) (by omega) (by omega)]; exact H.2 g g1 g2
  have eS : sft B ivz 80 3 = R 1 3 + 1 := by show ivz B 3 = _; rw [ez, w2_eq]; omega
  have uo : ∀ k j, 80 ≤ k ∧ k ≤ 106 ∧ ¬ (k = 80 ∧ j = 12) ∧ ¬ ((k = 80 ∧ j = 3) ∨ (k = 80 ∧ j = 13) ∨ (k = 83 ∧ j = l) ∨ (k = 84 ∧ j = l) ∨ (k = 85 ∧ j = l) ∨ (k = 86 ∧ j = l)) → sft B ivz k j = sft B iv0 k j := fun k j q => by show ivz (B + (k - 80)) j = iv0 (B + (k - 80)) j; rw [ez, w2_ne (by omega), fd _ _ (by omega) (by omega) (by omega) (by omega)]
  obtain ⟨fe, fo, f4, f5, f6, f7⟩ := f_road (R := R) (l := l) (v4 := q.1) (v5 := q.2.1) (v6 := q.2.2.1) (v7 := -1) ⟨by omega, by omega⟩ rfl
  exact hS _ p ivz fB Mz ⟨n_road H.1 W (cap3 N) ⟨by omega, room⟩ hx hl (by show ivz B 13 = _; rw [ez, w2_ne (by omega), d13]; omega) fe eS fo uo f4 (by show ivz (B + 3) l = _; rw [ez, w2_ne (by omega), d3]) f5 (by show ivz (B + 4) l = _; rw [ez, w2_ne (by omega), d4]) f6 (by show ivz (B + 5) l = _; rw [ez, w2_ne (by omega), d5]) f7 (by show ivz (B + 6) l = _; rw [ez, w2_ne (by omega), d6]), hz⟩
theorem m_bridge {B : Nat} {b : Nat → Int} {n a m x l ta : Nat} {c so nu : F1} {R iv0 : IV} {rv : RV} {K : IV → Prop} {F : Int → Nat → Prop} {S : Ps → Prop} (hB : 80 ≤ B) (hg : gR rv 66 4 = B) (hh : hMm rv 66 4) (N : NI m so nu R) (W : RW R) (k1 : kd b n a = 1) (hx : R 1 4 = (x : Nat)) (hl : R 1 3 + R 1 4 = (l : Nat)) (p5 : ¬ (R 1 4 < roomL.getD 4 0) → F 5 (st b n a)) (p : R 1 4 < roomL.getD 4 0 → pl_bridge b n m c so nu R x l ta (nx b n a) F S) (M : MR B b n a m c so nu iv0) (H : MH B R iv0) (hO : FlM F B iv0 K) (hS : ∀ v, S v → Okm B b n iv0 K (bump 4 v)) : wp_X12_readBridge iv0 rv K := by
  have cp := N.cap
  have hm := N.1
  have ec : iv0 B 4 = R 1 4 := H.1.1 4 (by omega)
  have el : iv0 B 13 = (l : Nat) := by rw [← hl]; exact H.1.2.1.1
  unfold wp_X12_readBridge
  rw [hg]
  refine ⟨hh, ?_⟩
  rw [ec]
  refine r_begins (F := F) hB k1 (by omega) p5 (fun _ _ _ _ _ => rfl) M (fun _ _ f iv' o => o_fresh hg hh o.2.1 o.2.2.2.2 (o_needs o.2.1 (o_edge hg hh o.2.1 o.2.2.2.2 ⟨fun _ => hO _ _ f iv' o, fun y => absurd o.2.1 y⟩))) (fun room iv fr M => ?_)
  replace p := p room
  replace room : R 1 4 < 8 := room
  have ex : iv B 4 = (x : Nat) := by rw [fr _ _ (by omega) (by omega) (by omega), ec, hx]
  rw [ex]
  refine r_fresh (s := 4) (num := ((x : Nat) : Int)) hB hg hh (by decide) (by omega) p fr M (fun _ _ f iv' o => o_needs o.2.1 (o_edge hg hh o.2.1 o.2.2.2.2 ⟨fun _ => hO _ _ f iv' o, fun y => absurd o.2.1 y⟩)) (fun s0 p iv fr M => r_needs hB (by omega) rfl p fr M (fun _ _ f iv' o => o_edge hg hh o.2.1 o.2.2.2.2 ⟨fun _ => hO _ _ f iv' o, fun y => absurd o.2.1 y⟩) (fun s1 p iv fr M => ?_))
  clear ex
  have ex : iv B 4 = (x : Nat) := by rw [fr _ _ (by omega) (by omega) (by omega), ec, hx]
  rw [ex]
  refine m_edge (l := l) (S := fun q => S (q.2.2.2, (m + 1), (up1 c m s0.1), (up1 so m 4), (up1 nu m ((x : Nat) : Int)), (w2 (w2 (w2 (w2 R 4 l q.1) 5 l q.2.1) 6 l q.2.2.1) 7 l ((x : Nat) : Int)))) hB hg hh (by omega) el p fr M (fun _ _ f iv' o => ⟨fun _ => hO _ _ f iv' o, fun y => absurd o.2.1 y⟩) (fun q p iv fd d3 d4 d5 d6 d13 M => ?_)
  refine ⟨fun y => absurd y M.n5, fun _ ivz ez => ?_⟩
  have ex : iv B 4 = (x : Nat) := by rw [fd _ _ (by omega) (by omega) (by omega) (by omega), ec, hx]
  rw [ex, w32_id (by omega) (by omega)] at ez
  have fB : FrB B iv0 ivz := fun k j q1 q2 => by rw [ez, w2_ne (by omega)]; exact fd k j (by omega) (by omega) (by omega) (by omega)
  have Mz := M.congr (iv' := ivz) (fun k j q => by rw [ez, w2_ne (by omega)])
  have hz : ∀ g, 12 ≤ g → g < 16 → ivz (B + 9) g = 0 := fun g g1 g2 => by rw [ez, w2_ne (by omega), fd _ _ (by omega) (by omega) (by omega) (by omega)]; exact H.2 g g1 g2
  have eS : sft B ivz 80 4 = R 1 4 + 1 := by show ivz B 4 = _; rw [ez, w2_eq]; omega
  have uo : ∀ k j, 80 ≤ k ∧ k ≤ 106 ∧ ¬ (k = 80 ∧ j = 12) ∧ ¬ ((k = 80 ∧ j = 4) ∨ (k = 80 ∧ j = 13) ∨ (k = 83 ∧ j = l) ∨ (k = 84 ∧ j = l) ∨ (k = 85 ∧ j = l) ∨ (k = 86 ∧ j = l)) → sft B ivz k j = sft B iv0 k j := fun k j q => by show ivz (B + (k - 80)) j = iv0 (B + (k - 80)) j; rw [ez, w2_ne (by omega), fd _ _ (by omega) (by omega) (by omega) (by omega)]
  obtain ⟨fe, fo, f4, f5, f6, f7⟩ := f_bridge (R := R) (l := l) (v4 := q.1) (v5 := q.2.1) (v6 := q.2.2.1) (v7 := ((x : Nat) : Int)) ⟨by omega, by omega⟩ rfl
  exact hS _ p ivz fB Mz ⟨n_bridge H.1 W (cap3 N) ⟨by omega, room⟩ hx hl (by show ivz B 13 = _; rw [ez, w2_ne (by omega), d13]; omega) fe eS fo uo f4 (by show ivz (B + 3) l = _; rw [ez, w2_ne (by omega), d3]) f5 (by show ivz (B + 4) l = _; rw [ez, w2_ne (by omega), d4]) f6 (by show ivz (B + 5) l = _; rw [ez, w2_ne (by omega), d5]) f7 (by show ivz (B + 6) l = _; rw [ez, w2_ne (by omega), d6]), hz⟩
