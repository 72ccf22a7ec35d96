/-! THE READER: a line of the class -/
def pl_name (b : Nat → Int) (n m : Nat) (c so nu : F1) (R : IV) (s x a : Nat) (F : Int → Nat → Prop) (S : Ps → Prop) : Prop := pw_new b n c m a F (fun v => S (v.2, m + 1, up1 c m v.1, up1 so m (s : Nat), up1 nu m (x : Nat), R))
def pl_lost (b : Nat → Int) (n m : Nat) (c so nu : F1) (R : IV) (a : Nat) (F : Int → Nat → Prop) (S : Ps → Prop) : Prop := pw_use b n c so nu m 5 7 a F (fun v => pw_loss b n R v.1.toNat v.2.2 v.2.1 F (fun q => S (q.2, m, c, so, nu, q.1)))
def pl_body (b : Nat → Int) (n m : Nat) (c so nu : F1) (R : IV) (r x l a : Nat) (F : Int → Nat → Prop) (S : Ps → Prop) : Prop :=
  match r with
  | 0 => pl_name b n m c so nu R 0 x a F S
  | 1 => pl_name b n m c so nu R 1 x a F S
  | 2 => pl_man b n m c so nu R x l 0 a F S
  | 3 => pl_road b n m c so nu R x l 0 a F S
  | 4 => pl_bridge b n m c so nu R x l 0 a F S
  | 5 => pl_take b n m c so nu R x l 0 a F S
  | 6 => pl_free b n m c so nu R x l 0 a F S
  | 7 => pl_as b n m c so nu R x l 0 a F S
  | 8 => pl_renew b n m c so nu R x l 0 a F S
  | 9 => pl_lost b n m c so nu R a F S
  | 10 => pl_law b n m c so nu R x l 0 a F S
  | _ => pl_cart b n m c so nu R x l 0 a F S
def rs (b : Nat → Int) (n a : Nat) : Int := if kd b n a = 1 then amg (co b n a) (bs 40) 0 0 else -1
def bump (r : Nat) (v : Ps) : Ps := (v.1, v.2.1, v.2.2.1, v.2.2.2.1, v.2.2.2.2.1, w2 v.2.2.2.2.2 1 r (w32 (v.2.2.2.2.2 1 r + 1)))
def pl_line (b : Nat → Int) (n : Nat) (v : Ps) (a : Nat) (F : Int → Nat → Prop) (S : Ps → Prop) : Prop := (¬ (0 ≤ rs b n a ∧ rs b n a < 12) → F 1 (st b n a)) ∧ (0 ≤ rs b n a ∧ rs b n a < 12 → ¬ (v.2.2.2.2.2 1 (rs b n a).toNat < roomL.getD (rs b n a).toNat 0) → F 5 (st b n a)) ∧ (0 ≤ rs b n a ∧ rs b n a < 12 → v.2.2.2.2.2 1 (rs b n a).toNat < roomL.getD (rs b n a).toNat 0 → pl_body b n v.2.1 v.2.2.1 v.2.2.2.1 v.2.2.2.2.1 v.2.2.2.2.2 (rs b n a).toNat (v.2.2.2.2.2 1 (rs b n a).toNat).toNat (v.2.2.2.2.2 1 3 + v.2.2.2.2.2 1 4).toNat (nx b n a) F (fun u => S (bump (rs b n a).toNat u)))
/-- the names that are told, and their numbers -/
def NI (m : Nat) (so nu : F1) (R : IV) : Prop := (m : Int) = R 1 0 + R 1 1 + R 1 2 + R 1 4 + R 1 5 + R 1 6 + R 1 7 + R 1 10 + R 1 11 ∧ (∀ s, s < 12 → 0 ≤ R 1 s ∧ R 1 s ≤ roomL.getD s 0) ∧ (∀ j, j < m → 0 ≤ nu j ∧ (so j = 0 → nu j < R 1 0) ∧ (so j = 1 → nu j < R 1 1) ∧ (so j = 2 → nu j < R 1 2) ∧ (so j = 4 → nu j < R 1 4) ∧ (so j = 5 → nu j < R 1 5) ∧ (so j = 6 → 6 ≤ nu j ∧ nu j < 6 + R 1 6) ∧ (so j = 7 → 12 ≤ nu j ∧ nu j < 12 + R 1 7))
theorem pw_use.rng {b : Nat → Int} {n a m lo hi : Nat} {c so nu : F1} {F : Int → Nat → Prop} {S : Int × Nat × Nat → Prop} (h : pw_use b n c so nu m lo hi a F S) : pw_use b n c so nu m lo hi a F (fun v => S v ∧ ∃ j, j < m ∧ (lo : Int) ≤ so j ∧ so j ≤ (hi : Int) ∧ v.1 = nu j) := by
  refine ⟨h.1, h.2.1, fun q r => ⟨h.2.2 q r, ?_⟩⟩
  rcases ixf_ok (c := c) (cd := co b n a) m 0 with ⟨i1, i2⟩ | ⟨j, i1, i2, i3, i4⟩
  · have := r.1
    rw [i1] at this
    exact absurd this (by decide)
  · have e : (ixf c (co b n a) m 0).toNat = j := by rw [i1]; exact Int.toNat_natCast j
    have r2 := r.2
    rw [e] at r2
    exact ⟨j, by omega, r2.1, r2.2, by rw [e]⟩
theorem NI.cap {m : Nat} {so nu : F1} {R : IV} (N : NI m so nu R) : 0 ≤ R 1 0 ∧ R 1 0 ≤ 8 ∧ 0 ≤ R 1 1 ∧ R 1 1 ≤ 4 ∧ 0 ≤ R 1 2 ∧ R 1 2 ≤ 6 ∧ 0 ≤ R 1 3 ∧ R 1 3 ≤ 12 ∧ 0 ≤ R 1 4 ∧ R 1 4 ≤ 8 ∧ 0 ≤ R 1 5 ∧ R 1 5 ≤ 6 ∧ 0 ≤ R 1 6 ∧ R 1 6 ≤ 6 ∧ 0 ≤ R 1 7 ∧ R 1 7 ≤ 4 ∧ 0 ≤ R 1 8 ∧ R 1 8 ≤ 4 ∧ 0 ≤ R 1 9 ∧ R 1 9 ≤ 4 ∧ 0 ≤ R 1 10 ∧ R 1 10 ≤ 3 ∧ 0 ≤ R 1 11 ∧ R 1 11 ≤ 6 := by
  have q := N.2.1
  exact ⟨(q 0 (by omega)).1, (q 0 (by omega)).2, (q 1 (by omega)).1, (q 1 (by omega)).2, (q 2 (by omega)).1, (q 2 (by omega)).2, (q 3 (by omega)).1, (q 3 (by omega)).2, (q 4 (by omega)).1, (q 4 (by omega)).2, (q 5 (by omega)).1, (q 5 (by omega)).2, (q 6 (by omega)).1, (q 6 (by omega)).2, (q 7 (by omega)).1, (q 7 (by omega)).2, (q 8 (by omega)).1, (q 8 (by omega)).2, (q 9 (by omega)).1, (q 9 (by omega)).2, (q 10 (by omega)).1, (q 10 (by omega)).2, (q 11 (by omega)).1, (q 11 (by omega)).2⟩
theorem l_name {b : Nat → Int} {n a m x h s : Nat} {t0 : Int} {c so nu : F1} {R iv0 iv : IV} {rv : RV} {K : Int → IV → Prop} {F : Int → Nat → Prop} {S : Ps → Prop} (hh : h = 2 ∨ h = 21) (hs : s < 2) (hm : m < 51) (p : pl_name b n m c so nu R s x a F S) (hF : Fl F iv0 (K 0)) (fr : FrR iv0 iv) (C : CR b n a m c so nu iv) (H : CHr h R iv0) (D : CT 0 (fun _ => 0) t0 iv) (hS : ∀ v, S v → Okr b n h iv0 (K 1) v) : wp_X4_landLine s x iv rv K := by
  refine ⟨fun _ => c_new C D hm ⟨fun q iv' f e1 e2 => hF _ _ (p.1 q) iv' (fr.tr f) e1 e2, fun q q2 iv' f e1 e2 => hF _ _ (p.2.1 q q2) iv' (fr.tr f) e1 e2, fun q q2 iv' f C' D' => fin hh (fr.tr f) C' (fun _ _ _ => rfl) (H.congr hh (fr.tr f)) (hS _ (p.2.2 q q2))⟩, fun y => by omega, fun y => by omega, fun y => by omega⟩
theorem l_lost {b : Nat → Int} {n a m x h : Nat} {t0 : Int} {c so nu : F1} {R iv0 iv : IV} {rv : RV} {K : Int → IV → Prop} {F : Int → Nat → Prop} {S : Ps → Prop} (hh : h = 2 ∨ h = 21) (hr : gR rv 40 5 = h) (N : NI m so nu R) (p : pl_lost b n m c so nu R a F S) (hF : Fl F iv0 (K 0)) (fr : FrR iv0 iv) (C : CR b n a m c so nu iv) (H : CHr h R iv0) (D : CT 0 (fun _ => 0) t0 iv) (hS : ∀ v, S v → Okr b n h iv0 (K 1) v) : wp_X4_paperLine 9 x iv rv K := by
  have cp := N.cap
  refine ⟨fun y => absurd y (by decide), fun y => absurd y (by decide), fun y => absurd y (by decide), fun y => absurd y (by decide), fun y => absurd y (by decide), fun _ => ?_, fun y => absurd y (by decide)⟩
  refine q_use (lo := 5) (hi := 7) (by omega) (fun j hj => (N.2.2 j hj).1) (pw_use.rng p) hF fr C D (fun v p iv1 fr1 C1 D1 => ?_)
  obtain ⟨p, j, hj, s5, s7, ev⟩ := p
  have nj := N.2.2 j hj
  have g16 : 0 ≤ v.1 ∧ v.1 < 16 := by
    rw [ev]
    obtain ⟨n0, -, -, -, -, n5, n6, n7⟩ := nj
    rcases (show so j = 5 ∨ so j = 6 ∨ so j = 7 by omega) with z | z | z
    · have := n5 z; omega
    · have := n6 z; omega
    · have := n7 z; omega
  have e0 : iv1 45 0 = ((v.1.toNat : Nat) : Int) := by rw [D1.2.1 0 (by omega)]; show v.1 = _; omega
  rw [e0]
  exact k_loss hh hr (by omega) p hF fr1 C1 (H.congr hh fr1) D1 (fun q s iv2 f C2 H2 => hS _ s iv2 (fun k j q1 q2 => by rw [f _ _ q2 q1, fr1 _ _ q1]) C2 H2)
theorem l_body {b : Nat → Int} {n a m r x h : Nat} {t0 : Int} {c so nu : F1} {R iv0 iv : IV} {rv : RV} {K : Int → IV → Prop} {F : Int → Nat → Prop} {S : Ps → Prop} (hh : h = 2 ∨ h = 21) (hr : gR rv 40 5 = h) (N : NI m so nu R) (h12 : r < 12) (hx : R 1 r = (x : Nat)) (hx2 : R 1 r < roomL.getD r 0) (p : pl_body b n m c so nu R r x (R 1 3 + R 1 4).toNat a F S) (hF : Fl F iv0 (K 0)) (fr : FrR iv0 iv) (C : CR b n a m c so nu iv) (H : CHr h R iv0) (D : CT 0 (fun _ => 0) t0 iv) (hS : ∀ v, S v → Okr b n h iv0 (K 1) v) : ((5 ≤ (r : Int)) → wp_X4_paperLine r x iv rv K) ∧ ((¬ (5 ≤ (r : Int))) → wp_X4_landLine r x iv rv K) := by
  have cp := N.cap
  have hm := N.1
  have hnu : ∀ j, j < m → 0 ≤ nu j := fun j hj => (N.2.2 j hj).1
  rcases (show r = 0 ∨ r = 1 ∨ r = 2 ∨ r = 3 ∨ r = 4 ∨ r = 5 ∨ r = 6 ∨ r = 7 ∨ r = 8 ∨ r = 9 ∨ r = 10 ∨ r = 11 by omega) with z | z | z | z | z | z | z | z | z | z | z | z <;> subst z
  · replace hx2 : R 1 0 < 8 := hx2
    exact ⟨fun y => absurd y (by decide), fun _ => l_name (s := 0) hh (by omega) (by omega) p hF fr C H D hS⟩
  · replace hx2 : R 1 1 < 4 := hx2
    exact ⟨fun y => absurd y (by decide), fun _ => l_name (s := 1) hh (by omega) (by omega) p hF fr C H D hS⟩
  · replace hx2 : R 1 2 < 6 := hx2
    exact ⟨fun y => absurd y (by decide), fun _ => l_man hh hr (by omega) (by omega) hnu (show pl_man b n m c so nu R x (R 1 3 + R 1 4).toNat 0 a F S from p) hF fr C H D hS⟩
  · replace hx2 : R 1 3 < 12 := hx2
    exact ⟨fun y => absurd y (by decide), fun _ => l_road hh hr (by omega) (by omega) hnu (show pl_road b n m c so nu R x (R 1 3 + R 1 4).toNat 0 a F S from p) hF fr C H D hS⟩
  · replace hx2 : R 1 4 < 8 := hx2
    exact ⟨fun y => absurd y (by decide), fun _ => l_bridge hh hr (by omega) (by omega) (by omega) hnu (show pl_bridge b n m c so nu R x (R 1 3 + R 1 4).toNat 0 a F S from p) hF fr C H D hS⟩
  · replace hx2 : R 1 5 < 6 := hx2
    exact ⟨fun _ => l_take hh hr (by omega) (by omega) hnu (show pl_take b n m c so nu R x (R 1 3 + R 1 4).toNat 0 a F S from p) hF fr C H D hS, fun y => absurd (by decide) y⟩
  · replace hx2 : R 1 6 < 6 := hx2
    exact ⟨fun _ => l_free hh hr (by omega) (by omega) hnu (show pl_free b n m c so nu R x (R 1 3 + R 1 4).toNat 0 a F S from p) hF fr C H D hS, fun y => absurd (by decide) y⟩
  · replace hx2 : R 1 7 < 4 := hx2
    exact ⟨fun _ => l_as hh hr (by omega) (by omega) hnu (show pl_as b n m c so nu R x (R 1 3 + R 1 4).toNat 0 a F S from p) hF fr C H D hS, fun y => absurd (by decide) y⟩
  · replace hx2 : R 1 8 < 4 := hx2
    exact ⟨fun _ => l_renew hh hr (by omega) hnu (show pl_renew b n m c so nu R x (R 1 3 + R 1 4).toNat 0 a F S from p) hF fr C H D hS, fun y => absurd (by decide) y⟩
  · exact ⟨fun _ => l_lost hh hr N p hF fr C H D hS, fun y => absurd (by decide) y⟩
  · replace hx2 : R 1 10 < 3 := hx2
    exact ⟨fun _ => l_law hh hr (by omega) (by omega) hnu (show pl_law b n m c so nu R x (R 1 3 + R 1 4).toNat 0 a F S from p) hF fr C H D hS, fun y => absurd (by decide) y⟩
  · replace hx2 : R 1 11 < 6 := hx2
    exact ⟨fun _ => l_cart hh hr (by omega) (by omega) hnu (show pl_cart b n m c so nu R x (R 1 3 + R 1 4).toNat 0 a F S from p) hF fr C H D hS, fun y => absurd (by decide) y⟩
/-- a fault, told, the realm that is read aside -/
def FlQ (F : Int → Nat → Prop) (h : Nat) (iv0 : IV) (K0 : IV → Prop) : Prop := ∀ (k : Int) (p : Nat), F k p → ∀ iv' : IV, FrQ h iv0 iv' → iv' 40 6 = k → iv' 40 7 = (p : Nat) → K0 iv'
theorem FrR.q {h : Nat} {iv iv' : IV} (f : FrR iv iv') : FrQ h iv iv' := fun k j q _ => f k j q
theorem l_line {b : Nat → Int} {n a m h : Nat} {c so nu : F1} {R iv : IV} {rv : RV} {K : Int → IV → Prop} {F : Int → Nat → Prop} {S : Ps → Prop} (hh : h = 2 ∨ h = 21) (hr : gR rv 40 5 = h) (N : NI m so nu R) (p : pl_line b n (a, m, c, so, nu, R) a F S) (C : CR b n a m c so nu iv) (H : CHr h R iv) (hF : FlQ F h iv (K 0)) (hS : ∀ v, S v → Okr b n h iv (K 1) v) : wp_X4_readLine iv rv K := by
  have t := C.2.2.2.1
  have cp := N.cap
  have go : ∀ r : Int, r = rs b n a → (((r < 0) → (bd_X4_readLine_22 iv rv K)) ∧ ((¬ (r < 0)) → (((r < 12) → ((0 ≤ r ∧ r < 12) ∧ ∀ x5, x5 = iv (gR rv 40 5 + 1) r.toNat → (0 ≤ r ∧ r < 12) ∧ ((x5 < (roomL.getD r.toNat 0)) → (wp_X7_advance iv rv (fun iv8 => ∀ iv9, iv9 = w2 iv8 40 3 0 → ((5 ≤ r) → (wp_X4_paperLine r x5 iv9 rv (fun r11 iv12 => bd_X4_readLine_85 r r11 iv12 rv K))) ∧ ((¬ (5 ≤ r)) → (wp_X4_landLine r x5 iv9 rv (fun r13 iv14 => bd_X4_readLine_85 r r13 iv14 rv K)))))) ∧ ((¬ (x5 < (roomL.getD r.toNat 0))) → (wp_X4_failHere 5 iv rv (fun r15 iv16 => K r15 iv16))))) ∧ ((¬ (r < 12)) → (bd_X4_readLine_22 iv rv K))))) := by
    intro r er
    unfold pl_line at p
    rw [← er] at p
    refine ⟨fun y => c_fail C (fun iv' f e1 e2 => hF _ _ (p.1 (fun q => by omega)) iv' f.q e1 e2), fun y0 => ⟨fun y => ⟨⟨by omega, by omega⟩, fun x5 e5 => ⟨⟨by omega, by omega⟩, fun z => ?_, fun z => ?_⟩⟩, fun y => c_fail C (fun iv' f e1 e2 => hF _ _ (p.1 (fun q => by omega)) iv' f.q e1 e2)⟩⟩
    · obtain ⟨r, rfl⟩ := Int.eq_ofNat_of_zero_le (show 0 ≤ r by omega)
      rw [Int.toNat_natCast] at e5 z
      rw [hr, H 1 r (by omega)] at e5
      have p3 := p.2.2 ⟨by omega, by omega⟩
      rw [Int.toNat_natCast] at p3
      replace p3 := p3 (show R 1 r < _ by rw [← e5]; exact z)
      have k4 : kd b n a ≠ 4 := fun q => by
        have : rs b n a = -1 := if_neg (by rw [q]; decide)
        omega
      have r0 := (N.2.1 r (by omega)).1
      obtain ⟨x, ex⟩ := Int.eq_ofNat_of_zero_le r0
      rw [ex] at e5
      subst e5
      have q : pl_body b n m c so nu R r (R 1 r).toNat (R 1 3 + R 1 4).toNat (nx b n a) F (fun u => S (bump r u)) := p3
      rw [ex, Int.toNat_natCast] at q
      refine c_adv C k4 (fun iv8 f8 C8 iv9 e9 => ?_)
      have f9 : FrR iv iv9 := fun k j q => by rw [e9, w2_ne (by omega), f8 _ _ (by omega)]
      have C9 := C8.congr (iv' := iv9) fun k j q => by rw [e9, w2_ne (by omega)]
      have D9 : CT 0 (fun _ => 0) (iv9 40 4) iv9 := ⟨by rw [e9, w2_eq]; rfl, fun j hj => absurd hj (Nat.not_lt_zero j), rfl⟩
      refine l_body (x := x) hh hr N (by omega) ex (by rw [ex]; exact z) q (fun k p' f iv' fr e1 e2 => ⟨fun _ => ⟨Or.inl rfl, hF k p' f iv' fr.q e1 e2⟩, fun u => absurd rfl u⟩) f9 C9 H D9 (fun v s iv' fr C' H' => ⟨fun u => absurd u (by decide), fun _ => ⟨⟨by omega, by omega⟩, ⟨by omega, by omega⟩, fun iv5 e5 => ⟨Or.inr rfl, ?_⟩⟩⟩)
      rw [hr, Int.toNat_natCast, H' 1 r (by omega)] at e5
      obtain ⟨H5, f5⟩ := HW (by omega) H' (fun _ _ _ => rfl) e5
      exact hS _ s iv5 (fun k j q1 q2 => by rw [f5 _ _ q2, fr _ _ q1 q2]) (C'.congr fun k j q => f5 k j (by omega)) H5
    · have p2 := p.2.1 ⟨by omega, by omega⟩ (by
        rw [hr, H 1 r.toNat (by omega)] at e5
        show ¬ (R 1 r.toNat < _)
        rw [← show x5 = R 1 r.toNat from e5]; exact z)
      exact c_fail C (fun iv' f e1 e2 => hF _ _ p2 iv' f.q e1 e2)
  refine c_among (by omega) (fun z => ?_) (fun z => ?_)
  · have k1 : kd b n a = 1 := by rw [← z]; exact t.1.symm
    rw [t.2.2.1 (Or.inl k1)]
    exact go _ (if_pos k1).symm
  · exact go _ (if_neg (fun q => z (t.1.trans q))).symm
