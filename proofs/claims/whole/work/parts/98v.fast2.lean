/-! THE READER: a line, and the whole reading, stand fast -/
theorem g_name2 {m a r : Nat} {cd : Int} {c so nu : F1} {R : IV} (hr : r = 0 ∨ r = 1) (N : NI m so nu R) (W : RW R) (room : R 1 r < roomL.getD r 0) (x : Nat) (hx : R 1 r = (x : Nat)) : Nxt r R (bump r (a, m + 1, up1 c m cd, up1 so m (r : Nat), up1 nu m (x : Nat), R)) := by
  have cp := N.cap
  refine ⟨g_name hr N W room x hx, bmp (by rcases hr with z | z <;> subst z <;> omega) rfl, fun s _ q => w2_ne (by omega)⟩
theorem d_name {b : Nat → Int} {n m s x a : Nat} {c so nu : F1} {R : IV} {Q : Ps → Prop} (hQ : ∀ v : Int × Nat, Q (v.2, m + 1, up1 c m v.1, up1 so m (s : Nat), up1 nu m (x : Nat), R)) : Dc (pl_name b n m c so nu R s x a) Q := by
  unfold pl_name
  exact Dc.bind dc_new (fun v0 _ => Dc.ret (hQ v0))
theorem d_lost {b : Nat → Int} {n m a : Nat} {c so nu : F1} {R : IV} {Q : Ps → Prop} (hQ : ∀ (v : Int × Nat × Nat) (q : IV × Nat), (∃ j, j < m ∧ ((5 : Nat) : Int) ≤ so j ∧ so j ≤ ((7 : Nat) : Int) ∧ v.1 = nu j) → R 10 v.1.toNat = 0 → (q.1 = w2 R 10 v.1.toNat 1 ∨ q.1 = w2 R 10 v.1.toNat 2) → Q (q.2, m, c, so, nu, q.1)) : Dc (pl_lost b n m c so nu R a) Q := by
  unfold pl_lost
  exact Dc.bind dc_use (fun v0 h0 => Dc.bind dc_loss (fun q h1 => Dc.ret (hQ v0 q h0 h1.1 h1.2)))
theorem d_body {b : Nat → Int} {n a m r x l : Nat} {c so nu : F1} {R : IV} (N : NI m so nu R) (W : RW R) (h12 : r < 12) (hx : R 1 r = (x : Nat)) (room : R 1 r < roomL.getD r 0) (hl : R 1 3 + R 1 4 = (l : Nat)) : Dc (pl_body b n m c so nu R r x l a) (fun u => Nxt r R (bump r u)) := by
  rcases (show r = 0 ∨ r = 1 ∨ r = 2 ∨ r = 3 ∨ r = 4 ∨ r = 5 ∨ r = 6 ∨ r = 7 ∨ r = 8 ∨ r = 9 ∨ r = 10 ∨ r = 11 by omega) with z | z | z | z | z | z | z | z | z | z | z | z <;> subst z
  · exact d_name (Q := fun u => Nxt 0 R (bump 0 u)) (fun v => g_name2 (r := 0) (Or.inl rfl) N W room x hx)
  · exact d_name (Q := fun u => Nxt 1 R (bump 1 u)) (fun v => g_name2 (r := 1) (Or.inr rfl) N W room x hx)
  · exact d_man (x := x) (l := l) (ta := 0) (Q := fun u => Nxt 2 R (bump 2 u)) (fun v0 v1 v2 v3 v4 h2 h4 => g_man N W room hx (us0 N (own h2 (by omega))) ⟨h4.1, h4.2.1⟩)
  · exact d_road (x := x) (l := l) (ta := 0) (Q := fun u => Nxt 3 R (bump 3 u)) (fun v0 v1 v2 v4 v5 h0 h2 h3 h5 => g_road N W room hx hl (us0 N h0) (us0 N h2) (fun y => h3 y.symm) ⟨h5.1, h5.2.1⟩ rfl)
  · exact d_bridge (x := x) (l := l) (ta := 0) (Q := fun u => Nxt 4 R (bump 4 u)) (fun v0 v1 v2 v3 v4 v6 v7 h2 h4 h5 h7 => g_bridge N W room hx hl (us0 N (own h2 (by omega))) (us0 N (own h4 (by omega))) (fun y => h5 y.symm) ⟨h7.1, h7.2.1⟩ rfl)
  · exact d_take (x := x) (l := l) (ta := 0) (Q := fun u => Nxt 5 R (bump 5 u)) (fun v0 v1 v2 v3 v4 v5 v6 v7 h2 h4 h6 h7 => g_take N W room hx ⟨h6.1, h6.2.1⟩ h7)
  · exact d_free (x := x) (l := l) (ta := 0) (Q := fun u => Nxt 6 R (bump 6 u)) (fun v0 v1 v2 v3 v4 v5 v6 h2 h4 h5 h6 => g_free N W room hx (us0 N (own h2 (by omega))) h6)
  · exact d_as (x := x) (l := l) (ta := 0) (Q := fun u => Nxt 7 R (bump 7 u)) (fun v0 v1 v2 v3 v4 v7 h2 h4 h5 h7 => g_as N W room hx (us0 N (own h2 (by omega))) (us0 N (own h4 (by omega))) h7)
  · exact d_renew (x := x) (l := l) (ta := 0) (Q := fun u => Nxt 8 R (bump 8 u)) (fun v0 v1 v2 v3 h0 h1 h3 => g_renew N W room hx (us56 N h0) ⟨h1.1, by obtain ⟨-, cd, e⟩ := h1; rw [e]; exact le45 cd⟩ ⟨h3.1, h3.2.1⟩)
  · refine d_lost (Q := fun u => Nxt 9 R (bump 9 u)) (fun v q h0 h1 h2 => ?_)
    have k := us57 N h0
    rcases h2 with e | e
    · rw [e]; exact g_lost N W room k.2.2
    · rw [e]; exact g_lost N W room k.2.2
  · exact d_law (x := x) (l := l) (ta := 0) (Q := fun u => Nxt 10 R (bump 10 u)) (fun v0 v1 v2 v3 v4 h1 h2 h3 h4 => g_law N W room hx)
  · exact d_cart (x := x) (l := l) (ta := 0) (Q := fun u => Nxt 11 R (bump 11 u)) (fun v0 v1 v2 v3 v4 v5 v6 v7 v8 v9 v10 v11 v13 v14 h2 h4 h5 h7 h9 h11 h12 h14 => g_cart N W room hx (us2 N (own h2 (by omega))) ⟨h7.1, h7.2.1⟩ (us0 N (own h9 (by omega))) (us0 N (own h11 (by omega))) ⟨h14.1, h14.2.1⟩)
/-- how many lines were read -/
def sumL (R : IV) : Int := R 1 0 + R 1 1 + R 1 2 + R 1 3 + R 1 4 + R 1 5 + R 1 6 + R 1 7 + R 1 8 + R 1 9 + R 1 10 + R 1 11
theorem Nxt.sum {r : Nat} {R : IV} {v : Ps} (hr : r < 12) (h : Nxt r R v) : sumL v.2.2.2.2.2 = sumL R + 1 := by
  obtain ⟨-, h1, h2⟩ := h
  unfold sumL
  have d0 := h2 0 (by omega)
  have d1 := h2 1 (by omega)
  have d2 := h2 2 (by omega)
  have d3 := h2 3 (by omega)
  have d4 := h2 4 (by omega)
  have d5 := h2 5 (by omega)
  have d6 := h2 6 (by omega)
  have d7 := h2 7 (by omega)
  have d8 := h2 8 (by omega)
  have d9 := h2 9 (by omega)
  have d10 := h2 10 (by omega)
  have d11 := h2 11 (by omega)
  rcases (show r = 0 ∨ r = 1 ∨ r = 2 ∨ r = 3 ∨ r = 4 ∨ r = 5 ∨ r = 6 ∨ r = 7 ∨ r = 8 ∨ r = 9 ∨ r = 10 ∨ r = 11 by omega) with z | z | z | z | z | z | z | z | z | z | z | z <;> subst z <;> omega
theorem d_line {b : Nat → Int} {n a : Nat} (v : Ps) (G : GoodV v) : Dc (pl_line b n v a) (fun u => GoodV u ∧ sumL u.2.2.2.2.2 = sumL v.2.2.2.2.2 + 1) := by
  obtain ⟨a0, m, c, so, nu, R⟩ := v
  have N : NI m so nu R := G.1
  have W : RW R := G.2
  have cp := N.cap
  by_cases z1 : 0 ≤ rs b n a ∧ rs b n a < 12
  · by_cases z2 : R 1 (rs b n a).toNat < roomL.getD (rs b n a).toNat 0
    · have r0 := (N.2.1 (rs b n a).toNat (by omega)).1
      refine (Dc.bind (d_body (b := b) (n := n) (a := nx b n a) (c := c) (r := (rs b n a).toNat) (x := (R 1 (rs b n a).toNat).toNat) (l := (R 1 3 + R 1 4).toNat) N W (by omega) (by omega) z2 (by omega)) (fun u hu => Dc.ret (v := bump (rs b n a).toNat u) (Q := fun w => GoodV w ∧ sumL w.2.2.2.2.2 = sumL R + 1) ⟨hu.1, hu.sum (by omega)⟩)).congr fun F S => ⟨fun q => q.2.2 z1 z2, fun q => ⟨fun u => absurd z1 u, fun _ u => absurd z2 u, fun _ _ => q⟩⟩
    · exact (Dc.err (k := 5) (p := st b n a) (by decide)).congr fun F S => ⟨fun q => q.2.1 z1 z2, fun q => ⟨fun u => absurd z1 u, fun _ _ => q, fun _ u => absurd u z2⟩⟩
  · exact (Dc.err (k := 1) (p := st b n a) (by decide)).congr fun F S => ⟨fun q => q.1 z1, fun q => ⟨fun _ => q, fun u => absurd u z1, fun u => absurd u z1⟩⟩
theorem hd_ok {b : Nat → Int} {n : Nat} (_ : Unit) (v : Ps) (a : Nat) (G : GoodV v) : Dc (pl_line b n v a) GoodV := (d_line v G).weak fun _ h => h.1
theorem d_rest {b : Nat → Int} {n : Nat} : ∀ (d : Nat) (v : Ps), GoodV v → Dc (pl_rest b n d v) GoodV
  | 0, v, G => Dc.ret G
  | d + 1, v, G => by
    by_cases z0 : kd b n v.1 = 0
    · exact (Dc.ret (v := v) G).congr fun F S => ⟨fun q => q.1 z0, fun q => ⟨fun _ => q, fun u => absurd z0 u, fun u => by rw [z0] at u; exact absurd u (by decide)⟩⟩
    · by_cases z3 : kd b n v.1 = 3
      · exact (Dc.bind (hd_ok () v (nx b n v.1) G) (fun u hu => d_rest d u hu)).congr fun F S => ⟨fun q => q.2.2 z3, fun q => ⟨fun u => absurd u z0, fun _ u => absurd z3 u, fun _ => q⟩⟩
      · exact (Dc.err (k := 1) (p := st b n v.1) (by decide)).congr fun F S => ⟨fun q => q.2.1 z0 z3, fun q => ⟨fun u => absurd u z0, fun _ _ => q, fun u => absurd u z3⟩⟩
theorem d_read {b : Nat → Int} {n : Nat} {R : IV} (z : R0ok R) : Dc (pl_read b n R) (fun v => GoodV v ∧ ¬ (v.2.2.2.2.2 1 0 < 2 ∨ v.2.2.2.2.2 1 10 = 0)) := by
  unfold pl_read
  refine Dc.bind (hd_ok () _ 0 (v0_ok R z)) (fun u hu => Dc.bind (d_rest 899 u hu) (fun w hw => ?_))
  by_cases y : w.2.2.2.2.2 1 0 < 2 ∨ w.2.2.2.2.2 1 10 = 0
  · exact (Dc.err (k := 6) (p := st b n w.1) (by decide)).congr fun F S => if_t y
  · exact (Dc.ret (v := w) ⟨hw, y⟩).congr fun F S => if_f y
