/-! THE CHEAPEST WAY: the first by places -/
/-- G 0 .. G K is the way that goes on to the least place each time -/
def GP (a b : Nat → Nat) (w : F1) (L : Nat) (r : F1) (s g K : Nat) (G : Nat → Nat) : Prop :=
  G 0 = s ∧ G K = g ∧ K ≤ 7 ∧ (∀ i, i ≤ K → G i < 8 ∧ r (G i) < 1000000000) ∧ (∀ i, i < K → G i ≠ g ∧ Cd a b w L r (G i) (G (i + 1)) ∧ ∀ q, q < G (i + 1) → ¬ Cd a b w L r (G i) q)
theorem least_ex {C : Nat → Prop} : ∀ n, (∃ q, q < n ∧ C q) → ∃ q, q < n ∧ C q ∧ ∀ q', q' < q → ¬ C q'
  | 0, h => by obtain ⟨q, h1, -⟩ := h; omega
  | n + 1, h => by
    by_cases z : ∃ q, q < n ∧ C q
    · obtain ⟨q, q1, q2, q3⟩ := least_ex n z
      exact ⟨q, by omega, q2, q3⟩
    · obtain ⟨q, q1, q2⟩ := h
      have e : q = n := by
        by_cases y : q = n
        · exact y
        · exact absurd ⟨q, by omega, q2⟩ z
      refine ⟨q, q1, q2, fun q' h' c => z ⟨q', by omega, c⟩⟩
theorem Cd.lt {a b : Nat → Nat} {w : F1} {L : Nat} {r : F1} {p q : Nat} (hL : Lks a b w L) (h : Cd a b w L r p q) : r q < r p := by
  obtain ⟨b1, b2, b3⟩ := bl_jn h.1
  have := (hL _ b1).2.2.1
  have := h.2
  omega
theorem GP.ex {a b : Nat → Nat} {w : F1} {L g : Nat} {r : F1} (h : Msd a b w L g r) (hL : Lks a b w L) : ∀ (k s : Nat), s < 8 → r s < 1000000000 → ck r (r s) 8 ≤ k → k ≤ 7 → ∃ K G, K ≤ k ∧ GP a b w L r s g K G
  | k, s, hs, hf, hk, h7 => by
    by_cases z : s = g
    · exact ⟨0, fun _ => s, by omega, rfl, z, by omega, fun i _ => ⟨hs, hf⟩, fun i hi => by omega⟩
    · obtain ⟨q, q1, q2, q3⟩ := least_ex 8 (h.cd hs z hf)
      have lt := q2.lt hL
      have ckl := ck_lt (r := r) (q := q) (y := r s) lt 8 q1
      cases k with
      | zero => omega
      | succ k =>
        obtain ⟨K, G, g0, g1, g2, g3, g4, g5⟩ := GP.ex h hL k q q1 (by omega) (by omega) (by omega)
        refine ⟨K + 1, fun i => if i = 0 then s else G (i - 1), by omega, rfl, ?_, by omega, fun i hi => ?_, fun i hi => ?_⟩
        · show (if K + 1 = 0 then s else G (K + 1 - 1)) = g
          rw [if_neg (by omega), Nat.add_sub_cancel]; exact g2
        · show (if i = 0 then s else G (i - 1)) < 8 ∧ r (if i = 0 then s else G (i - 1)) < 1000000000
          by_cases y : i = 0
          · rw [if_pos y]; exact ⟨hs, hf⟩
          · rw [if_neg y]; exact g4 (i - 1) (by omega)
        · show (if i = 0 then s else G (i - 1)) ≠ g ∧ Cd a b w L r (if i = 0 then s else G (i - 1)) (if i + 1 = 0 then s else G (i + 1 - 1)) ∧ ∀ q, q < (if i + 1 = 0 then s else G (i + 1 - 1)) → ¬ Cd a b w L r (if i = 0 then s else G (i - 1)) q
          rw [if_neg (show i + 1 ≠ 0 by omega), Nat.add_sub_cancel]
          by_cases y : i = 0
          · rw [if_pos y, y, g1]; exact ⟨z, q2, q3⟩
          · rw [if_neg y]
            have := g5 (i - 1) (by omega)
            rw [show i - 1 + 1 = i by omega] at this
            exact this
theorem GP.uniq {a b : Nat → Nat} {w : F1} {L g s K K' : Nat} {r : F1} {G G' : Nat → Nat} (h : GP a b w L r s g K G) (h' : GP a b w L r s g K' G') : K = K' ∧ ∀ i, i ≤ K → G i = G' i := by
  obtain ⟨a1, a2, a3, a4, a5⟩ := h
  obtain ⟨b1, b2, b3, b4, b5⟩ := h'
  have key : ∀ i, i ≤ K → i ≤ K' → G i = G' i := by
    intro i
    induction i with
    | zero => intro _ _; rw [a1, b1]
    | succ i ih =>
      intro h1 h2
      have e := ih (by omega) (by omega)
      obtain ⟨x1, x2, x3⟩ := a5 i (by omega)
      obtain ⟨y1, y2, y3⟩ := b5 i (by omega)
      rw [← e] at y2 y3
      by_cases z : G (i + 1) < G' (i + 1)
      · exact absurd x2 (y3 _ z)
      · by_cases z2 : G' (i + 1) < G (i + 1)
        · exact absurd y2 (x3 _ z2)
        · omega
  have e : K = K' := by
    by_cases z : K < K'
    · have := key K (by omega) (by omega)
      exact absurd (this.symm.trans a2) (b5 K z).1
    · by_cases z2 : K' < K
      · have := key K' (by omega) (by omega)
        exact absurd (this.trans b2) (a5 K' z2).1
      · omega
  exact ⟨e, fun i hi => key i hi (by omega)⟩
theorem GP.dec {a b : Nat → Nat} {w : F1} {L g s K : Nat} {r : F1} {G : Nat → Nat} (h : GP a b w L r s g K G) (hL : Lks a b w L) : ∀ d i, i + d + 1 ≤ K → r (G (i + d + 1)) < r (G i)
  | 0, i, hi => (h.2.2.2.2 i (by omega)).2.1.lt hL
  | d + 1, i, hi => by
    have a := GP.dec h hL d i (by omega)
    have b := (h.2.2.2.2 (i + d + 1) (by omega)).2.1.lt hL
    rw [show i + (d + 1) + 1 = i + d + 1 + 1 by omega]
    omega
theorem GP.inj {a b : Nat → Nat} {w : F1} {L g s K : Nat} {r : F1} {G : Nat → Nat} (h : GP a b w L r s g K G) (hL : Lks a b w L) {i j : Nat} (hi : i ≤ K) (hj : j ≤ K) (e : G i = G j) : i = j := by
  by_cases z : i < j
  · have := h.dec hL (j - i - 1) i (by omega)
    rw [show i + (j - i - 1) + 1 = j by omega, e] at this
    omega
  · by_cases z2 : j < i
    · have := h.dec hL (i - j - 1) j (by omega)
      rw [show j + (i - j - 1) + 1 = i by omega, e] at this
      omega
    · omega
/-! weights of prefixes -/
def Xw (R : Nat → Nat → Int) (T W : F1) (wk : Nat → Nat) (n : Nat) : Int := Sm wk (Fo R T W) (n - 1) * 1000 + Sm wk (Ff R W) (n - 1)
theorem Sm_congr {wk wk' : Nat → Nat} {F : Nat → Nat → Int} : ∀ i, (∀ j, j ≤ i → wk' j = wk j) → Sm wk' F i = Sm wk F i
  | 0, _ => rfl
  | i + 1, h => by
    show Sm wk' F i + F (wk' i) (wk' (i + 1)) = Sm wk F i + F (wk i) (wk (i + 1))
    rw [Sm_congr i (fun j hj => h j (by omega)), h i (by omega), h (i + 1) (by omega)]
theorem Xw_ext {R : Nat → Nat → Int} {T W : F1} {wk : Nat → Nat} {n p : Nat} (hn : 1 ≤ n) (hG : GT R T W) (hb : 0 ≤ bl (gA R) (gB R) W (wk (n - 1)) p (gL R)) : Xw R T W (ext wk n p) (n + 1) = Xw R T W wk n + W (bl (gA R) (gB R) W (wk (n - 1)) p (gL R)).toNat := by
  obtain ⟨b1, -, -⟩ := bl_jn hb
  have t := (hG _ b1).2.2
  have s : ∀ F, Sm (ext wk n p) F n = Sm wk F (n - 1) + F (wk (n - 1)) p := fun F => by
    obtain ⟨m, rfl⟩ : ∃ m, n = m + 1 := ⟨n - 1, by omega⟩
    show Sm (ext wk (m + 1) p) F m + F (ext wk (m + 1) p m) (ext wk (m + 1) p (m + 1)) = _
    rw [ext_eq, ext_ne (by omega), Sm_congr m (fun j hj => ext_ne (by omega))]
    rfl
  unfold Xw
  rw [Nat.add_sub_cancel, s, s, t]
  show (_ + T (bl (gA R) (gB R) W (wk (n - 1)) p (gL R)).toNat) * 1000 + (_ + R 6 (bl (gA R) (gB R) W (wk (n - 1)) p (gL R)).toNat) = _
  omega
theorem GP.sum {R : Nat → Nat → Int} {T W : F1} {g s K : Nat} {r : F1} {G : Nat → Nat} (h : GP (gA R) (gB R) W (gL R) r s g K G) (hG : GT R T W) : ∀ i, i ≤ K → Sm G (Fo R T W) i * 1000 + Sm G (Ff R W) i + r (G i) = r s
  | 0, _ => by
    show (0 : Int) * 1000 + 0 + r (G 0) = r s
    rw [h.1]; omega
  | i + 1, hi => by
    have ih := GP.sum h hG i (by omega)
    obtain ⟨x1, x2, x3⟩ := h.2.2.2.2 i (by omega)
    obtain ⟨b1, -, -⟩ := bl_jn x2.1
    have t := (hG _ b1).2.2
    have c := x2.2
    show (Sm G (Fo R T W) i + T (bl (gA R) (gB R) W (G i) (G (i + 1)) (gL R)).toNat) * 1000 + (Sm G (Ff R W) i + R 6 (bl (gA R) (gB R) W (G i) (G (i + 1)) (gL R)).toNat) + r (G (i + 1)) = r s
    omega
theorem GP.gd {R : Nat → Nat → Int} {W : F1} {g s K : Nat} {r : F1} {G : Nat → Nat} (h : GP (gA R) (gB R) W (gL R) r s g K G) (hL : Lks (gA R) (gB R) W (gL R)) (hc : RC R) (hs : (s : Int) < R 1 0) : Gd R W (K + 1) G := by
  refine ⟨fun j hj => ?_, fun i j hi hj e => h.inj hL (by omega) (by omega) e, fun j hj => (h.2.2.2.2 j (by omega)).2.1.1⟩
  cases j with
  | zero => rw [h.1]; exact hs
  | succ j =>
    obtain ⟨b1, b2, -⟩ := bl_jn (h.2.2.2.2 j (by omega)).2.1.1
    have := lk_ok hc b1
    rcases b2 with ⟨x, y⟩ | ⟨x, y⟩
    · rw [← y]; omega
    · rw [← x]; omega
