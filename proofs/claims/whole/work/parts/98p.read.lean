/-! THE READER: read, the class's side -/
/-- the realm swept clean: nothing counted, no spans, no losses -/
def R0ok (R : IV) : Prop := (∀ s, s < 12 → R 1 s = 0) ∧ ∀ g, g < 16 → R 8 g = 0 ∧ R 9 g = 0 ∧ R 10 g = 0
abbrev v0 (R : IV) : Ps := (0, 0, (fun _ => 0), (fun _ => 0), (fun _ => 0), R)
def pl_read (b : Nat → Int) (n : Nat) (R : IV) (F : Int → Nat → Prop) (S : Ps → Prop) : Prop := pl_line b n (v0 R) 0 F (fun u => pl_rest b n 899 u F (fun w => ((w.2.2.2.2.2 1 0 < 2 ∨ w.2.2.2.2.2 1 10 = 0) → F 6 (st b n w.1)) ∧ (¬ (w.2.2.2.2.2 1 0 < 2 ∨ w.2.2.2.2.2 1 10 = 0) → S w)))
theorem fil_in {iv : IV} {k len j : Nat} {x : Int} (h : j < len) : fil iv k len x k j = x := if_pos ⟨rfl, h⟩
theorem fil_ne {iv : IV} {k len a j : Nat} {x : Int} (h : ¬ (a = k)) : fil iv k len x a j = iv a j := if_neg fun q => h q.1
theorem c_read {b : Nat → Int} {n h : Nat} {iv : IV} {rv : RV} {K : Int → IV → RV → Prop} (hd : Unit → ∀ v a, GoodV v → Dc (pl_line b n v a) GoodV) (h0 : Unit → ∀ R, R0ok R → GoodV (v0 R)) (hh : h = 2 ∨ h = 21) (hn : n ≤ 900) (ht : ∀ j, j < n → iv 1 j = b j)
    (hK : Unit → ∀ R, R0ok R → ∃ F S, pl_read b n R F S ∧ FlQ F h iv (fun iv' => K 0 iv' (r2 rv 40 5 (some h))) ∧ (∀ v, S v → GoodV v → ∀ iv' : IV, FrQ h iv iv' → iv' 40 6 = 0 → CHr h v.2.2.2.2.2 iv' → K 1 iv' (r2 rv 40 5 (some h)))) : wp_X4_read h n iv rv K := by
  intro rv1 er iv1a e1a iv1b e1b iv1c e1c iv1 e1 iv3 e3 iv4 e4 iv5 e5 r1 em iv6 e6 iv7 e7
  subst er
  have hr : gR (r2 rv 40 5 (some h)) 40 5 = h := by unfold gR; rw [r2_eq]; rfl
  rw [hr] at e1a e1b e1c e1
  have em' : r1 = (n : Nat) := by rw [em]; omega
  have f7 : ∀ k j, ¬ (40 ≤ k ∧ k ≤ 46) → iv7 k j = iv1 k j := fun k j q => by rw [e7, w2_ne (by omega), e6, w2_ne (by omega), e5, w2_ne (by omega), e4, w2_ne (by omega), e3, w2_ne (by omega)]
  have f1 : ∀ k j, ¬ (h + 1 ≤ k ∧ k ≤ h + 18) → iv1 k j = iv k j := fun k j q => by rw [e1, fil_ne (by omega), e1c, fil_ne (by omega), e1b, fil_ne (by omega), e1a, fil_ne (by omega)]
  refine c_advance (b := b) (n := n) (a := 0) hn (Nat.zero_le n) (fun j hj => by rw [f7 _ _ (by omega), f1 _ _ (by omega)]; exact ht j hj) (by rw [e7, w2_ne (by omega), e6, w2_eq]; exact em') (by rw [e7, w2_eq]; rfl) (fun iv8 f8 T8 => ?_)
  have f8' : ∀ k j, ¬ (40 ≤ k ∧ k ≤ 46) → iv8 k j = iv1 k j := fun k j q => by rw [f8 _ _ (by omega)]; exact f7 k j q
  have fr8 : FrQ h iv iv8 := fun k j q r => by rw [f8' _ _ q, f1 _ _ r]
  have ok : R0ok (fun k j => iv8 (h + k) j) := by
    refine ⟨fun s hs => ?_, fun g hg => ⟨?_, ?_, ?_⟩⟩
    · show iv8 (h + 1) s = 0
      rw [f8' _ _ (by omega), e1, fil_ne (by omega), e1c, fil_ne (by omega), e1b, fil_ne (by omega), e1a, fil_in hs]
    · show iv8 (h + 8) g = 0
      rw [f8' _ _ (by omega), e1, fil_ne (by omega), e1c, fil_ne (by omega), e1b, fil_in hg]
    · show iv8 (h + 9) g = 0
      rw [f8' _ _ (by omega), e1, fil_ne (by omega), e1c, fil_in hg]
    · show iv8 (h + 10) g = 0
      rw [f8' _ _ (by omega), e1, fil_in hg]
  have G := h0 () _ ok
  obtain ⟨F, S, p, hF, hS⟩ := hK () _ ok
  have H8 : CHr h (fun k j => iv8 (h + k) j) iv8 := fun _ _ _ => rfl
  have C8 : CR b n 0 0 (fun _ => 0) (fun _ => 0) (fun _ => 0) iv8 := by
    refine ⟨hn, fun j hj => by rw [f8' _ _ (by omega), f1 _ _ (by omega)]; exact ht j hj, by rw [f8 _ _ (by omega), e7, w2_ne (by omega), e6, w2_eq]; exact em', T8, Nat.zero_le n, by omega, ?_, fun j hj => absurd hj (Nat.not_lt_zero j), ?_⟩
    · rw [f8 _ _ (by omega), e7, w2_ne (by omega), e6, w2_ne (by omega), e5, w2_ne (by omega), e4, w2_ne (by omega), e3, w2_eq]; rfl
    · rw [f8 _ _ (by omega), e7, w2_ne (by omega), e6, w2_ne (by omega), e5, w2_ne (by omega), e4, w2_eq]
  generalize (fun k j => iv8 (h + k) j : IV) = R at *
  have bad : Unit → ∀ (k : Int) (q : Nat), F k q → ∀ iv' : IV, FrQ h iv iv' → iv' 40 6 = k → iv' 40 7 = (q : Nat) → bd_X4_read_93 h 0 iv' (r2 rv 40 5 (some h)) K := fun _ k q f iv' fr' e1 e2 => ⟨fun _ => ⟨Or.inl rfl, hF k q f iv' fr' e1 e2⟩, fun u => absurd rfl u⟩
  rcases hd () (v0 R) 0 G with ⟨k, q, kq, e⟩ | ⟨u, gu, e⟩
  · have f := (e _ _).mp p
    have pe : pl_line b n (v0 R) 0 (fun k' q' => k' = k ∧ q' = q) (fun _ => False) := (e (fun k' q' => k' = k ∧ q' = q) (fun _ => False)).mpr ⟨rfl, rfl⟩
    refine l_line hh hr G.1 pe C8 H8 (fun k' q' s iv' f' e1 e2 => ?_) (fun _ s => False.elim s)
    have z := bad () k q f iv' (fr8.tr f') (e1.trans s.1) (by rw [e2, s.2])
    exact fun P hP => hP _ _ _ _ ⟨fun _ => z, fun _ => ⟨fun _ => z, fun u => absurd rfl u⟩⟩
  · have s := (e _ _).mp p
    have pe : pl_line b n (v0 R) 0 (fun _ _ => False) (fun w => w = u) := (e (fun _ _ => False) (fun w => w = u)).mpr rfl
    refine l_line hh hr G.1 pe C8 H8 (fun _ _ s => False.elim s) (fun w ew' iv' f' C' H' => ?_)
    subst ew'
    intro P hP
    refine c_rest (b1 := h) hd hh hr hF (fun _ v sv gv iv2 fr2 C2 H2 => ?_) hP 899 w 1 iv' (by omega) (by omega) gu C' H' (fr8.tr f') s
    have lo : Unit → (v.2.2.2.2.2 1 0 < 2 ∨ v.2.2.2.2.2 1 10 = 0) → bd_X4_read_123 h iv2 (r2 rv 40 5 (some h)) K := fun _ y => c_fail C2 (fun iv3 f3 e1 e2 => hF _ _ (sv.1 y) iv3 (fr2.tr f3.q) e1 e2)
    refine ye_ ?_
    rw [hr, H2 1 0 (by omega), H2 1 10 (by omega)]
    refine ⟨fun y => lo () (Or.inl y), fun y => ⟨fun y2 => ⟨Or.inr rfl, hS v (sv.2 (fun q => q.elim y y2)) gv iv2 fr2 C2.2.2.2.2.2.2.2.2 H2⟩, fun y2 => lo () (Or.inr y2)⟩⟩
