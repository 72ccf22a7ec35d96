/-! THE READER: the class's whole reading -/
def GoodV (v : Ps) : Prop := NI v.2.1 v.2.2.2.1 v.2.2.2.2.1 v.2.2.2.2.2 ∧ RW v.2.2.2.2.2
abbrev CRv (b : Nat → Int) (n : Nat) (v : Ps) (iv : IV) : Prop := CR b n v.1 v.2.1 v.2.2.1 v.2.2.2.1 v.2.2.2.2.1 iv
def pl_rest (b : Nat → Int) (n : Nat) : Nat → Ps → (Int → Nat → Prop) → (Ps → Prop) → Prop
  | 0, v, _, S => S v
  | d + 1, v, F, S => (kd b n v.1 = 0 → S v) ∧ (kd b n v.1 ≠ 0 → kd b n v.1 ≠ 3 → F 1 (st b n v.1)) ∧ (kd b n v.1 = 3 → pl_line b n v (nx b n v.1) F (fun u => pl_rest b n d u F S))
theorem FrQ.tr {h : Nat} {iv iv' iv'' : IV} (f : FrQ h iv iv') (f' : FrQ h iv' iv'') : FrQ h iv iv'' := fun k j q r => (f' k j q r).trans (f k j q r)
theorem c_rest {b : Nat → Int} {n h b1 : Nat} {iv0 : IV} {rv : RV} {K : Int → IV → RV → Prop} {F : Int → Nat → Prop} {S : Ps → Prop} {P : Int → Int → IV → RV → Prop} (hd : Unit → ∀ v a, GoodV v → Dc (pl_line b n v a) GoodV) (hh : h = 2 ∨ h = 21) (hr : gR rv 40 5 = h) (hF : FlQ F h iv0 (fun iv => K 0 iv rv)) (hS : Unit → ∀ v, S v → GoodV v → Okr b n h iv0 (fun iv => bd_X4_read_93 b1 1 iv rv K) v) (hP : ∀ (l3' l4' : Int) (iv' : IV) (rv' : RV), bd_X4_read_45 b1 P l3' l4' iv' rv' K → P l3' l4' iv' rv') :
    ∀ (d : Nat) (v : Ps) (l4 : Int) (iv : IV), 0 ≤ l4 → l4 + (d : Nat) = 900 → GoodV v → CRv b n v iv → CHr h v.2.2.2.2.2 iv → FrQ h iv0 iv → pl_rest b n d v F S → P 1 l4 iv rv
  | 0, v, l4, iv, l0, el, G, C, H, fr, p => hP _ _ _ _ ⟨fun _ => hS () v p G iv fr C H, fun y => by omega⟩
  | d + 1, (a, m, c, so, nu, R), l4, iv, l0, el, G, C, H, fr, p => by
    have t := C.2.2.2.1
    have p' : (kd b n a = 0 → S (a, m, c, so, nu, R)) ∧ (kd b n a ≠ 0 → kd b n a ≠ 3 → F 1 (st b n a)) ∧ (kd b n a = 3 → pl_line b n (a, m, c, so, nu, R) (nx b n a) F (fun u => pl_rest b n d u F S)) := p
    have ew : Unit → w32 (l4 + 1) = l4 + 1 := fun _ => w32_id (by omega) (by omega)
    have bad : Unit → ∀ (k : Int) (q : Nat), F k q → ∀ iv' : IV, FrQ h iv0 iv' → iv' 40 6 = k → iv' 40 7 = (q : Nat) → bd_X4_read_85 b1 P l4 iv' rv K := fun _ k q f iv' fr' e1 e2 => by
      show P 0 (w32 (l4 + 1)) iv' rv
      have z : bd_X4_read_93 b1 0 iv' rv K := ⟨fun _ => ⟨Or.inl rfl, hF k q f iv' fr' e1 e2⟩, fun u => absurd rfl u⟩
      exact hP _ _ _ _ ⟨fun _ => z, fun _ => ⟨fun _ => z, fun u => absurd rfl u⟩⟩
    refine hP _ _ _ _ ⟨fun y => by omega, fun _ => ⟨fun y => absurd y (by decide), fun _ => ⟨fun y => hS () _ (p'.1 (t.1.symm.trans y)) G iv fr C H, fun y => ⟨fun z => ?_, fun z => ?_⟩⟩⟩⟩
    · have k3 : kd b n a = 3 := by rw [← z]; exact t.1.symm
      have p3 := p'.2.2 k3
      refine c_adv C (by rw [k3]; decide) (fun iv5 f5 C5 => ye_ ?_)
      have fr5 : FrQ h iv0 iv5 := fun k j q r => by rw [f5 _ _ (by omega)]; exact fr k j q r
      have H5 : CHr h R iv5 := fun k j q => by rw [f5 _ _ (by omega)]; exact H k j q
      rcases hd () (a, m, c, so, nu, R) (nx b n a) G with ⟨k, q, kq, e⟩ | ⟨u, gu, e⟩
      · have f := (e _ _).mp p3
        have pe : pl_line b n (nx b n a, m, c, so, nu, R) (nx b n a) (fun k' q' => k' = k ∧ q' = q) (fun _ => False) := (e (fun k' q' => k' = k ∧ q' = q) (fun _ => False)).mpr ⟨rfl, rfl⟩
        refine l_line (a := nx b n a) (m := m) (c := c) (so := so) (nu := nu) (R := R) hh hr G.1 pe C5 H5 (fun k' q' s iv' f' e1 e2 => no_ ?_) (fun _ s => False.elim s)
        exact bad () k q f iv' (fr5.tr f') (e1.trans s.1) (by rw [e2, s.2])
      · have s := (e _ _).mp p3
        have pe : pl_line b n (nx b n a, m, c, so, nu, R) (nx b n a) (fun _ _ => False) (fun w => w = u) := (e (fun _ _ => False) (fun w => w = u)).mpr rfl
        refine l_line (a := nx b n a) (m := m) (c := c) (so := so) (nu := nu) (R := R) hh hr G.1 pe C5 H5 (fun _ _ s => False.elim s) (fun w ew' iv' f' C' H' => ye_ ?_)
        subst ew'
        show P 1 (w32 (l4 + 1)) iv' rv
        rw [ew ()]
        exact c_rest hd hh hr hF hS hP d w (l4 + 1) iv' (by omega) (by omega) gu C' H' (fr5.tr f') s
    · exact c_fail C (fun iv' f e1 e2 => no_ (bad () _ _ (p'.2.1 (fun q => y (t.1.trans q)) (fun q => z (t.1.trans q))) iv' (fr.tr f.q) e1 e2))
