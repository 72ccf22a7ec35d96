/-! THE READER: the reference's whole reading -/
theorem r_isL {B : Nat} {b : Nat → Int} {n a m w : Nat} {c so nu : F1} {iv : IV} {rv : RV} {X Y : Prop} (hw : w < 51) (ho : okv (bs w) 0 = true) (M : MR B b n a m c so nu iv) (h1 : isWd b n w a → X) (h0 : ¬ isWd b n w a → Y) : wp_X12_isWord w iv rv (fun r => (r = 0 → Y) ∧ (¬ (r = 0) → X)) :=
  r_is hw ho M (fun _ q => ⟨fun y => absurd y (by decide), fun _ => h1 q⟩) (fun _ q => ⟨fun _ => h0 q, fun y => absurd rfl y⟩)
theorem r_isN {B : Nat} {b : Nat → Int} {n a m w : Nat} {c so nu : F1} {iv : IV} {rv : RV} {X Y : Prop} (k : kd b n a ≠ 1) (M : MR B b n a m c so nu iv) (h0 : Y) : wp_X12_isWord w iv rv (fun r => (r = 0 → Y) ∧ (¬ (r = 0) → X)) :=
  ⟨fun _ => ⟨fun _ => h0, fun y => absurd rfl y⟩, fun y => absurd ((rk_iff _).2.1.mp (M.2.1.1.symm.trans y)) k⟩
theorem m_line {B : Nat} {b : Nat → Int} {n a a0 m : Nat} {c so nu : F1} {R iv0 : IV} {rv : RV} {K : IV → Prop} {F : Int → Nat → Prop} {S : Ps → Prop} (hB : 80 ≤ B) (hg : gR rv 66 4 = B) (hh : hMm rv 66 4) (N : NI m so nu R) (W : RW R) (p : pl_line b n (a0, m, c, so, nu, R) a F S) (M : MR B b n a m c so nu iv0) (H : MH B R iv0) (hO : FlM F B iv0 K) (hS : ∀ v, S v → Okm B b n iv0 K v) : wp_X12_readLine iv0 rv K := by
  have cp := N.cap
  have go : Unit → ∀ i : Nat, i < 12 → rs b n a = (i : Nat) → (¬ (R 1 i < roomL.getD i 0) → F 5 (st b n a)) ∧ (R 1 i < roomL.getD i 0 → pl_body b n m c so nu R i (R 1 i).toNat (R 1 3 + R 1 4).toNat (nx b n a) F (fun u => S (bump i u))) := fun _ i hi er => by
    unfold pl_line at p
    rw [er, Int.toNat_natCast] at p
    exact ⟨p.2.1 ⟨by omega, by omega⟩, p.2.2 ⟨by omega, by omega⟩⟩
  have bad : Unit → rs b n a = -1 → wp_X12_wrong 1 iv0 rv (fun iv25 => K iv25) := fun _ er => r_wrong hB M (fun _ _ _ _ => rfl) (fun iv' o => hO _ _ (p.1 (fun q => by rw [er] at q; omega)) iv' o)
  by_cases k1 : kd b n a = 1
  · have e : rs b n a = amg (co b n a) (bs 40) 0 0 := if_pos k1
    rw [am40] at e
    refine r_isL (w := 39) (by omega) rfl M (fun q => ?_) (fun q1 => ?_)
    · rw [if_pos q.2] at e
      obtain ⟨p5, p6⟩ := go () 0 (by omega) e
      exact m_place (x := (R 1 0).toNat) (S := fun u => S (bump 0 u)) hB hg hh N W k1 (by omega) p5 p6 M H hO (fun v s => hS _ s)
    rw [if_neg (fun y => q1 ⟨k1, y⟩)] at e
    refine r_isL (w := 17) (by omega) rfl M (fun q => ?_) (fun q1 => ?_)
    · rw [if_pos q.2] at e
      obtain ⟨p5, p6⟩ := go () 1 (by omega) e
      exact m_goods (x := (R 1 1).toNat) (S := fun u => S (bump 1 u)) hB hg hh N W k1 (by omega) p5 p6 M H hO (fun v s => hS _ s)
    rw [if_neg (fun y => q1 ⟨k1, y⟩)] at e
    refine r_isL (w := 25) (by omega) rfl M (fun q => ?_) (fun q1 => ?_)
    · rw [if_pos q.2] at e
      obtain ⟨p5, p6⟩ := go () 2 (by omega) e
      exact m_man (x := (R 1 2).toNat) (l := (R 1 3 + R 1 4).toNat) (ta := 0) (S := fun u => S (bump 2 u)) hB hg hh N W k1 (by omega) p5 p6 M H hO (fun v s => hS _ s)
    rw [if_neg (fun y => q1 ⟨k1, y⟩)] at e
    refine r_isL (w := 43) (by omega) rfl M (fun q => ?_) (fun q1 => ?_)
    · rw [if_pos q.2] at e
      obtain ⟨p5, p6⟩ := go () 3 (by omega) e
      exact m_road (x := (R 1 3).toNat) (l := (R 1 3 + R 1 4).toNat) (ta := 0) (S := fun u => S (bump 3 u)) hB hg hh N W k1 (by omega) (by omega) p5 p6 M H hO (fun v s => hS _ s)
    rw [if_neg (fun y => q1 ⟨k1, y⟩)] at e
    refine r_isL (w := 5) (by omega) rfl M (fun q => ?_) (fun q1 => ?_)
    · rw [if_pos q.2] at e
      obtain ⟨p5, p6⟩ := go () 4 (by omega) e
      exact m_bridge (x := (R 1 4).toNat) (l := (R 1 3 + R 1 4).toNat) (ta := 0) (S := fun u => S (bump 4 u)) hB hg hh N W k1 (by omega) (by omega) p5 p6 M H hO (fun v s => hS _ s)
    rw [if_neg (fun y => q1 ⟨k1, y⟩)] at e
    refine r_isL (w := 47) (by omega) rfl M (fun q => ?_) (fun q1 => ?_)
    · rw [if_pos q.2] at e
      obtain ⟨p5, p6⟩ := go () 5 (by omega) e
      exact m_take (x := (R 1 5).toNat) (l := (R 1 3 + R 1 4).toNat) (ta := 0) (S := fun u => S (bump 5 u)) hB hg hh N W k1 (by omega) p5 p6 M H hO (fun v s => hS _ s)
    rw [if_neg (fun y => q1 ⟨k1, y⟩)] at e
    refine r_isL (w := 14) (by omega) rfl M (fun q => ?_) (fun q1 => ?_)
    · rw [if_pos q.2] at e
      obtain ⟨p5, p6⟩ := go () 6 (by omega) e
      exact m_free (x := (R 1 6).toNat) (l := (R 1 3 + R 1 4).toNat) (ta := 0) (S := fun u => S (bump 6 u)) hB hg hh N W k1 (by omega) p5 p6 M H hO (fun v s => hS _ s)
    rw [if_neg (fun y => q1 ⟨k1, y⟩)] at e
    refine r_isL (w := 2) (by omega) rfl M (fun q => ?_) (fun q1 => ?_)
    · rw [if_pos q.2] at e
      obtain ⟨p5, p6⟩ := go () 7 (by omega) e
      exact m_as (x := (R 1 7).toNat) (l := (R 1 3 + R 1 4).toNat) (ta := 0) (S := fun u => S (bump 7 u)) hB hg hh N W k1 (by omega) p5 p6 M H hO (fun v s => hS _ s)
    rw [if_neg (fun y => q1 ⟨k1, y⟩)] at e
    refine r_isL (w := 42) (by omega) rfl M (fun q => ?_) (fun q1 => ?_)
    · rw [if_pos q.2] at e
      obtain ⟨p5, p6⟩ := go () 8 (by omega) e
      exact m_renew (x := (R 1 8).toNat) (l := (R 1 3 + R 1 4).toNat) (ta := 0) (S := fun u => S (bump 8 u)) hB hg hh N W k1 (by omega) p5 p6 M H hO (fun v s => hS _ s)
    rw [if_neg (fun y => q1 ⟨k1, y⟩)] at e
    refine r_isL (w := 24) (by omega) rfl M (fun q => ?_) (fun q1 => ?_)
    · rw [if_pos q.2] at e
      obtain ⟨p5, p6⟩ := go () 9 (by omega) e
      exact m_loss (x := (R 1 9).toNat) (S := fun u => S (bump 9 u)) hB hg hh N W k1 (by omega) p5 p6 M H hO (fun v s => hS _ s)
    rw [if_neg (fun y => q1 ⟨k1, y⟩)] at e
    refine r_isL (w := 19) (by omega) rfl M (fun q => ?_) (fun q1 => ?_)
    · rw [if_pos q.2] at e
      obtain ⟨p5, p6⟩ := go () 10 (by omega) e
      exact m_law (x := (R 1 10).toNat) (l := (R 1 3 + R 1 4).toNat) (ta := 0) (S := fun u => S (bump 10 u)) hB hg hh N W k1 (by omega) p5 p6 M H hO (fun v s => hS _ s)
    rw [if_neg (fun y => q1 ⟨k1, y⟩)] at e
    refine r_isL (w := 7) (by omega) rfl M (fun q => ?_) (fun q1 => ?_)
    · rw [if_pos q.2] at e
      obtain ⟨p5, p6⟩ := go () 11 (by omega) e
      exact m_cart (x := (R 1 11).toNat) (l := (R 1 3 + R 1 4).toNat) (ta := 0) (S := fun u => S (bump 11 u)) hB hg hh N W k1 (by omega) p5 p6 M H hO (fun v s => hS _ s)
    rw [if_neg (fun y => q1 ⟨k1, y⟩)] at e
    exact bad () e
  · have e : rs b n a = -1 := if_neg k1
    exact r_isN k1 M (r_isN k1 M (r_isN k1 M (r_isN k1 M (r_isN k1 M (r_isN k1 M (r_isN k1 M (r_isN k1 M (r_isN k1 M (r_isN k1 M (r_isN k1 M (r_isN k1 M (bad () e))))))))))))
theorem sum_le {m : Nat} {so nu : F1} {R : IV} (N : NI m so nu R) : sumL R ≤ 71 := by
  have cp := N.cap
  unfold sumL
  omega
theorem o_48 {B : Nat} {iv : IV} {rv : RV} {K : IV → Prop} (hh : hMm rv 66 4) (o : iv 66 9 = 5) (h : K iv) : bd_X12_readRealm_48 iv rv K :=
  ⟨hh, fun _ => o_wrong o h, fun _ => ⟨fun _ => h, fun _ => o_wrong o h⟩⟩
theorem m_loop {B : Nat} {b : Nat → Int} {n : Nat} {iv0 : IV} {rv : RV} {K : IV → Prop} {F : Int → Nat → Prop} {S : Ps → Prop} {P : Int → IV → Prop} (hB : 80 ≤ B) (hg : gR rv 66 4 = B) (hh : hMm rv 66 4) (hP : ∀ (l1' : Int) (iv' : IV), bd_X12_readRealm_2 P l1' iv' rv K → P l1' iv') (hO : FlM F B iv0 K) (hS : ∀ v, S v → GoodV v → Okm B b n iv0 K v) :
    ∀ (d : Nat) (v : Ps) (a : Nat) (iv : IV), GoodV v → 899 ≤ sumL v.2.2.2.2.2 + (d : Nat) → MR B b n a v.2.1 v.2.2.1 v.2.2.2.1 v.2.2.2.2.1 iv → MH B v.2.2.2.2.2 iv → FrB B iv0 iv → pl_line b n v a F (fun u => pl_rest b n d u F (fun w => ((w.2.2.2.2.2 1 0 < 2 ∨ w.2.2.2.2.2 1 10 = 0) → F 6 (st b n w.1)) ∧ (¬ (w.2.2.2.2.2 1 0 < 2 ∨ w.2.2.2.2.2 1 10 = 0) → S w))) → P 1 iv
  | d, (a0, m, c, so, nu, R), a, iv, G, hs, M, H, fr, p => by
    have bad : Unit → ∀ (k : Int) (q : Nat), F k q → ∀ iv' : IV, Ov B iv0 k q iv' → P 0 iv' := fun _ k q f iv' o => hP _ _ ⟨fun _ => ⟨fun y => absurd (o.2.1.symm.trans y) (by decide), fun _ => o_wrong o.2.1 (o_48 (B := B) hh o.2.1 (hO _ _ f iv' o))⟩, fun y => absurd rfl y⟩
    refine hP _ _ ⟨fun y => absurd y (by decide), fun _ => ?_⟩
    rcases d_line (b := b) (n := n) (a := a) (a0, m, c, so, nu, R) G with ⟨k, q, kq, e⟩ | ⟨u, ⟨gu, su⟩, e⟩
    · have f := (e _ _).mp p
      have pe : pl_line b n (a0, m, c, so, nu, R) a (fun k' q' => k' = k ∧ q' = q) (fun _ => False) := (e (fun k' q' => k' = k ∧ q' = q) (fun _ => False)).mpr ⟨rfl, rfl⟩
      refine m_line hB hg hh G.1 G.2 pe M H (fun k' q' s iv' o => ?_) (fun _ s => False.elim s)
      obtain ⟨rfl, rfl⟩ := s
      have o' : Ov B iv0 k' q' iv' := ⟨fr.tr o.1, o.2⟩
      exact ⟨fun _ => ⟨fun _ => bad () _ _ f iv' o', fun y => absurd rfl y⟩, fun y => absurd (o.2.1.symm.trans y) (by decide)⟩
    · have s := (e _ _).mp p
      have pe : pl_line b n (a0, m, c, so, nu, R) a (fun _ _ => False) (fun w => w = u) := (e (fun _ _ => False) (fun w => w = u)).mpr rfl
      refine m_line hB hg hh G.1 G.2 pe M H (fun _ _ s => False.elim s) (fun w ew iv' f' M' H' => ?_)
      subst ew
      have fr' := fr.tr f'
      cases d with
      | zero =>
        have := sum_le gu.1
        have su' : sumL w.2.2.2.2.2 = sumL R + 1 := su
        have hs' : 899 ≤ sumL R + ((0 : Nat) : Int) := hs
        omega
      | succ d =>
        have k9 : iv' 66 9 = rk (kd b n w.1) := M'.2.1.1
        obtain ⟨s0, s1, s3⟩ := s
        by_cases k3 : kd b n w.1 = 3
        · have y4 : iv' 66 9 = 4 := by rw [k9]; exact (rk_iff _).2.2.2.mpr k3
          refine ⟨fun y => absurd y4 y, fun _ => ⟨fun y => absurd y (by decide), fun _ => ?_⟩⟩
          refine r_adv hB M' (by rw [k3]; decide) (fun iv2 f2 M2 => ?_)
          refine m_loop hB hg hh hP hO hS d w (nx b n w.1) iv2 gu ?_ M2 ?_ (fr'.tr fun k j q1 q2 => f2 k j (by omega)) (s3 k3)
          · have su' : sumL w.2.2.2.2.2 = sumL R + 1 := su
            have hs' : 899 ≤ sumL R + ((d + 1 : Nat) : Int) := hs
            omega
          · have er : sft B iv2 = sft B iv' := funext fun k => funext fun j => by show iv2 (B + (k - 80)) j = iv' (B + (k - 80)) j; exact f2 _ _ (by omega)
            exact ⟨by rw [er]; exact H'.1, fun g g1 g2 => by rw [f2 _ _ (by omega)]; exact H'.2 g g1 g2⟩
        · have y4 : iv' 66 9 ≠ 4 := fun y => k3 ((rk_iff _).2.2.2.mp (k9.symm.trans y))
          refine ⟨fun _ => ⟨fun _ => hP _ _ ⟨fun _ => ⟨fun y => ?_, fun y => ?_⟩, fun y => absurd rfl y⟩, fun y => absurd rfl y⟩, fun y => absurd y y4⟩
          · have k0 : kd b n w.1 = 0 := (rk_iff _).1.mp (k9.symm.trans y)
            have sf := s0 k0
            have e0 : iv' B 0 = w.2.2.2.2.2 1 0 := H'.1.1 0 (by omega)
            have e10 : iv' B 10 = w.2.2.2.2.2 1 10 := H'.1.1 10 (by omega)
            have six : Unit → (w.2.2.2.2.2 1 0 < 2 ∨ w.2.2.2.2.2 1 10 = 0) → bd_X12_readRealm_69 iv' rv K := fun _ z => r_wrong hB M' fr' (fun iv2 o => hO _ _ (sf.1 z) iv2 o)
            unfold bd_X12_readRealm_48
            rw [hg, e0, e10]
            exact ⟨hh, fun z => six () (Or.inl z), fun z => ⟨fun z2 => hS w (sf.2 (fun q => q.elim z z2)) gu iv' fr' M' H', fun z2 => six () (Or.inr z2)⟩⟩
          · have k0 : kd b n w.1 ≠ 0 := fun q => y (by rw [k9]; exact (rk_iff _).1.mpr q)
            exact r_wrong hB M' fr' (fun iv2 o => o_48 (B := B) hh o.2.1 (hO _ _ (s1 k0 k3) iv2 o))
theorem m_read {B : Nat} {b : Nat → Int} {n : Nat} {R iv : IV} {rv : RV} {K : IV → Prop} {F : Int → Nat → Prop} {S : Ps → Prop} (hB : 80 ≤ B) (hg : gR rv 66 4 = B) (hh : hMm rv 66 4) (z : R0ok R) (T : Txt b n iv) (k : MTk (tok b n 0) iv) (hz : ∀ k j, B ≤ k → k ≤ B + 29 → iv k j = 0) (z12 : iv 66 12 = 0) (p : pl_read b n R F S) (hO : FlM F B iv K) (hS : ∀ v, S v → GoodV v → Okm B b n iv K v) : wp_X12_readRealm iv rv K := by
  intro P hP
  have ng : ∀ g, ¬ hasG R g := fun g q => by
    have c5 := z.1 5 (by omega)
    have c6 := z.1 6 (by omega)
    have c7 := z.1 7 (by omega)
    unfold hasG at q; omega
  have c2 := z.1 2 (by omega)
  have c3 := z.1 3 (by omega)
  have c4 := z.1 4 (by omega)
  have c8 := z.1 8 (by omega)
  have c10 := z.1 10 (by omega)
  have c11 := z.1 11 (by omega)
  have hz' : ∀ k j, k ≤ 109 → sft B iv k j = 0 := fun k j hk => hz _ _ (by omega) (by omega)
  have H : MH B R iv := by
    refine ⟨⟨fun s hs => by rw [hz' _ _ (by omega), z.1 s hs], ⟨by rw [hz' _ _ (by omega)]; omega, fun g _ _ => ⟨hz' _ _ (by omega), hz' _ _ (by omega), hz' _ _ (by omega)⟩⟩, fun i hi => by omega, fun i hi => by omega, fun g hg => absurd hg (ng g), fun i hi => by omega, fun i hi => by omega, fun i hi => by omega⟩, fun g _ _ => hz _ _ (by omega) (by omega)⟩
  have M : MR B b n 0 0 (fun _ => 0) (fun _ => 0) (fun _ => 0) iv := ⟨T, k, Nat.zero_le n, by omega, hz _ _ (by omega) (by omega), fun j hj => absurd hj (Nat.not_lt_zero j), z12⟩
  refine m_loop hB hg hh hP hO hS 899 (v0 R) 0 iv (v0_ok R z) ?_ M H (fun _ _ _ _ => rfl) p
  have c0 := z.1 0 (by omega)
  have c1 := z.1 1 (by omega)
  have c5 := z.1 5 (by omega)
  have c6 := z.1 6 (by omega)
  have c7 := z.1 7 (by omega)
  have c9 := z.1 9 (by omega)
  show 899 ≤ sumL R + ((899 : Nat) : Int)
  unfold sumL
  omega
