/-! THE LAW'S LOOP, open over the pairs -/
theorem lb_31 : (Int8.ofInt 31).toInt32 = Int32.ofInt 31 := by decide
def Pairs (Inv : Nat → IV → RV → Prop) : Prop := Pr_feed Inv ∧ Pr_realm Inv ∧ Pr_fault Inv ∧ Pr_where Inv ∧ Pr_owes Inv ∧ Pr_wins Inv ∧ Pr_judge Inv ∧ Pr_sure Inv ∧ Pr_force Inv ∧ Pr_chain Inv ∧ Pr_ring Inv ∧ Pr_way Inv ∧ Pr_stop Inv ∧ Pr_length Inv ∧ Pr_partner Inv ∧ Pr_saves Inv ∧ Pr_coin Inv ∧ Pr_worth Inv ∧ Pr_hangs Inv ∧ Pr_moves Inv ∧ Pr_brings Inv ∧ Pr_part Inv ∧ Pr_lose Inv ∧ Pr_find Inv ∧ Pr_date Inv ∧ Pr_grant Inv ∧ Pr_cart Inv ∧ Pr_led Inv ∧ Pr_size Inv ∧ Pr_trouble Inv
/-- what the invariant must give at once -/
def InvOk (Inv : Nat → IV → RV → Prop) : Prop := ∀ n iv rv, Inv n iv rv → Lk n rv ∧ (n = 80 ∨ n = 110) ∧ iv 63 3 ≤ 8
set_option maxRecDepth 20000 in
theorem law_loop {Γ : GX} {Inv : Nat → IV → RV → Prop} {Ln : Nat} {xs : Nat → Int32} (X : Cx Γ RL cL_law 7 17) (hQ : LQ Γ) (hLT : LT Γ) (hs : SX Γ Ln xs) (hL : Ln ≤ 3072) (hp : Pairs Inv) (hOk : InvOk Inv) :
    ∀ (m : Nat) (i : Int) (n : Nat) (iv : IV) (rv : RV) (u v : Nat), 0 ≤ i → i ≤ 4000 → Ln ≤ i + 6 * m + 5 → u + 31 * m ≤ 600000 → v + 456 * m ≤ 7290000 → Inv n iv rv → G Γ 7 23 (LwL i) [] n iv rv u v := by
  have exit_ : ∀ (i : Int) (n : Nat) (iv : IV) (rv : RV) (u v : Nat), u ≤ 600000 → v ≤ 7290000 → G Γ 7 1415 (LwL i) [] n iv rv u v := by
    intro i n iv rv u v h1 h2
    refine g_iconst (q := 1416) 1 X dL_law_1415 rfl rfl (by unfold inI; omega) ?_
    exact g_lawret X hQ (by omega) (by omega)
  have head : ∀ (i : Int) (n : Nat) (iv : IV) (rv : RV) (u v : Nat), ((Ln : Int) - 6 < i → G Γ 7 1415 (LwL i) [] n iv rv u v) → (¬ ((Ln : Int) - 6 < i) → G Γ 7 33 (LwL i) [] n iv rv u v) → G Γ 7 23 (LwL i) [] n iv rv u v := by
    intro i n iv rv u v h1 h2
    refine g_iload (q := 25) 4 X dL_law_23 rfl rfl ?_
    refine g_aload_n (q := 26) 0 X dL_law_25 rfl rfl rfl ?_
    refine g_slen (q := 27) X hs (by omega) dL_law_26 rfl ?_
    refine g_bipush (q := 29) 6 X dL_law_27 rfl bc_6 (by unfold inI; omega) ?_
    refine g_isub (q := 30) X dL_law_29 rfl ?_
    rw [show w32 ((Ln : Int) - 6) = (Ln : Int) - 6 from w32_id (by omega) (by omega)]
    exact g_icmp_gt (q := 33) 1415 X dL_law_30 (by decide) rfl h1 h2
  intro m
  induction m with
  | zero =>
    intro i n iv rv u v h0 h4 hm hu hv hI
    exact head i n iv rv u v (fun _ => exit_ i n iv rv u v (by omega) (by omega)) (fun cx => absurd (by omega) cx)
  | succ m ih =>
    intro i n iv rv u v h0 h4 hm hu hv hI
    refine head i n iv rv u v (fun _ => exit_ i n iv rv u v (by omega) (by omega)) (fun cx => ?_)
    have hii : 0 ≤ i ∧ i + 6 ≤ Ln := ⟨h0, by omega⟩
    have hu9 : u ≤ 600000 := by omega
    have hv9 : v ≤ 7290000 := by omega
    have hok := hOk n iv rv hI
    have next : ∀ (n : Nat) (iv : IV) (rv : RV) (u' v' : Nat), u' ≤ u + 31 → v' ≤ v + 456 → Inv n iv rv → G Γ 7 1409 (LwL i) [] n iv rv u' v' := by
      intro n iv rv u' v' h1 h2 h3
      refine g_widen (u + 31) (v + 456) h1 h2 ?_
      refine g_iinc (q := 1412) 4 (L' := LwL (w32 (i + 6))) X dL_law_1409 rfl (by decide) rfl rfl rfl ?_
      refine g_goto (q := 23) X dL_law_1412 (by decide) ?_
      rw [show w32 (i + 6) = i + 6 from w32_id (by omega) (by omega)]
      exact ih (i + 6) n iv rv (u + 31) (v + 456) (by omega) (by omega) (by omega) (by omega) (by omega) h3
    refine g_aload_n (q := 34) 0 X dL_law_33 rfl rfl rfl ?_
    refine g_iload (q := 36) 4 X dL_law_34 rfl rfl ?_
    refine g_sld (q := 37) X hs ⟨by omega, by omega⟩ dL_law_36 rfl ?_
    refine g_bipush (q := 39) 31 X dL_law_37 rfl lb_31 (by unfold inI; omega) ?_
    refine g_iand (q := 40) X dL_law_39 rfl ?_
    generalize (Int32.ofInt (xs i.toNat).toInt &&& Int32.ofInt 31).toInt = w
    have hsw : (w < 0 ∨ 29 < w) ∨ w = 0 ∨ w = 1 ∨ w = 2 ∨ w = 3 ∨ w = 4 ∨ w = 5 ∨ w = 6 ∨ w = 7 ∨ w = 8 ∨ w = 9 ∨ w = 10 ∨ w = 11 ∨ w = 12 ∨ w = 13 ∨ w = 14 ∨ w = 15 ∨ w = 16 ∨ w = 17 ∨ w = 18 ∨ w = 19 ∨ w = 20 ∨ w = 21 ∨ w = 22 ∨ w = 23 ∨ w = 24 ∨ w = 25 ∨ w = 26 ∨ w = 27 ∨ w = 28 ∨ w = 29 := by omega
    rcases hsw with cw | cw | cw | cw | cw | cw | cw | cw | cw | cw | cw | cw | cw | cw | cw | cw | cw | cw | cw | cw | cw | cw | cw | cw | cw | cw | cw | cw | cw | cw | cw
    · refine g_tswOut (q := 1409) X dL_law_40 (by decide) cw ?_
      exact next n iv rv u v (by omega) (by omega) hI
    · refine g_tswIn (q := 176) (off := 136) X dL_law_40 (by omega) (by omega) (by rw [cw]; rfl) (by decide) ?_
      exact lc_feed X hQ hs hii hL hu9 hv9 hok.1 hI (hp.1) (fun n iv rv h => next n iv rv u v (by omega) (by omega) h)
    · refine g_tswIn (q := 249) (off := 209) X dL_law_40 (by omega) (by omega) (by rw [cw]; rfl) (by decide) ?_
      rcases hok.2.1 with rfl | rfl
      · exact lc_realm80 X hQ hs hii hL hu9 hv9 hok.1 hI (hp.2.1) (fun n iv rv h => next n iv rv (u + 30) (v + 450) (by omega) (by omega) h)
      · exact lc_realm110 X hQ hs hii hL hu9 hv9 hok.1 hI (hp.2.1) (fun n iv rv h => next n iv rv (u + 30) (v + 450) (by omega) (by omega) h)
    · refine g_tswIn (q := 274) (off := 234) X dL_law_40 (by omega) (by omega) (by rw [cw]; rfl) (by decide) ?_
      exact lc_fault X hQ hs hii hL hu9 hv9 hok.1 hI (hp.2.2.1) (fun n iv rv h => next n iv rv u v (by omega) (by omega) h)
    · refine g_tswIn (q := 287) (off := 247) X dL_law_40 (by omega) (by omega) (by rw [cw]; rfl) (by decide) ?_
      exact lc_where X hQ hs hii hL hu9 hv9 hok.1 hI (hp.2.2.2.1) (fun n iv rv h => next n iv rv u v (by omega) (by omega) h)
    · refine g_tswIn (q := 300) (off := 260) X dL_law_40 (by omega) (by omega) (by rw [cw]; rfl) (by decide) ?_
      exact lc_owes X hQ hs hii hL hu9 hv9 hok.1 hI (hp.2.2.2.2.1) (fun n iv rv h => next n iv rv u v (by omega) (by omega) h)
    · refine g_tswIn (q := 361) (off := 321) X dL_law_40 (by omega) (by omega) (by rw [cw]; rfl) (by decide) ?_
      exact lc_wins X hQ hs hii hL hu9 hv9 hok.1 hI (hp.2.2.2.2.2.1) (fun n iv rv h => next n iv rv u v (by omega) (by omega) h)
    · refine g_tswIn (q := 422) (off := 382) X dL_law_40 (by omega) (by omega) (by rw [cw]; rfl) (by decide) ?_
      exact lc_judge X hQ hs hii hL hu9 hv9 hok.1 hI (hp.2.2.2.2.2.2.1) (fun n iv rv h => next n iv rv u v (by omega) (by omega) h)
    · refine g_tswIn (q := 495) (off := 455) X dL_law_40 (by omega) (by omega) (by rw [cw]; rfl) (by decide) ?_
      exact lc_sure X hQ hs hii hL hu9 hv9 hok.1 hI (hp.2.2.2.2.2.2.2.1) (fun n iv rv h => next n iv rv u v (by omega) (by omega) h)
    · refine g_tswIn (q := 584) (off := 544) X dL_law_40 (by omega) (by omega) (by rw [cw]; rfl) (by decide) ?_
      exact lc_force X hQ hs hii hL hu9 hv9 hok.1 hI (hp.2.2.2.2.2.2.2.2.1) (fun n iv rv h => next n iv rv u v (by omega) (by omega) h)
    · refine g_tswIn (q := 633) (off := 593) X dL_law_40 (by omega) (by omega) (by rw [cw]; rfl) (by decide) ?_
      exact lc_chain X hQ hs hii hL hu9 hv9 hok.1 hI (hp.2.2.2.2.2.2.2.2.2.1) (fun n iv rv h => next n iv rv u v (by omega) (by omega) h)
    · refine g_tswIn (q := 694) (off := 654) X dL_law_40 (by omega) (by omega) (by rw [cw]; rfl) (by decide) ?_
      exact lc_ring X hQ hs hii hL hu9 hv9 hok.1 hI (hp.2.2.2.2.2.2.2.2.2.2.1) (fun n iv rv h => next n iv rv u v (by omega) (by omega) h)
    · refine g_tswIn (q := 743) (off := 703) X dL_law_40 (by omega) (by omega) (by rw [cw]; rfl) (by decide) ?_
      exact lc_way X hQ hs hii hL hu9 hv9 hok.1 hI (hp.2.2.2.2.2.2.2.2.2.2.2.1) (fun n iv rv h => next n iv rv u v (by omega) (by omega) h)
    · refine g_tswIn (q := 780) (off := 740) X dL_law_40 (by omega) (by omega) (by rw [cw]; rfl) (by decide) ?_
      exact lc_stop X hQ hs hii hL hu9 hv9 hok.1 hI (hp.2.2.2.2.2.2.2.2.2.2.2.2.1) (fun n iv rv h => next n iv rv u v (by omega) (by omega) h)
    · refine g_tswIn (q := 805) (off := 765) X dL_law_40 (by omega) (by omega) (by rw [cw]; rfl) (by decide) ?_
      exact lc_length X hQ hs hii hL hu9 hv9 hok.1 hI (hp.2.2.2.2.2.2.2.2.2.2.2.2.2.1) (fun n iv rv h => next n iv rv u v (by omega) (by omega) h)
    · refine g_tswIn (q := 818) (off := 778) X dL_law_40 (by omega) (by omega) (by rw [cw]; rfl) (by decide) ?_
      exact lc_partner X hQ hs hii hL hu9 hv9 hok.1 hI (hp.2.2.2.2.2.2.2.2.2.2.2.2.2.2.1) (fun n iv rv h => next n iv rv u v (by omega) (by omega) h)
    · refine g_tswIn (q := 855) (off := 815) X dL_law_40 (by omega) (by omega) (by rw [cw]; rfl) (by decide) ?_
      exact lc_saves X hQ hs hii hL hu9 hv9 hok.1 hI (hp.2.2.2.2.2.2.2.2.2.2.2.2.2.2.2.1) (fun n iv rv h => next n iv rv u v (by omega) (by omega) h)
    · refine g_tswIn (q := 904) (off := 864) X dL_law_40 (by omega) (by omega) (by rw [cw]; rfl) (by decide) ?_
      exact lc_coin X hQ hs hii hL hu9 hv9 hok.1 hI (hp.2.2.2.2.2.2.2.2.2.2.2.2.2.2.2.2.1) (fun n iv rv h => next n iv rv u v (by omega) (by omega) h)
    · refine g_tswIn (q := 929) (off := 889) X dL_law_40 (by omega) (by omega) (by rw [cw]; rfl) (by decide) ?_
      exact lc_worth X hQ hs hii hL hu9 hv9 hok.1 hI (hp.2.2.2.2.2.2.2.2.2.2.2.2.2.2.2.2.2.1) (fun n iv rv h => next n iv rv u v (by omega) (by omega) h)
    · refine g_tswIn (q := 966) (off := 926) X dL_law_40 (by omega) (by omega) (by rw [cw]; rfl) (by decide) ?_
      exact lc_hangs X hQ hs hii hL hu9 hv9 hok.1 hI (hp.2.2.2.2.2.2.2.2.2.2.2.2.2.2.2.2.2.2.1) (fun n iv rv h => next n iv rv u v (by omega) (by omega) h)
    · refine g_tswIn (q := 991) (off := 951) X dL_law_40 (by omega) (by omega) (by rw [cw]; rfl) (by decide) ?_
      exact lc_moves X hQ hs hii hL hu9 hv9 hok.1 hI (hp.2.2.2.2.2.2.2.2.2.2.2.2.2.2.2.2.2.2.2.1) (fun n iv rv h => next n iv rv u v (by omega) (by omega) h)
    · refine g_tswIn (q := 1028) (off := 988) X dL_law_40 (by omega) (by omega) (by rw [cw]; rfl) (by decide) ?_
      exact lc_brings X hQ hs hii hL hu9 hv9 hok.1 hI (hp.2.2.2.2.2.2.2.2.2.2.2.2.2.2.2.2.2.2.2.2.1) (fun n iv rv h => next n iv rv u v (by omega) (by omega) h)
    · refine g_tswIn (q := 1089) (off := 1049) X dL_law_40 (by omega) (by omega) (by rw [cw]; rfl) (by decide) ?_
      exact lc_part X hQ hs hii hL hu9 hv9 hok.1 hI (hp.2.2.2.2.2.2.2.2.2.2.2.2.2.2.2.2.2.2.2.2.2.1) (fun n iv rv h => next n iv rv u v (by omega) (by omega) h)
    · refine g_tswIn (q := 1126) (off := 1086) X dL_law_40 (by omega) (by omega) (by rw [cw]; rfl) (by decide) ?_
      exact lc_lose X hQ hs hii hL hu9 hv9 hok.1 hI (hp.2.2.2.2.2.2.2.2.2.2.2.2.2.2.2.2.2.2.2.2.2.2.1) (fun n iv rv h => next n iv rv u v (by omega) (by omega) h)
    · refine g_tswIn (q := 1179) (off := 1139) X dL_law_40 (by omega) (by omega) (by rw [cw]; rfl) (by decide) ?_
      exact lc_find X hQ hs hii hL hu9 hv9 hok.1 hI (hp.2.2.2.2.2.2.2.2.2.2.2.2.2.2.2.2.2.2.2.2.2.2.2.1) (fun n iv rv h => next n iv rv u v (by omega) (by omega) h)
    · refine g_tswIn (q := 1204) (off := 1164) X dL_law_40 (by omega) (by omega) (by rw [cw]; rfl) (by decide) ?_
      exact lc_date X hQ hs hii hL hu9 hv9 hok.1 hI (hp.2.2.2.2.2.2.2.2.2.2.2.2.2.2.2.2.2.2.2.2.2.2.2.2.1) (fun n iv rv h => next n iv rv u v (by omega) (by omega) h)
    · refine g_tswIn (q := 1241) (off := 1201) X dL_law_40 (by omega) (by omega) (by rw [cw]; rfl) (by decide) ?_
      exact lc_grant X hQ hs hii hL hu9 hv9 hok.1 hI (hp.2.2.2.2.2.2.2.2.2.2.2.2.2.2.2.2.2.2.2.2.2.2.2.2.2.1) (fun n iv rv h => next n iv rv u v (by omega) (by omega) h)
    · refine g_tswIn (q := 1278) (off := 1238) X dL_law_40 (by omega) (by omega) (by rw [cw]; rfl) (by decide) ?_
      exact lc_cart X hQ hs hii hL hu9 hv9 hok.1 hI (hp.2.2.2.2.2.2.2.2.2.2.2.2.2.2.2.2.2.2.2.2.2.2.2.2.2.2.1) (fun n iv rv h => next n iv rv u v (by omega) (by omega) h)
    · refine g_tswIn (q := 1315) (off := 1275) X dL_law_40 (by omega) (by omega) (by rw [cw]; rfl) (by decide) ?_
      exact lc_led X hQ hLT hs hii hL hu9 hv9 hok.1 hI hok.2.2 (hp.2.2.2.2.2.2.2.2.2.2.2.2.2.2.2.2.2.2.2.2.2.2.2.2.2.2.2.1) (fun n iv rv h => next n iv rv (u + 1) (v + 6) (by omega) (by omega) h)
    · refine g_tswIn (q := 1371) (off := 1331) X dL_law_40 (by omega) (by omega) (by rw [cw]; rfl) (by decide) ?_
      exact lc_size X hQ hs hii hL hu9 hv9 hok.1 hI (hp.2.2.2.2.2.2.2.2.2.2.2.2.2.2.2.2.2.2.2.2.2.2.2.2.2.2.2.2.1) (fun n iv rv h => next n iv rv u v (by omega) (by omega) h)
    · refine g_tswIn (q := 1396) (off := 1356) X dL_law_40 (by omega) (by omega) (by rw [cw]; rfl) (by decide) ?_
      exact lc_trouble X hQ hs hii hL hu9 hv9 hok.1 hI (hp.2.2.2.2.2.2.2.2.2.2.2.2.2.2.2.2.2.2.2.2.2.2.2.2.2.2.2.2.2) (fun n iv rv h => next n iv rv u v (by omega) (by omega) h)
