/-! THE READER: the reference's lines, papers and carts -/
theorem m_take {B : Nat} {b : Nat → Int} {n a m x l ta : Nat} {c so nu : F1} {R iv0 : IV} {rv : RV} {K : IV → Prop} {F : Int → Nat → Prop} {S : Ps → Prop} (hB : 80 ≤ B) (hg : gR rv 66 4 = B) (hh : hMm rv 66 4) (N : NI m so nu R) (W : RW R) (k1 : kd b n a = 1) (hx : R 1 5 = (x : Nat)) (p5 : ¬ (R 1 5 < roomL.getD 5 0) → F 5 (st b n a)) (p : R 1 5 < roomL.getD 5 0 → pl_take b n m c so nu R x l ta (nx b n a) F S) (M : MR B b n a m c so nu iv0) (H : MH B R iv0) (hO : FlM F B iv0 K) (hS : ∀ v, S v → Okm B b n iv0 K (bump 5 v)) : wp_X12_readTake iv0 rv K := by
  have cp := N.cap
  have hm := N.1
  have ec : iv0 B 5 = R 1 5 := H.1.1 5 (by omega)
  unfold wp_X12_readTake
  rw [hg]
  refine ⟨hh, ?_⟩
  rw [ec]
  refine r_begins (F := F) hB k1 (by omega) p5 (fun _ _ _ _ _ => rfl) M (fun _ _ f iv' o => o_fresh hg hh o.2.1 o.2.2.2.2 (o_needs o.2.1 (o_use hg hh o.2.1 o.2.2.2.2 (fun _ => o_needs o.2.1 (o_good hg hh o.2.1 o.2.2.2.2 (fun _ => o_needs o.2.1 (o_whole o.2.1 (fun _ => ⟨fun y => absurd o.2.1 y, fun _ => hO _ _ f iv' o⟩)))))))) (fun room iv fr M => ?_)
  replace p := p room
  replace room : R 1 5 < 6 := room
  have ex : iv B 5 = (x : Nat) := by rw [fr _ _ (by omega) (by omega) (by omega), ec, hx]
  rw [ex]
  refine r_fresh (s := 5) (num := ((x : Nat) : Int)) hB hg hh (by decide) (by omega) p fr M (fun _ _ f iv' o => o_needs o.2.1 (o_use hg hh o.2.1 o.2.2.2.2 (fun _ => o_needs o.2.1 (o_good hg hh o.2.1 o.2.2.2.2 (fun _ => o_needs o.2.1 (o_whole o.2.1 (fun _ => ⟨fun y => absurd o.2.1 y, fun _ => hO _ _ f iv' o⟩))))))) (fun s0 p iv fr M => r_needs hB (by omega) rfl p fr M (fun _ _ f iv' o => o_use hg hh o.2.1 o.2.2.2.2 (fun _ => o_needs o.2.1 (o_good hg hh o.2.1 o.2.2.2.2 (fun _ => o_needs o.2.1 (o_whole o.2.1 (fun _ => ⟨fun y => absurd o.2.1 y, fun _ => hO _ _ f iv' o⟩)))))) (fun s1 p iv fr M => r_use (lo := 4) (hi := 4) hB hg hh so4 p fr M (fun _ _ f iv' o _ => o_needs o.2.1 (o_good hg hh o.2.1 o.2.2.2.2 (fun _ => o_needs o.2.1 (o_whole o.2.1 (fun _ => ⟨fun y => absurd o.2.1 y, fun _ => hO _ _ f iv' o⟩))))) (fun s2 p iv fr M => r_needs hB (by omega) rfl p fr M (fun _ _ f iv' o => o_good hg hh o.2.1 o.2.2.2.2 (fun _ => o_needs o.2.1 (o_whole o.2.1 (fun _ => ⟨fun y => absurd o.2.1 y, fun _ => hO _ _ f iv' o⟩)))) (fun s3 p iv fr M => r_good hB hg hh p fr M (fun _ _ f iv' o _ => o_needs o.2.1 (o_whole o.2.1 (fun _ => ⟨fun y => absurd o.2.1 y, fun _ => hO _ _ f iv' o⟩))) (fun s4 p iv fr M => r_needs hB (by omega) rfl p fr M (fun _ _ f iv' o => o_whole o.2.1 (fun _ => ⟨fun y => absurd o.2.1 y, fun _ => hO _ _ f iv' o⟩)) (fun s5 p iv fr M => r_whole hB p fr M (fun _ _ f iv' o _ => ⟨fun y => absurd o.2.1 y, fun _ => hO _ _ f iv' o⟩) (fun s6 p iv fr M => ?_)))))))
  refine ⟨fun _ => ?_, fun y => absurd y M.n5⟩
  clear ex
  have ex : iv B 5 = (x : Nat) := by rw [fr _ _ (by omega) (by omega) (by omega), ec, hx]
  rw [ex]
  refine r_day (g := x) hB hg hh (by omega) p fr M (fun _ _ f iv' o => ⟨fun y => absurd o.2.1 y, fun _ => hO _ _ f iv' o⟩) (fun s7 p iv fd d10 d11 M => ?_)
  clear ex
  have ex : iv B 5 = (x : Nat) := by rw [fd _ _ (by omega) (by omega) (by omega) (by omega) (by omega), ec, hx]
  refine ⟨fun _ => ?_, fun y => absurd y M.n5⟩
  refine ⟨⟨by omega, by omega⟩, fun iu0 e0 => ?_⟩
  rw [ex, Int.toNat_natCast] at e0
  have x0 : iu0 B 5 = (x : Nat) := by rw [e0, w2_ne (by omega)]; exact ex
  refine ⟨⟨by omega, by omega⟩, fun iu1 e1 => ?_⟩
  rw [x0, Int.toNat_natCast] at e1
  have x1 : iu1 B 5 = (x : Nat) := by rw [e1, w2_ne (by omega)]; exact x0
  refine ⟨⟨by omega, by omega⟩, fun iu2 e2 => ?_⟩
  rw [x1, Int.toNat_natCast] at e2
  have x2 : iu2 B 5 = (x : Nat) := by rw [e2, w2_ne (by omega)]; exact x1
  intro ivz ez
  rw [x2, w32_id (by omega) (by omega)] at ez
  have fB : FrB B iv0 ivz := fun k j q1 q2 => by rw [ez, w2_ne (by omega), e2, w2_ne (by omega), e1, w2_ne (by omega), e0, w2_ne (by omega)]; exact fd k j (by omega) (by omega) (by omega) (by omega) (by omega)
  have Mz := M.congr (iv' := ivz) (fun k j q => by rw [ez, w2_ne (by omega), e2, w2_ne (by omega), e1, w2_ne (by omega), e0, w2_ne (by omega)])
  have hz : ∀ g, 12 ≤ g → g < 16 → ivz (B + 9) g = 0 := fun g g1 g2 => by rw [ez, w2_ne (by omega), e2, w2_ne (by omega), e1, w2_ne (by omega), e0, w2_ne (by omega), fd _ _ (by omega) (by omega) (by omega) (by omega) (by omega)]; exact H.2 g g1 g2
  have eS : sft B ivz 80 5 = R 1 5 + 1 := by show ivz B 5 = _; rw [ez, w2_eq]; omega
  have uo : ∀ k j, 80 ≤ k ∧ k ≤ 106 ∧ ¬ (k = 80 ∧ j = 12) ∧ ¬ ((k = 80 ∧ j = 5) ∨ (k = 87 ∧ j = x) ∨ (k = 88 ∧ j = x) ∨ (k = 89 ∧ j = x) ∨ (k = 90 ∧ j = x) ∨ (k = 91 ∧ j = x)) → sft B ivz k j = sft B iv0 k j := fun k j q => by show ivz (B + (k - 80)) j = iv0 (B + (k - 80)) j; rw [ez, w2_ne (by omega), e2, w2_ne (by omega), e1, w2_ne (by omega), e0, w2_ne (by omega), fd _ _ (by omega) (by omega) (by omega) (by omega) (by omega)]
  obtain ⟨fe, fo, f11, f12, f13, f8, f9⟩ := f_take (R := R) (x := x) (v11 := s2.1) (v12 := s4.1) (v13 := s6.1) (v8 := s7.1) (v9 := s7.2.1) ⟨by omega, by omega⟩ rfl
  exact hS _ p ivz fB Mz ⟨n_take H.1 W (cap3 N) ⟨by omega, room⟩ hx fe eS fo uo f11 (by show ivz (B + 7) x = _; rw [ez, w2_ne (by omega), e2, w2_ne (by omega), e1, w2_ne (by omega), e0, w2_eq]) f12 (by show ivz (B + 8) x = _; rw [ez, w2_ne (by omega), e2, w2_ne (by omega), e1, w2_eq]) f13 (by show ivz (B + 9) x = _; rw [ez, w2_ne (by omega), e2, w2_eq]) f8 (by show ivz (B + 10) x = _; rw [ez, w2_ne (by omega), e2, w2_ne (by omega), e1, w2_ne (by omega), e0, w2_ne (by omega), d10]) f9 (by show ivz (B + 11) x = _; rw [ez, w2_ne (by omega), e2, w2_ne (by omega), e1, w2_ne (by omega), e0, w2_ne (by omega), d11]), hz⟩
theorem m_as {B : Nat} {b : Nat → Int} {n a m x l ta : Nat} {c so nu : F1} {R iv0 : IV} {rv : RV} {K : IV → Prop} {F : Int → Nat → Prop} {S : Ps → Prop} (hB : 80 ≤ B) (hg : gR rv 66 4 = B) (hh : hMm rv 66 4) (N : NI m so nu R) (W : RW R) (k1 : kd b n a = 1) (hx : R 1 7 = (x : Nat)) (p5 : ¬ (R 1 7 < roomL.getD 7 0) → F 5 (st b n a)) (p : R 1 7 < roomL.getD 7 0 → pl_as b n m c so nu R x l ta (nx b n a) F S) (M : MR B b n a m c so nu iv0) (H : MH B R iv0) (hO : FlM F B iv0 K) (hS : ∀ v, S v → Okm B b n iv0 K (bump 7 v)) : wp_X12_readAlike iv0 rv K := by
  have cp := N.cap
  have hm := N.1
  have ec : iv0 B 7 = R 1 7 := H.1.1 7 (by omega)
  have ew : Unit → w32 (12 + (x : Int)) = ((12 + x : Nat) : Int) := fun _ => by rw [w32_id (by omega) (by omega)]; omega
  unfold wp_X12_readAlike
  rw [hg]
  refine ⟨hh, ?_⟩
  rw [ec]
  refine r_begins (F := F) hB k1 (by omega) p5 (fun _ _ _ _ _ => rfl) M (fun _ _ f iv' o => fun _ _ => o_fresh hg hh o.2.1 o.2.2.2.2 (o_needs o.2.1 (o_use hg hh o.2.1 o.2.2.2.2 (fun _ => o_needs o.2.1 (o_other hg hh o.2.1 o.2.2.2.2 (fun _ => o_day o.2.1 (⟨fun y => absurd o.2.1 y, fun _ => hO _ _ f iv' o⟩))))))) (fun room iv fr M => ?_)
  replace p := p room
  replace room : R 1 7 < 4 := room
  have ex : iv B 7 = (x : Nat) := by rw [fr _ _ (by omega) (by omega) (by omega), ec, hx]
  rw [ex, ew ()]
  intro g eg
  subst eg
  refine r_fresh (s := 7) (num := ((12 + x : Nat) : Int)) hB hg hh (by decide) (by omega) p fr M (fun _ _ f iv' o => o_needs o.2.1 (o_use hg hh o.2.1 o.2.2.2.2 (fun _ => o_needs o.2.1 (o_other hg hh o.2.1 o.2.2.2.2 (fun _ => o_day o.2.1 ⟨fun y => absurd o.2.1 y, fun _ => hO _ _ f iv' o⟩))))) (fun s0 p iv fr M => r_needs hB (by omega) rfl p fr M (fun _ _ f iv' o => o_use hg hh o.2.1 o.2.2.2.2 (fun _ => o_needs o.2.1 (o_other hg hh o.2.1 o.2.2.2.2 (fun _ => o_day o.2.1 ⟨fun y => absurd o.2.1 y, fun _ => hO _ _ f iv' o⟩)))) (fun s1 p iv fr M => r_use (lo := 0) (hi := 0) hB hg hh so0 p fr M (fun _ _ f iv' o _ => o_needs o.2.1 (o_other hg hh o.2.1 o.2.2.2.2 (fun _ => o_day o.2.1 ⟨fun y => absurd o.2.1 y, fun _ => hO _ _ f iv' o⟩))) (fun s2 p iv fr M => r_needs hB (by omega) rfl p fr M (fun _ _ f iv' o => o_other hg hh o.2.1 o.2.2.2.2 (fun _ => o_day o.2.1 ⟨fun y => absurd o.2.1 y, fun _ => hO _ _ f iv' o⟩)) (fun s3 p iv fr M => r_other hB hg hh p fr M (fun _ _ f iv' o _ => o_day o.2.1 ⟨fun y => absurd o.2.1 y, fun _ => hO _ _ f iv' o⟩) (fun s4 p iv fr M => ?_)))))
  refine r_day (g := 12 + x) hB hg hh (by omega) p fr M (fun _ _ f iv' o => ⟨fun y => absurd o.2.1 y, fun _ => hO _ _ f iv' o⟩) (fun s7 p iv fd d10 d11 M => ?_)
  clear ex
  have ex : iv B 7 = (x : Nat) := by rw [fd _ _ (by omega) (by omega) (by omega) (by omega) (by omega), ec, hx]
  refine ⟨fun _ => ?_, fun y => absurd y M.n5⟩
  refine ⟨⟨by omega, by omega⟩, fun iu0 e0 => ?_⟩
  rw [Int.toNat_natCast] at e0
  refine ⟨⟨by omega, by omega⟩, fun iu1 e1 => ?_⟩
  rw [Int.toNat_natCast] at e1
  intro ivz ez
  have xl : iu1 B 7 = (x : Nat) := by rw [e1, w2_ne (by omega), e0, w2_ne (by omega)]; exact ex
  rw [xl, w32_id (by omega) (by omega)] at ez
  have fB : FrB B iv0 ivz := fun k j q1 q2 => by rw [ez, w2_ne (by omega), e1, w2_ne (by omega), e0, w2_ne (by omega)]; exact fd k j (by omega) (by omega) (by omega) (by omega) (by omega)
  have Mz := M.congr (iv' := ivz) (fun k j q => by rw [ez, w2_ne (by omega), e1, w2_ne (by omega), e0, w2_ne (by omega)])
  have hz : ∀ g, 12 ≤ g → g < 16 → ivz (B + 9) g = 0 := fun g g1 g2 => by rw [ez, w2_ne (by omega), e1, w2_ne (by omega), e0, w2_ne (by omega), fd _ _ (by omega) (by omega) (by omega) (by omega) (by omega)]; exact H.2 g g1 g2
  have eS : sft B ivz 80 7 = R 1 7 + 1 := by show ivz B 7 = _; rw [ez, w2_eq]; omega
  have uo : ∀ k j, 80 ≤ k ∧ k ≤ 106 ∧ ¬ (k = 80 ∧ j = 12) ∧ ¬ ((k = 80 ∧ j = 7) ∨ (k = 87 ∧ j = (12 + x)) ∨ (k = 88 ∧ j = (12 + x)) ∨ (k = 89 ∧ j = (12 + x)) ∨ (k = 90 ∧ j = (12 + x)) ∨ (k = 91 ∧ j = (12 + x))) → sft B ivz k j = sft B iv0 k j := fun k j q => by show ivz (B + (k - 80)) j = iv0 (B + (k - 80)) j; rw [ez, w2_ne (by omega), e1, w2_ne (by omega), e0, w2_ne (by omega), fd _ _ (by omega) (by omega) (by omega) (by omega) (by omega)]
  obtain ⟨fe, fo, f11, f12, f13, f8, f9⟩ := f_as (R := R) (x := x) (v11 := s2.1) (v12 := s4.1) (v13 := 0) (v8 := s7.1) (v9 := s7.2.1) ⟨by omega, by omega⟩ rfl
  exact hS _ p ivz fB Mz ⟨n_as H.1 W (cap3 N) ⟨by omega, room⟩ hx fe eS fo uo f11 (by show ivz (B + 7) (12 + x) = _; rw [ez, w2_ne (by omega), e1, w2_ne (by omega), e0, w2_eq]) f12 (by show ivz (B + 8) (12 + x) = _; rw [ez, w2_ne (by omega), e1, w2_eq]) f13 (hz (12 + x) (by omega) (by omega)) f8 (by show ivz (B + 10) (12 + x) = _; rw [ez, w2_ne (by omega), e1, w2_ne (by omega), e0, w2_ne (by omega), d10]) f9 (by show ivz (B + 11) (12 + x) = _; rw [ez, w2_ne (by omega), e1, w2_ne (by omega), e0, w2_ne (by omega), d11]), hz⟩
theorem o_free111 {l1 l2 l3 l4 : Int} {iv : IV} {rv : RV} {K : IV → Prop} (o : iv 66 9 = 5) (h : K iv) : bd_X12_readFree_111 l1 l2 l3 l4 iv rv K :=
  o_go o (o_day o ⟨fun y => absurd o y, fun _ => h⟩)
theorem o_free98 {l1 l2 l3 l4 : Int} {iv : IV} {rv : RV} {K : IV → Prop} (o : iv 66 9 = 5) (h : K iv) : bd_X12_readFree_98 l1 l2 l3 l4 iv rv K :=
  ⟨fun _ => o_free111 o h, fun _ => o_wrong o (o_free111 o h)⟩
theorem o_ren87 {l1 l2 : Int} {iv : IV} {rv : RV} {K : IV → Prop} (o : iv 66 9 = 5) (h : K iv) : bd_X12_readRenewal_87 l1 l2 iv rv K :=
  o_go o (o_needs o (o_whole o (fun _ => ⟨fun y => absurd o y, fun _ => h⟩)))
theorem o_ren76 {l1 l2 : Int} {iv : IV} {rv : RV} {K : IV → Prop} (o : iv 66 9 = 5) (h : K iv) : bd_X12_readRenewal_76 l1 l2 iv rv K :=
  ⟨fun _ => o_ren87 o h, fun _ => o_wrong o (o_ren87 o h)⟩
theorem o_ren29 {l1 : Int} {iv : IV} {rv : RV} {K : IV → Prop} (o : iv 66 9 = 5) (h : K iv) : bd_X12_readRenewal_29 l1 iv rv K :=
  o_go o (o_isWord o ⟨fun _ => o_isWord o ⟨fun _ => o_isWord o ⟨fun _ => o_ren76 o h, fun y => absurd rfl y⟩, fun y => absurd rfl y⟩, fun y => absurd rfl y⟩)
theorem o_loss35 {l1 : Int} {iv : IV} {rv : RV} {K : IV → Prop} (o : iv 66 9 = 5) (h : K iv) : bd_X12_readLoss_35 l1 iv rv K :=
  o_go o (o_eats o ⟨fun y => absurd o y, fun _ => h⟩)
theorem m_free {B : Nat} {b : Nat → Int} {n a m x l ta : Nat} {c so nu : F1} {R iv0 : IV} {rv : RV} {K : IV → Prop} {F : Int → Nat → Prop} {S : Ps → Prop} (hB : 80 ≤ B) (hg : gR rv 66 4 = B) (hh : hMm rv 66 4) (N : NI m so nu R) (W : RW R) (k1 : kd b n a = 1) (hx : R 1 6 = (x : Nat)) (p5 : ¬ (R 1 6 < roomL.getD 6 0) → F 5 (st b n a)) (p : R 1 6 < roomL.getD 6 0 → pl_free b n m c so nu R x l ta (nx b n a) F S) (M : MR B b n a m c so nu iv0) (H : MH B R iv0) (hO : FlM F B iv0 K) (hS : ∀ v, S v → Okm B b n iv0 K (bump 6 v)) : wp_X12_readFree iv0 rv K := by
  have cp := N.cap
  have hm := N.1
  have ec : iv0 B 6 = R 1 6 := H.1.1 6 (by omega)
  have ew : Unit → w32 (6 + (x : Int)) = ((6 + x : Nat) : Int) := fun _ => by rw [w32_id (by omega) (by omega)]; omega
  unfold wp_X12_readFree
  rw [hg]
  refine ⟨hh, ?_⟩
  rw [ec]
  refine r_begins (F := F) hB k1 (by omega) p5 (fun _ _ _ _ _ => rfl) M (fun _ _ f iv' o => fun _ _ => o_fresh hg hh o.2.1 o.2.2.2.2 (o_needs o.2.1 (o_use hg hh o.2.1 o.2.2.2.2 (fun _ => o_needs o.2.1 (o_good hg hh o.2.1 o.2.2.2.2 (fun _ => o_isWord o.2.1 ⟨fun _ => o_isWord o.2.1 ⟨fun _ => o_isWord o.2.1 ⟨fun _ => o_free98 o.2.1 (hO _ _ f iv' o), fun y => absurd rfl y⟩, fun y => absurd rfl y⟩, fun y => absurd rfl y⟩)))))) (fun room iv fr M => ?_)
  replace p := p room
  replace room : R 1 6 < 6 := room
  have ex : iv B 6 = (x : Nat) := by rw [fr _ _ (by omega) (by omega) (by omega), ec, hx]
  rw [ex, ew ()]
  intro g eg
  subst eg
  refine r_fresh (s := 6) (num := ((6 + x : Nat) : Int)) hB hg hh (by decide) (by omega) p fr M (fun _ _ f iv' o => o_needs o.2.1 (o_use hg hh o.2.1 o.2.2.2.2 (fun _ => o_needs o.2.1 (o_good hg hh o.2.1 o.2.2.2.2 (fun _ => o_isWord o.2.1 ⟨fun _ => o_isWord o.2.1 ⟨fun _ => o_isWord o.2.1 ⟨fun _ => o_free98 o.2.1 (hO _ _ f iv' o), fun y => absurd rfl y⟩, fun y => absurd rfl y⟩, fun y => absurd rfl y⟩))))) (fun s0 p iv fr M => r_needs hB (by omega) rfl p fr M (fun _ _ f iv' o => o_use hg hh o.2.1 o.2.2.2.2 (fun _ => o_needs o.2.1 (o_good hg hh o.2.1 o.2.2.2.2 (fun _ => o_isWord o.2.1 ⟨fun _ => o_isWord o.2.1 ⟨fun _ => o_isWord o.2.1 ⟨fun _ => o_free98 o.2.1 (hO _ _ f iv' o), fun y => absurd rfl y⟩, fun y => absurd rfl y⟩, fun y => absurd rfl y⟩)))) (fun s1 p iv fr M => r_use (lo := 0) (hi := 0) hB hg hh so0 p fr M (fun _ _ f iv' o _ => o_needs o.2.1 (o_good hg hh o.2.1 o.2.2.2.2 (fun _ => o_isWord o.2.1 ⟨fun _ => o_isWord o.2.1 ⟨fun _ => o_isWord o.2.1 ⟨fun _ => o_free98 o.2.1 (hO _ _ f iv' o), fun y => absurd rfl y⟩, fun y => absurd rfl y⟩, fun y => absurd rfl y⟩))) (fun s2 p iv fr M => r_needs hB (by omega) rfl p fr M (fun _ _ f iv' o => o_good hg hh o.2.1 o.2.2.2.2 (fun _ => o_isWord o.2.1 ⟨fun _ => o_isWord o.2.1 ⟨fun _ => o_isWord o.2.1 ⟨fun _ => o_free98 o.2.1 (hO _ _ f iv' o), fun y => absurd rfl y⟩, fun y => absurd rfl y⟩, fun y => absurd rfl y⟩)) (fun s3 p iv fr M => r_good hB hg hh p fr M (fun _ _ f iv' o _ => o_isWord o.2.1 ⟨fun _ => o_isWord o.2.1 ⟨fun _ => o_isWord o.2.1 ⟨fun _ => o_free98 o.2.1 (hO _ _ f iv' o), fun y => absurd rfl y⟩, fun y => absurd rfl y⟩, fun y => absurd rfl y⟩) (fun s4 p iv fr M => ?_)))))
  refine r_choice3 (w := 37) (X := fun t => bd_X12_readFree_98 ((6 + x : Nat) : Int) s2.1 s4.1 t iv rv K) (by omega) (by omega) (by omega) rfl rfl rfl am37 M (fun _ q => ?_) (fun _ q => ⟨fun y => absurd rfl y, fun _ => r_wrong hB M fr.b (fun iv' o => o_free111 o.2.1 (hO _ _ (p.2 q) iv' o))⟩)
  replace p := p.1 q
  refine ⟨fun _ => ?_, fun y => by have := q.2; omega⟩
  generalize amg (co b n s4.2.1) (bs 37) 0 0 = s5 at *
  refine r_adv hB M (by rw [q.1]; decide) (fun iv1 f1 M1 => ?_)
  have fr1 : FrN B iv0 iv1 := fr.tr fun k j q1 q2 q3 => f1 k j (by omega)
  refine r_day (g := 6 + x) hB hg hh (by omega) p fr1 M1 (fun _ _ f iv' o => ⟨fun y => absurd o.2.1 y, fun _ => hO _ _ f iv' o⟩) (fun s7 p iv fd d10 d11 M => ?_)
  clear ex
  have ex : iv B 6 = (x : Nat) := by rw [fd _ _ (by omega) (by omega) (by omega) (by omega) (by omega), ec, hx]
  refine ⟨fun _ => ?_, fun y => absurd y M.n5⟩
  rw [hg]
  refine ⟨hh, ?_⟩
  refine ⟨⟨by omega, by omega⟩, fun iu0 e0 => ?_⟩
  rw [Int.toNat_natCast] at e0
  refine ⟨⟨by omega, by omega⟩, fun iu1 e1 => ?_⟩
  rw [Int.toNat_natCast] at e1
  refine ⟨⟨by omega, by omega⟩, fun iu2 e2 => ?_⟩
  rw [Int.toNat_natCast] at e2
  intro ivz ez
  have xl : iu2 B 6 = (x : Nat) := by rw [e2, w2_ne (by omega), e1, w2_ne (by omega), e0, w2_ne (by omega)]; exact ex
  rw [xl, w32_id (by omega) (by omega)] at ez
  have fB : FrB B iv0 ivz := fun k j q1 q2 => by rw [ez, w2_ne (by omega), e2, w2_ne (by omega), e1, w2_ne (by omega), e0, w2_ne (by omega)]; exact fd k j (by omega) (by omega) (by omega) (by omega) (by omega)
  have Mz := M.congr (iv' := ivz) (fun k j q => by rw [ez, w2_ne (by omega), e2, w2_ne (by omega), e1, w2_ne (by omega), e0, w2_ne (by omega)])
  have hz : ∀ g, 12 ≤ g → g < 16 → ivz (B + 9) g = 0 := fun g g1 g2 => by rw [ez, w2_ne (by omega), e2, w2_ne (by omega), e1, w2_ne (by omega), e0, w2_ne (by omega), fd _ _ (by omega) (by omega) (by omega) (by omega) (by omega)]; exact H.2 g g1 g2
  have eS : sft B ivz 80 6 = R 1 6 + 1 := by show ivz B 6 = _; rw [ez, w2_eq]; omega
  have uo : ∀ k j, 80 ≤ k ∧ k ≤ 106 ∧ ¬ (k = 80 ∧ j = 12) ∧ ¬ ((k = 80 ∧ j = 6) ∨ (k = 87 ∧ j = (6 + x)) ∨ (k = 88 ∧ j = (6 + x)) ∨ (k = 89 ∧ j = (6 + x)) ∨ (k = 90 ∧ j = (6 + x)) ∨ (k = 91 ∧ j = (6 + x))) → sft B ivz k j = sft B iv0 k j := fun k j q => by show ivz (B + (k - 80)) j = iv0 (B + (k - 80)) j; rw [ez, w2_ne (by omega), e2, w2_ne (by omega), e1, w2_ne (by omega), e0, w2_ne (by omega), fd _ _ (by omega) (by omega) (by omega) (by omega) (by omega)]
  obtain ⟨fe, fo, f11, f12, f13, f8, f9⟩ := f_free (R := R) (x := x) (v11 := s2.1) (v12 := s4.1) (v13 := s5) (v8 := s7.1) (v9 := s7.2.1) ⟨by omega, by omega⟩ rfl
  exact hS _ p ivz fB Mz ⟨n_free H.1 W (cap3 N) ⟨by omega, room⟩ hx fe eS fo uo f11 (by show ivz (B + 7) (6 + x) = _; rw [ez, w2_ne (by omega), e2, w2_ne (by omega), e1, w2_ne (by omega), e0, w2_eq]) f12 (by show ivz (B + 8) (6 + x) = _; rw [ez, w2_ne (by omega), e2, w2_ne (by omega), e1, w2_eq]) f13 (by show ivz (B + 9) (6 + x) = _; rw [ez, w2_ne (by omega), e2, w2_eq]) f8 (by show ivz (B + 10) (6 + x) = _; rw [ez, w2_ne (by omega), e2, w2_ne (by omega), e1, w2_ne (by omega), e0, w2_ne (by omega), d10]) f9 (by show ivz (B + 11) (6 + x) = _; rw [ez, w2_ne (by omega), e2, w2_ne (by omega), e1, w2_ne (by omega), e0, w2_ne (by omega), d11]), hz⟩
theorem m_cart {B : Nat} {b : Nat → Int} {n a m x l ta : Nat} {c so nu : F1} {R iv0 : IV} {rv : RV} {K : IV → Prop} {F : Int → Nat → Prop} {S : Ps → Prop} (hB : 80 ≤ B) (hg : gR rv 66 4 = B) (hh : hMm rv 66 4) (N : NI m so nu R) (W : RW R) (k1 : kd b n a = 1) (hx : R 1 11 = (x : Nat)) (p5 : ¬ (R 1 11 < roomL.getD 11 0) → F 5 (st b n a)) (p : R 1 11 < roomL.getD 11 0 → pl_cart b n m c so nu R x l ta (nx b n a) F S) (M : MR B b n a m c so nu iv0) (H : MH B R iv0) (hO : FlM F B iv0 K) (hS : ∀ v, S v → Okm B b n iv0 K (bump 11 v)) : wp_X12_readCart iv0 rv K := by
  have cp := N.cap
  have hm := N.1
  have ec : iv0 B 11 = R 1 11 := H.1.1 11 (by omega)
  unfold wp_X12_readCart
  rw [hg]
  refine ⟨hh, ?_⟩
  rw [ec]
  refine r_begins (F := F) hB k1 (by omega) p5 (fun _ _ _ _ _ => rfl) M (fun _ _ f iv' o => o_fresh hg hh o.2.1 o.2.2.2.2 (o_needs o.2.1 (o_use hg hh o.2.1 o.2.2.2.2 (fun _ => o_needs o.2.1 (o_use hg hh o.2.1 o.2.2.2.2 (fun _ => o_either o.2.1 (fun _ => o_needs o.2.1 (o_whole o.2.1 (fun _ => o_needs o.2.1 (o_use hg hh o.2.1 o.2.2.2.2 (fun _ => o_needs o.2.1 (o_other hg hh o.2.1 o.2.2.2.2 (fun _ => o_needs o.2.1 (o_whole o.2.1 (fun _ => ⟨fun y => absurd o.2.1 y, fun _ => hO _ _ f iv' o⟩))))))))))))))) (fun room iv fr M => ?_)
  replace p := p room
  replace room : R 1 11 < 6 := room
  have ex : iv B 11 = (x : Nat) := by rw [fr _ _ (by omega) (by omega) (by omega), ec, hx]
  rw [ex]
  refine r_fresh (s := 11) (num := ((x : Nat) : Int)) hB hg hh (by decide) (by omega) p fr M (fun _ _ f iv' o => o_needs o.2.1 (o_use hg hh o.2.1 o.2.2.2.2 (fun _ => o_needs o.2.1 (o_use hg hh o.2.1 o.2.2.2.2 (fun _ => o_either o.2.1 (fun _ => o_needs o.2.1 (o_whole o.2.1 (fun _ => o_needs o.2.1 (o_use hg hh o.2.1 o.2.2.2.2 (fun _ => o_needs o.2.1 (o_other hg hh o.2.1 o.2.2.2.2 (fun _ => o_needs o.2.1 (o_whole o.2.1 (fun _ => ⟨fun y => absurd o.2.1 y, fun _ => hO _ _ f iv' o⟩)))))))))))))) (fun s0 p iv fr M => r_needs hB (by omega) rfl p fr M (fun _ _ f iv' o => o_use hg hh o.2.1 o.2.2.2.2 (fun _ => o_needs o.2.1 (o_use hg hh o.2.1 o.2.2.2.2 (fun _ => o_either o.2.1 (fun _ => o_needs o.2.1 (o_whole o.2.1 (fun _ => o_needs o.2.1 (o_use hg hh o.2.1 o.2.2.2.2 (fun _ => o_needs o.2.1 (o_other hg hh o.2.1 o.2.2.2.2 (fun _ => o_needs o.2.1 (o_whole o.2.1 (fun _ => ⟨fun y => absurd o.2.1 y, fun _ => hO _ _ f iv' o⟩))))))))))))) (fun s1 p iv fr M => r_use (lo := 2) (hi := 2) hB hg hh so2 p fr M (fun _ _ f iv' o _ => o_needs o.2.1 (o_use hg hh o.2.1 o.2.2.2.2 (fun _ => o_either o.2.1 (fun _ => o_needs o.2.1 (o_whole o.2.1 (fun _ => o_needs o.2.1 (o_use hg hh o.2.1 o.2.2.2.2 (fun _ => o_needs o.2.1 (o_other hg hh o.2.1 o.2.2.2.2 (fun _ => o_needs o.2.1 (o_whole o.2.1 (fun _ => ⟨fun y => absurd o.2.1 y, fun _ => hO _ _ f iv' o⟩)))))))))))) (fun s2 p iv fr M => r_needs hB (by omega) rfl p fr M (fun _ _ f iv' o => o_use hg hh o.2.1 o.2.2.2.2 (fun _ => o_either o.2.1 (fun _ => o_needs o.2.1 (o_whole o.2.1 (fun _ => o_needs o.2.1 (o_use hg hh o.2.1 o.2.2.2.2 (fun _ => o_needs o.2.1 (o_other hg hh o.2.1 o.2.2.2.2 (fun _ => o_needs o.2.1 (o_whole o.2.1 (fun _ => ⟨fun y => absurd o.2.1 y, fun _ => hO _ _ f iv' o⟩))))))))))) (fun s3 p iv fr M => r_use (lo := 1) (hi := 1) hB hg hh so1 p fr M (fun _ _ f iv' o _ => o_either o.2.1 (fun _ => o_needs o.2.1 (o_whole o.2.1 (fun _ => o_needs o.2.1 (o_use hg hh o.2.1 o.2.2.2.2 (fun _ => o_needs o.2.1 (o_other hg hh o.2.1 o.2.2.2.2 (fun _ => o_needs o.2.1 (o_whole o.2.1 (fun _ => ⟨fun y => absurd o.2.1 y, fun _ => hO _ _ f iv' o⟩)))))))))) (fun s4 p iv fr M => r_either hB (by omega) (by omega) rfl rfl am36 (by decide) p fr M (fun _ _ f iv' o _ => o_needs o.2.1 (o_whole o.2.1 (fun _ => o_needs o.2.1 (o_use hg hh o.2.1 o.2.2.2.2 (fun _ => o_needs o.2.1 (o_other hg hh o.2.1 o.2.2.2.2 (fun _ => o_needs o.2.1 (o_whole o.2.1 (fun _ => ⟨fun y => absurd o.2.1 y, fun _ => hO _ _ f iv' o⟩))))))))) (fun s5 p iv fr M bs5 => r_needs hB (by omega) rfl p fr M (fun _ _ f iv' o => o_whole o.2.1 (fun _ => o_needs o.2.1 (o_use hg hh o.2.1 o.2.2.2.2 (fun _ => o_needs o.2.1 (o_other hg hh o.2.1 o.2.2.2.2 (fun _ => o_needs o.2.1 (o_whole o.2.1 (fun _ => ⟨fun y => absurd o.2.1 y, fun _ => hO _ _ f iv' o⟩)))))))) (fun s6 p iv fr M => r_whole hB p fr M (fun _ _ f iv' o _ => o_needs o.2.1 (o_use hg hh o.2.1 o.2.2.2.2 (fun _ => o_needs o.2.1 (o_other hg hh o.2.1 o.2.2.2.2 (fun _ => o_needs o.2.1 (o_whole o.2.1 (fun _ => ⟨fun y => absurd o.2.1 y, fun _ => hO _ _ f iv' o⟩))))))) (fun s7 p iv fr M => r_needs hB (by omega) rfl p fr M (fun _ _ f iv' o => o_use hg hh o.2.1 o.2.2.2.2 (fun _ => o_needs o.2.1 (o_other hg hh o.2.1 o.2.2.2.2 (fun _ => o_needs o.2.1 (o_whole o.2.1 (fun _ => ⟨fun y => absurd o.2.1 y, fun _ => hO _ _ f iv' o⟩)))))) (fun s8 p iv fr M => r_use (lo := 0) (hi := 0) hB hg hh so0 p fr M (fun _ _ f iv' o _ => o_needs o.2.1 (o_other hg hh o.2.1 o.2.2.2.2 (fun _ => o_needs o.2.1 (o_whole o.2.1 (fun _ => ⟨fun y => absurd o.2.1 y, fun _ => hO _ _ f iv' o⟩))))) (fun s9 p iv fr M => r_needs hB (by omega) rfl p fr M (fun _ _ f iv' o => o_other hg hh o.2.1 o.2.2.2.2 (fun _ => o_needs o.2.1 (o_whole o.2.1 (fun _ => ⟨fun y => absurd o.2.1 y, fun _ => hO _ _ f iv' o⟩)))) (fun s10 p iv fr M => r_other hB hg hh p fr M (fun _ _ f iv' o _ => o_needs o.2.1 (o_whole o.2.1 (fun _ => ⟨fun y => absurd o.2.1 y, fun _ => hO _ _ f iv' o⟩))) (fun s11 p iv fr M => r_needs hB (by omega) rfl p fr M (fun _ _ f iv' o => o_whole o.2.1 (fun _ => ⟨fun y => absurd o.2.1 y, fun _ => hO _ _ f iv' o⟩)) (fun s12 p iv fr M => r_whole hB p fr M (fun _ _ f iv' o _ => ⟨fun y => absurd o.2.1 y, fun _ => hO _ _ f iv' o⟩) (fun s13 p iv fr M => ?_))))))))))))))
  clear ex
  have ex : iv B 11 = (x : Nat) := by rw [fr _ _ (by omega) (by omega) (by omega), ec, hx]
  refine ⟨fun _ => ?_, fun y => absurd y M.n5⟩
  rw [ex]
  intro xx exx
  subst exx
  rw [Int.toNat_natCast]
  refine ⟨⟨by omega, by omega⟩, fun iva ea => ⟨⟨by omega, by omega⟩, fun ivb eb => ?_⟩⟩
  have xb : ivb B 11 = (x : Nat) := by rw [eb, w2_ne (by omega), ea, w2_ne (by omega)]; exact ex
  have go : Unit → ∀ t0 : Int, t0 = s5.1 → bd_X12_readCart_181 s7.1 s9.1 s11.1 s13.1 ((x : Nat) : Int) t0 ((x : Nat) : Int) ivb rv K := fun _ t0 ht => by
    subst ht
    unfold bd_X12_readCart_181
    rw [hg, Int.toNat_natCast]
    refine ⟨hh, ⟨by omega, by omega⟩, fun iv2 e2 => ⟨⟨by omega, by omega⟩, fun iv3 e3 => ⟨⟨by omega, by omega⟩, fun iv4 e4 => ⟨⟨by omega, by omega⟩, fun iv5 e5 => ⟨⟨by omega, by omega⟩, fun iv6 e6 ivz ez => ?_⟩⟩⟩⟩⟩
    have xl : iv6 B 11 = (x : Nat) := by rw [e6, w2_ne (by omega), e5, w2_ne (by omega), e4, w2_ne (by omega), e3, w2_ne (by omega), e2, w2_ne (by omega)]; exact xb
    rw [xl, w32_id (by omega) (by omega)] at ez
    have fB : FrB B iv0 ivz := fun k j q1 q2 => by rw [ez, w2_ne (by omega), e6, w2_ne (by omega), e5, w2_ne (by omega), e4, w2_ne (by omega), e3, w2_ne (by omega), e2, w2_ne (by omega), eb, w2_ne (by omega), ea, w2_ne (by omega)]; exact fr.b k j q1 q2
    have Mz := M.congr (iv' := ivz) (fun k j q => by rw [ez, w2_ne (by omega), e6, w2_ne (by omega), e5, w2_ne (by omega), e4, w2_ne (by omega), e3, w2_ne (by omega), e2, w2_ne (by omega), eb, w2_ne (by omega), ea, w2_ne (by omega)])
    have hz : ∀ g, 12 ≤ g → g < 16 → ivz (B + 9) g = 0 := fun g g1 g2 => by rw [ez, w2_ne (by omega), e6, w2_ne (by omega), e5, w2_ne (by omega), e4, w2_ne (by omega), e3, w2_ne (by omega), e2, w2_ne (by omega), eb, w2_ne (by omega), ea, w2_ne (by omega), fr _ _ (by omega) (by omega) (by omega)]; exact H.2 g g1 g2
    have eS : sft B ivz 80 11 = R 1 11 + 1 := by show ivz B 11 = _; rw [ez, w2_eq]; omega
    have uo : ∀ k j, 80 ≤ k ∧ k ≤ 106 ∧ ¬ (k = 80 ∧ j = 12) ∧ ¬ ((k = 80 ∧ j = 11) ∨ (100 ≤ k ∧ k ≤ 106 ∧ j = x)) → sft B ivz k j = sft B iv0 k j := fun k j q => by show ivz (B + (k - 80)) j = iv0 (B + (k - 80)) j; rw [ez, w2_ne (by omega), e6, w2_ne (by omega), e5, w2_ne (by omega), e4, w2_ne (by omega), e3, w2_ne (by omega), e2, w2_ne (by omega), eb, w2_ne (by omega), ea, w2_ne (by omega), fr _ _ (by omega) (by omega) (by omega)]
    obtain ⟨fe, fo, fc⟩ := f_cart (R := R) (x := x) (td := (up1 (up1 (up1 (up1 (up1 (up1 (up1 (fun _ => 0) 0 s2.1) 1 s4.1) 2 s5.1) 3 s7.1) 4 s9.1) 5 s11.1) 6 s13.1)) ⟨by omega, by omega⟩ rfl
    refine hS _ p ivz fB Mz ⟨n_cart H.1 W (cap3 N) ⟨by omega, room⟩ hx fe eS fo uo (fun f hf => Eq.trans ?_ (fc f hf).symm), hz⟩
    show ivz (B + (100 + f - 80)) x = _
    rcases (show f = 0 ∨ f = 1 ∨ f = 2 ∨ f = 3 ∨ f = 4 ∨ f = 5 ∨ f = 6 by omega) with z | z | z | z | z | z | z <;> subst z
    · show ivz (B + 20) x = _
      rw [ez, w2_ne (by omega), e6, w2_ne (by omega), e5, w2_ne (by omega), e4, w2_ne (by omega), e3, w2_ne (by omega), e2, w2_ne (by omega), eb, w2_ne (by omega), ea, w2_eq]; rfl
    · show ivz (B + 21) x = _
      rw [ez, w2_ne (by omega), e6, w2_ne (by omega), e5, w2_ne (by omega), e4, w2_ne (by omega), e3, w2_ne (by omega), e2, w2_ne (by omega), eb, w2_eq]; rfl
    · show ivz (B + 22) x = _
      rw [ez, w2_ne (by omega), e6, w2_ne (by omega), e5, w2_ne (by omega), e4, w2_ne (by omega), e3, w2_ne (by omega), e2, w2_eq]; rfl
    · show ivz (B + 23) x = _
      rw [ez, w2_ne (by omega), e6, w2_ne (by omega), e5, w2_ne (by omega), e4, w2_ne (by omega), e3, w2_eq]; rfl
    · show ivz (B + 24) x = _
      rw [ez, w2_ne (by omega), e6, w2_ne (by omega), e5, w2_ne (by omega), e4, w2_eq]; rfl
    · show ivz (B + 25) x = _
      rw [ez, w2_ne (by omega), e6, w2_ne (by omega), e5, w2_eq]; rfl
    · show ivz (B + 26) x = _
      rw [ez, w2_ne (by omega), e6, w2_eq]; rfl
  exact ⟨fun y => go () 0 (by omega), fun y => go () 1 (by omega)⟩
theorem m_renew {B : Nat} {b : Nat → Int} {n a m x l ta : Nat} {c so nu : F1} {R iv0 : IV} {rv : RV} {K : IV → Prop} {F : Int → Nat → Prop} {S : Ps → Prop} (hB : 80 ≤ B) (hg : gR rv 66 4 = B) (hh : hMm rv 66 4) (N : NI m so nu R) (W : RW R) (k1 : kd b n a = 1) (hx : R 1 8 = (x : Nat)) (p5 : ¬ (R 1 8 < roomL.getD 8 0) → F 5 (st b n a)) (p : R 1 8 < roomL.getD 8 0 → pl_renew b n m c so nu R x l ta (nx b n a) F S) (M : MR B b n a m c so nu iv0) (H : MH B R iv0) (hO : FlM F B iv0 K) (hS : ∀ v, S v → Okm B b n iv0 K (bump 8 v)) : wp_X12_readRenewal iv0 rv K := by
  have cp := N.cap
  have hm := N.1
  have ec : iv0 B 8 = R 1 8 := H.1.1 8 (by omega)
  unfold wp_X12_readRenewal
  rw [hg]
  refine ⟨hh, ?_⟩
  rw [ec]
  have bad : Unit → ∀ (k : Int) (q : Nat), F k q → ∀ iv' : IV, Ov B iv0 k q iv' → (((0 : Int) < 12 → bd_X12_readRenewal_29 0 iv' rv K) ∧ (¬ ((0 : Int) < 12) → wp_X12_wrong 2 iv' rv (fun iv5 => bd_X12_readRenewal_29 0 iv5 rv K))) := fun _ k q f iv' o => ⟨fun _ => o_ren29 o.2.1 (hO _ _ f iv' o), fun y => absurd (by decide) y⟩
  refine r_begins (F := F) hB k1 (by omega) p5 (fun _ _ _ _ _ => rfl) M (fun _ _ f iv' o => o_known hg hh o.2.1 o.2.2.2.2 (bad () _ _ f iv' o)) (fun room iv fr M => ?_)
  replace p := p room
  replace room : R 1 8 < 4 := room
  unfold pl_renew at p
  have j57 : Unit → fnd b n c so m 5 7 (nx b n a) → ∃ j, j < m ∧ (ixf c (co b n (nx b n a)) m 0).toNat = j ∧ 5 ≤ so j ∧ so j ≤ 7 := fun _ y => by
    rcases ixf_ok (c := c) (cd := co b n (nx b n a)) m 0 with ⟨i1, i2⟩ | ⟨j, i1, i2, i3, i4⟩
    · have := y.1
      rw [i1] at this
      exact absurd this (by decide)
    · have e : (ixf c (co b n (nx b n a)) m 0).toNat = j := by rw [i1]; exact Int.toNat_natCast j
      have y2 := y.2
      rw [e] at y2
      exact ⟨j, by omega, e, by omega, by omega⟩
  refine r_known (lo := 5) (hi := 7) hB hg hh so57 fr M (fun _ q iv' o => bad () _ _ (p.1 q) iv' o) (fun _ q q2 iv' o => bad () _ _ (p.2.1 q (fun y => q2 ⟨y.1, y.2.1, by have := y.2.2; omega⟩)) iv' o) (fun _ q q2 => ?_)
  obtain ⟨j, hj, ej, s5, s7⟩ := j57 () q2
  rw [ej]
  obtain ⟨n0, -, -, -, -, n5, n6, n7⟩ := N.2.2 j hj
  refine ⟨fun y => ?_, fun y => ?_⟩
  · have f56 : fnd b n c so m 5 6 (nx b n a) := ⟨q2.1, by rw [ej]; omega, by
      rw [ej]
      rcases (show so j = 7 ∨ so j ≤ 6 by omega) with z | z
      · have := n7 z; omega
      · exact z⟩
    replace p := p.2.2 q f56
    rw [ej] at p
    generalize nu j = s0 at *
    refine r_adv hB M (by rw [q.1]; decide) (fun iv1 f1 M1 => ?_)
    have fr1 : FrN B iv0 iv1 := fr.tr fun k j q1 q2 q3 => f1 k j (by omega)
    refine r_choice3 (w := 45) (X := fun t => bd_X12_readRenewal_76 s0 t iv1 rv K) (by omega) (by omega) (by omega) rfl rfl rfl am45 M1 (fun _ q => ?_) (fun _ q => ⟨fun y => absurd rfl y, fun _ => r_wrong hB M1 fr1.b (fun iv' o => o_ren87 o.2.1 (hO _ _ (p.2 q) iv' o))⟩)
    replace p := p.1 q
    refine ⟨fun _ => ?_, fun y => by have := q.2; omega⟩
    generalize amg (co b n (nx b n (nx b n a))) (bs 45) 0 0 = s1 at *
    refine r_adv hB M1 (by rw [q.1]; decide) (fun iv2 f2 M2 => ?_)
    have fr2 : FrN B iv0 iv2 := fr1.tr fun k j q1 q2 q3 => f2 k j (by omega)
    refine r_needs hB (by omega) rfl p fr2 M2 (fun _ _ f iv' o => o_whole o.2.1 (fun _ => ⟨fun y => absurd o.2.1 y, fun _ => hO _ _ f iv' o⟩)) (fun s2 p iv fr M => r_whole hB p fr M (fun _ _ f iv' o _ => ⟨fun y => absurd o.2.1 y, fun _ => hO _ _ f iv' o⟩) (fun s3 p iv fr M => ?_))
    have ex : iv B 8 = (x : Nat) := by rw [fr _ _ (by omega) (by omega) (by omega), ec, hx]
    refine ⟨fun _ => ?_, fun y => absurd y M.n5⟩
    rw [hg]
    refine ⟨hh, ?_⟩
    refine ⟨⟨by omega, by omega⟩, fun iu0 e0 => ?_⟩
    rw [ex, Int.toNat_natCast] at e0
    have x0 : iu0 B 8 = (x : Nat) := by rw [e0, w2_ne (by omega)]; exact ex
    refine ⟨⟨by omega, by omega⟩, fun iu1 e1 => ?_⟩
    rw [x0, Int.toNat_natCast] at e1
    have x1 : iu1 B 8 = (x : Nat) := by rw [e1, w2_ne (by omega)]; exact x0
    refine ⟨⟨by omega, by omega⟩, fun iu2 e2 => ?_⟩
    rw [x1, Int.toNat_natCast] at e2
    have x2 : iu2 B 8 = (x : Nat) := by rw [e2, w2_ne (by omega)]; exact x1
    intro ivz ez
    rw [x2, w32_id (by omega) (by omega)] at ez
    have fB : FrB B iv0 ivz := fun k j q1 q2 => by rw [ez, w2_ne (by omega), e2, w2_ne (by omega), e1, w2_ne (by omega), e0, w2_ne (by omega)]; exact fr.b k j q1 q2
    have Mz := M.congr (iv' := ivz) (fun k j q => by rw [ez, w2_ne (by omega), e2, w2_ne (by omega), e1, w2_ne (by omega), e0, w2_ne (by omega)])
    have hz : ∀ g, 12 ≤ g → g < 16 → ivz (B + 9) g = 0 := fun g g1 g2 => by rw [ez, w2_ne (by omega), e2, w2_ne (by omega), e1, w2_ne (by omega), e0, w2_ne (by omega), fr _ _ (by omega) (by omega) (by omega)]; exact H.2 g g1 g2
    have eS : sft B ivz 80 8 = R 1 8 + 1 := by show ivz B 8 = _; rw [ez, w2_eq]; omega
    have uo : ∀ k j, 80 ≤ k ∧ k ≤ 106 ∧ ¬ (k = 80 ∧ j = 12) ∧ ¬ ((k = 80 ∧ j = 8) ∨ (k = 93 ∧ j = x) ∨ (k = 94 ∧ j = x) ∨ (k = 95 ∧ j = x)) → sft B ivz k j = sft B iv0 k j := fun k j q => by show ivz (B + (k - 80)) j = iv0 (B + (k - 80)) j; rw [ez, w2_ne (by omega), e2, w2_ne (by omega), e1, w2_ne (by omega), e0, w2_ne (by omega), fr _ _ (by omega) (by omega) (by omega)]
    obtain ⟨fe, fo, f14, f15, f16⟩ := f_renew (R := R) (x := x) (v14 := s0) (v15 := s1) (v16 := s3.1) ⟨by omega, by omega⟩ rfl
    exact hS _ p ivz fB Mz ⟨n_renew H.1 W (cap3 N) ⟨by omega, room⟩ hx fe eS fo uo f14 (by show ivz (B + 13) x = _; rw [ez, w2_ne (by omega), e2, w2_ne (by omega), e1, w2_ne (by omega), e0, w2_eq]) f15 (by show ivz (B + 14) x = _; rw [ez, w2_ne (by omega), e2, w2_ne (by omega), e1, w2_eq]) f16 (by show ivz (B + 15) x = _; rw [ez, w2_ne (by omega), e2, w2_eq]), hz⟩
  · have f56 : ¬ fnd b n c so m 5 6 (nx b n a) := fun z => by
      have z2 := z.2
      rw [ej] at z2
      rcases (show so j = 5 ∨ so j = 6 by omega) with u | u
      · have := n5 u; omega
      · have := n6 u; omega
    exact r_wrong hB M fr.b (fun iv' o => o_ren29 o.2.1 (hO _ _ (p.2.1 q f56) iv' o))
theorem m_loss {B : Nat} {b : Nat → Int} {n a m x : Nat} {c so nu : F1} {R iv0 : IV} {rv : RV} {K : IV → Prop} {F : Int → Nat → Prop} {S : Ps → Prop} (hB : 80 ≤ B) (hg : gR rv 66 4 = B) (hh : hMm rv 66 4) (N : NI m so nu R) (W : RW R) (k1 : kd b n a = 1) (hx : R 1 9 = (x : Nat)) (p5 : ¬ (R 1 9 < roomL.getD 9 0) → F 5 (st b n a)) (p : R 1 9 < roomL.getD 9 0 → pl_lost b n m c so nu R (nx b n a) F S) (M : MR B b n a m c so nu iv0) (H : MH B R iv0) (hO : FlM F B iv0 K) (hS : ∀ v, S v → Okm B b n iv0 K (bump 9 v)) : wp_X12_readLoss iv0 rv K := by
  have cp := N.cap
  have hm := N.1
  have ec : iv0 B 9 = R 1 9 := H.1.1 9 (by omega)
  unfold wp_X12_readLoss
  rw [hg]
  refine ⟨hh, ?_⟩
  rw [ec]
  have bad : Unit → ∀ (k : Int) (q : Nat), F k q → ∀ iv' : IV, Ov B iv0 k q iv' → ((0 ≤ (0 : Int) ∧ (0 : Int) < 16) ∧ ((iv' (B + 12) (0 : Int).toNat ≤ 0) → bd_X12_readLoss_35 0 iv' rv K) ∧ ((¬ (iv' (B + 12) (0 : Int).toNat ≤ 0)) → wp_X12_wrong 3 iv' rv (fun iv6 => bd_X12_readLoss_35 0 iv6 rv K))) := fun _ k q f iv' o => ⟨⟨by decide, by decide⟩, fun _ => o_loss35 o.2.1 (hO _ _ f iv' o), fun _ => o_wrong o.2.1 (o_loss35 o.2.1 (hO _ _ f iv' o))⟩
  refine r_begins (F := F) hB k1 (by omega) p5 (fun _ _ _ _ _ => rfl) M (fun _ _ f iv' o => o_known hg hh o.2.1 o.2.2.2.2 (bad () _ _ f iv' o)) (fun room iv fr M => ?_)
  replace p := p room
  replace room : R 1 9 < 4 := room
  unfold pl_lost at p
  replace p := pw_use.rng p
  refine r_known (lo := 5) (hi := 7) hB hg hh so57 fr M (fun _ q iv' o => bad () _ _ (p.1 q) iv' o) (fun _ q q2 iv' o => bad () _ _ (p.2.1 q q2) iv' o) (fun _ q q2 => ?_)
  obtain ⟨p, us⟩ := p.2.2 q q2
  replace us := us57 N us
  generalize nu (ixf c (co b n (nx b n a)) m 0).toNat = s0 at *
  obtain ⟨u0, u16, ug⟩ := us
  obtain ⟨g, rfl⟩ := Int.eq_ofNat_of_zero_le u0
  have tg : ((g : Nat) : Int).toNat = g := Int.toNat_natCast g
  change hasG R ((g : Nat) : Int).toNat at ug
  rw [tg] at ug
  change pw_loss b n R ((g : Nat) : Int).toNat _ _ F _ at p
  rw [tg] at p ⊢
  obtain ⟨-, -, -, -, -, m10, m0, m2⟩ := H.1.2.2.2.2.1 g ug
  have e12' : iv (B + 12) g = R 10 g := by rw [fr _ _ (by omega) (by omega) (by omega)]; exact m10
  rw [e12']
  refine ⟨⟨by omega, by omega⟩, fun y => ?_, fun y => r_wrong hB M fr.b (fun iv' o => o_loss35 o.2.1 (hO _ _ (p.1 (fun z => by omega)) iv' o))⟩
  have z10 : R 10 g = 0 := by omega
  refine r_adv hB M (by rw [q.1]; decide) (fun iv1 f1 M1 => ?_)
  have fr1 : FrN B iv0 iv1 := fr.tr fun k j q1 q2 q3 => f1 k j (by omega)
  have tl : Unit → ∀ (t0 : Int) (a' : Nat) (iv : IV), (t0 = 1 ∨ t0 = 2) → FrN B iv0 iv → MR B b n a' m c so nu iv → S (a', m, c, so, nu, w2 R 10 g t0) → bd_X12_readLoss_72 t0 (g : Nat) iv rv K := fun _ t0 a' iv ht fr M p => by
    unfold bd_X12_readLoss_72
    rw [hg, tg]
    have ex : iv B 9 = (x : Nat) := by rw [fr _ _ (by omega) (by omega) (by omega), ec, hx]
    refine ⟨hh, ⟨by omega, by omega⟩, fun iv0' e0 ivz ez => ?_⟩
    have x0 : iv0' B 9 = (x : Nat) := by rw [e0, w2_ne (by omega)]; exact ex
    rw [x0, w32_id (by omega) (by omega)] at ez
    have fB : FrB B iv0 ivz := fun k j q1 q2 => by rw [ez, w2_ne (by omega), e0, w2_ne (by omega)]; exact fr.b k j q1 q2
    have Mz := M.congr (iv' := ivz) (fun k j q => by rw [ez, w2_ne (by omega), e0, w2_ne (by omega)])
    have hz : ∀ g, 12 ≤ g → g < 16 → ivz (B + 9) g = 0 := fun g g1 g2 => by rw [ez, w2_ne (by omega), e0, w2_ne (by omega), fr _ _ (by omega) (by omega) (by omega)]; exact H.2 g g1 g2
    have eS : sft B ivz 80 9 = R 1 9 + 1 := by show ivz B 9 = _; rw [ez, w2_eq]; omega
    have uo : ∀ k j, 80 ≤ k ∧ k ≤ 106 ∧ ¬ (k = 80 ∧ j = 12) ∧ ¬ ((k = 80 ∧ j = 9) ∨ (k = 92 ∧ j = g)) → sft B ivz k j = sft B iv0 k j := fun k j q => by show ivz (B + (k - 80)) j = iv0 (B + (k - 80)) j; rw [ez, w2_ne (by omega), e0, w2_ne (by omega), fr _ _ (by omega) (by omega) (by omega)]
    obtain ⟨fe, fo, f10⟩ := f_lost (R := R) (x := g) (v10 := t0) ⟨by omega, by omega⟩ rfl
    exact hS _ p ivz fB Mz ⟨n_lost H.1 W (cap3 N) ⟨by omega, room⟩ fe eS fo uo f10 (by show ivz (B + 12) g = _; rw [ez, w2_ne (by omega), e0, w2_eq]) ug ht, hz⟩
  refine r_eats hB (by omega) rfl fr1 M1 (fun _ y iv' f' M' => ⟨fun _ => ⟨hh, fun u => absurd u (by decide), fun _ => tl () 2 _ iv' (Or.inr rfl) f' M' (p.2.1 z10 y)⟩, fun y => absurd y M'.n5⟩) (fun _ y => ⟨fun _ => ⟨hh, fun _ => tl () 1 _ iv1 (Or.inl rfl) fr1 M1 (p.2.2 z10 y), fun u => absurd rfl u⟩, fun y => absurd y M1.n5⟩)
