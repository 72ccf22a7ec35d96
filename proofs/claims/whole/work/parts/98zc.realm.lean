/-! THE READER: the pair realm -/
theorem z2_no {iv : IV} {k a b : Nat} (h : a ≠ k) : z2 iv k a b = iv a b := if_neg h
theorem ci80_out {iv : IV} {k j : Nat} (h : ¬ (80 ≤ k ∧ k ≤ 109)) : ciX11_80 (z2 iv 80) k j = iv k j := by
  unfold ciX11_80
  rw [z2_no (by omega), z2_no (by omega), z2_no (by omega), z2_no (by omega), z2_no (by omega), z2_no (by omega), z2_no (by omega), z2_no (by omega), z2_no (by omega), z2_no (by omega), z2_no (by omega), z2_no (by omega), z2_no (by omega), z2_no (by omega), z2_no (by omega), z2_no (by omega), z2_no (by omega), z2_no (by omega), z2_no (by omega), z2_no (by omega), z2_no (by omega), z2_no (by omega), z2_no (by omega), z2_no (by omega), z2_no (by omega), z2_no (by omega), z2_no (by omega), z2_no (by omega), z2_no (by omega), z2_no (by omega)]
theorem ci80_in {iv : IV} {j : Nat} : ∀ i, i < 30 → ciX11_80 (z2 iv 80) (80 + i) j = 0 := by
  intro i hi
  rcases (show i = 0 ∨ i = 1 ∨ i = 2 ∨ i = 3 ∨ i = 4 ∨ i = 5 ∨ i = 6 ∨ i = 7 ∨ i = 8 ∨ i = 9 ∨ i = 10 ∨ i = 11 ∨ i = 12 ∨ i = 13 ∨ i = 14 ∨ i = 15 ∨ i = 16 ∨ i = 17 ∨ i = 18 ∨ i = 19 ∨ i = 20 ∨ i = 21 ∨ i = 22 ∨ i = 23 ∨ i = 24 ∨ i = 25 ∨ i = 26 ∨ i = 27 ∨ i = 28 ∨ i = 29 by omega) with y | y | y | y | y | y | y | y | y | y | y | y | y | y | y | y | y | y | y | y | y | y | y | y | y | y | y | y | y | y <;> subst y <;> rfl
theorem ci110_out {iv : IV} {k j : Nat} (h : ¬ (110 ≤ k ∧ k ≤ 139)) : ciX11_110 (z2 iv 110) k j = iv k j := by
  unfold ciX11_110
  rw [z2_no (by omega), z2_no (by omega), z2_no (by omega), z2_no (by omega), z2_no (by omega), z2_no (by omega), z2_no (by omega), z2_no (by omega), z2_no (by omega), z2_no (by omega), z2_no (by omega), z2_no (by omega), z2_no (by omega), z2_no (by omega), z2_no (by omega), z2_no (by omega), z2_no (by omega), z2_no (by omega), z2_no (by omega), z2_no (by omega), z2_no (by omega), z2_no (by omega), z2_no (by omega), z2_no (by omega), z2_no (by omega), z2_no (by omega), z2_no (by omega), z2_no (by omega), z2_no (by omega), z2_no (by omega)]
theorem ci110_in {iv : IV} {j : Nat} : ∀ i, i < 30 → ciX11_110 (z2 iv 110) (110 + i) j = 0 := by
  intro i hi
  rcases (show i = 0 ∨ i = 1 ∨ i = 2 ∨ i = 3 ∨ i = 4 ∨ i = 5 ∨ i = 6 ∨ i = 7 ∨ i = 8 ∨ i = 9 ∨ i = 10 ∨ i = 11 ∨ i = 12 ∨ i = 13 ∨ i = 14 ∨ i = 15 ∨ i = 16 ∨ i = 17 ∨ i = 18 ∨ i = 19 ∨ i = 20 ∨ i = 21 ∨ i = 22 ∨ i = 23 ∨ i = 24 ∨ i = 25 ∨ i = 26 ∨ i = 27 ∨ i = 28 ∨ i = 29 by omega) with y | y | y | y | y | y | y | y | y | y | y | y | y | y | y | y | y | y | y | y | y | y | y | y | y | y | y | y | y | y <;> subst y <;> rfl
/-- the reference's reading, from its fresh realm on -/
def RP (B : Nat) (iv56 : IV) (rv51 : RV) (K : Int → IV → RV → Prop) : Prop := wp_X12_goesOn iv56 rv51 (fun iv60 => wp_X12_readRealm iv60 rv51 (fun iv64 => (((iv64 66 12) ≤ 0) → (∀ rv94, rv94 = r2 rv51 66 3 (some B) → ∀ iv99, iv99 = w2 iv64 66 27 0 → ∀ iv104, iv104 = w2 iv99 66 28 (-1) → ∀ iv109, iv109 = w2 iv104 66 29 0 → wp_X12_done (iv109 B 0) iv109 rv94 (fun r120 iv120 => K r120 iv120 rv94))) ∧ ((¬ ((iv64 66 12) ≤ 0)) → (∀ iv76, iv76 = w2 iv64 66 1 4 → ∀ iv84, iv84 = w2 iv76 66 2 (iv76 66 13) → K (-1) iv84 rv51))))
def RQ (n : Nat) (a : Int) (iv : IV) (rv : RV) (K : Int → Nat → IV → RV → Prop) : Prop :=
  ((a < 0 ∨ ¬ (a ≤ iv 66 6)) → wp_X12_refused 2 (w2 iv 66 0 0) rv (fun r iv' => K r n iv' rv)) ∧
  (¬ (a < 0) → a ≤ iv 66 6 → ∀ (iv56 : IV) (rv51 : RV), (∀ k j, ¬ (n ≤ k ∧ k ≤ n + 29) → ¬ (k = 66 ∧ (j = 0 ∨ (6 ≤ j ∧ j ≤ 9) ∨ j = 12)) → iv56 k j = iv k j) → (∀ k j, n ≤ k → k ≤ n + 29 → iv56 k j = 0) → iv56 66 6 = 0 → iv56 66 7 = a → iv56 66 8 = 0 → iv56 66 9 = 0 → iv56 66 12 = 0 → rv51 66 4 = some n → (∀ a b, a < n → ¬ (a = 66 ∧ b = 4) → rv51 a b = rv a b) → (Lk n rv → Lk (n + 30) rv51 ∧ Lk (n + 30) (r2 rv51 66 3 (some n))) → RP n iv56 rv51 (fun r iv' rv' => K r (n + 30) iv' rv'))
theorem wr80 {a : Int} {iv : IV} {rv : RV} {K : Int → Nat → IV → RV → Prop} (h : RQ 80 a iv rv K) : wp_X12_realm80 a iv rv K := by
  intro iv2 e2
  have e6 : iv2 66 6 = iv 66 6 := by rw [e2, w2_ne (by omega)]
  rw [e6]
  refine ⟨fun y => by rw [e2]; exact h.1 (Or.inl y), fun y => ⟨fun y2 iv25 e25 iv30 e30 iv35 e35 iv40 e40 iv48 e48 rv51 e51 iv56 e56 => ?_, fun y2 => by rw [e2]; exact h.1 (Or.inr y2)⟩⟩
  have f40 : ∀ k j, ¬ (k = 66 ∧ (j = 0 ∨ (6 ≤ j ∧ j ≤ 9) ∨ j = 12)) → iv40 k j = iv k j := fun k j q => by rw [e40, w2_ne (by omega), e35, w2_ne (by omega), e30, w2_ne (by omega), e25, w2_ne (by omega), e2, w2_ne (by omega)]
  have o56 : ∀ k j, ¬ (80 ≤ k ∧ k ≤ 109) → ¬ (k = 66 ∧ j = 9) → iv56 k j = iv40 k j := fun k j q1 q2 => by rw [e56, w2_ne q2, e48, ci80_out q1]
  refine h.2 y y2 iv56 rv51 (fun k j q1 q2 => by rw [o56 k j (by omega) (by omega), f40 k j q2]) (fun k j q1 q2 => ?_) ?_ ?_ ?_ (by rw [e56, w2_eq]) ?_ (by rw [e51, r2_eq]) (fun a b q1 q2 => by rw [e51, r2_ne q2, cr80_row q1]) (fun L => ?_)
  · rw [e56, w2_ne (by omega), e48]
    have := ci80_in (iv := iv40) (j := j) (k - 80) (by omega)
    rw [show 80 + (k - 80) = k by omega] at this
    exact this
  · rw [o56 _ _ (by omega) (by omega), e40, w2_ne (by omega), e35, w2_ne (by omega), e30, w2_eq]
  · rw [o56 _ _ (by omega) (by omega), e40, w2_ne (by omega), e35, w2_ne (by omega), e30, w2_ne (by omega), e25, w2_eq]
  · rw [o56 _ _ (by omega) (by omega), e40, w2_ne (by omega), e35, w2_eq]
  · rw [o56 _ _ (by omega) (by omega), e40, w2_eq]
  · rw [e51]
    exact ⟨L.new80, L.new80.w3_80⟩
theorem wr110 {a : Int} {iv : IV} {rv : RV} {K : Int → Nat → IV → RV → Prop} (h : RQ 110 a iv rv K) : wp_X12_realm110 a iv rv K := by
  intro iv2 e2
  have e6 : iv2 66 6 = iv 66 6 := by rw [e2, w2_ne (by omega)]
  rw [e6]
  refine ⟨fun y => by rw [e2]; exact h.1 (Or.inl y), fun y => ⟨fun y2 iv25 e25 iv30 e30 iv35 e35 iv40 e40 iv48 e48 rv51 e51 iv56 e56 => ?_, fun y2 => by rw [e2]; exact h.1 (Or.inr y2)⟩⟩
  have f40 : ∀ k j, ¬ (k = 66 ∧ (j = 0 ∨ (6 ≤ j ∧ j ≤ 9) ∨ j = 12)) → iv40 k j = iv k j := fun k j q => by rw [e40, w2_ne (by omega), e35, w2_ne (by omega), e30, w2_ne (by omega), e25, w2_ne (by omega), e2, w2_ne (by omega)]
  have o56 : ∀ k j, ¬ (110 ≤ k ∧ k ≤ 139) → ¬ (k = 66 ∧ j = 9) → iv56 k j = iv40 k j := fun k j q1 q2 => by rw [e56, w2_ne q2, e48, ci110_out q1]
  refine h.2 y y2 iv56 rv51 (fun k j q1 q2 => by rw [o56 k j (by omega) (by omega), f40 k j q2]) (fun k j q1 q2 => ?_) ?_ ?_ ?_ (by rw [e56, w2_eq]) ?_ (by rw [e51, r2_eq]) (fun a b q1 q2 => by rw [e51, r2_ne q2, cr110_row q1]) (fun L => ?_)
  · rw [e56, w2_ne (by omega), e48]
    have := ci110_in (iv := iv40) (j := j) (k - 110) (by omega)
    rw [show 110 + (k - 110) = k by omega] at this
    exact this
  · rw [o56 _ _ (by omega) (by omega), e40, w2_ne (by omega), e35, w2_ne (by omega), e30, w2_eq]
  · rw [o56 _ _ (by omega) (by omega), e40, w2_ne (by omega), e35, w2_ne (by omega), e30, w2_ne (by omega), e25, w2_eq]
  · rw [o56 _ _ (by omega) (by omega), e40, w2_ne (by omega), e35, w2_eq]
  · rw [o56 _ _ (by omega) (by omega), e40, w2_eq]
  · rw [e51]
    exact ⟨L.new110, L.new110.w3_110⟩
theorem rp_fault {B tn p : Nat} {k : Int} {b : Nat → Int} {R iv56 : IV} {rv51 : RV} {K : Int → IV → RV → Prop} (hB : B = 80 ∨ B = 110) (h4 : rv51 66 4 = some B) (T : Txt b tn iv56) (e8 : iv56 66 8 = 0) (e9 : iv56 66 9 = 0) (e12 : iv56 66 12 = 0) (hz : ∀ k j, B ≤ k → k ≤ B + 29 → iv56 k j = 0) (z : R0ok R) (kp : 1 ≤ k) (pr : pl_read b tn R (fun k' p' => k' = k ∧ p' = p) (fun _ => False))
    (hK : ∀ im : IV, (∀ k j, ¬ (B ≤ k ∧ k ≤ B + 29) → ¬ (k = 66 ∧ 8 ≤ j ∧ j ≤ 14) → ¬ (k = 66 ∧ (j = 1 ∨ j = 2)) → im k j = iv56 k j) → im 66 1 = 4 → im 66 2 = (p : Nat) → im 66 12 = k → K (-1) im rv51) : RP B iv56 rv51 K := by
  have hg : gR rv51 66 4 = B := gR_of h4
  have hh : hMm rv51 66 4 := by unfold hMm; rw [hg]; exact ⟨h4, hB⟩
  refine m_goesOn (b := b) (n := tn) (a := 0) T (Nat.zero_le _) e8 (by rw [e9]; decide) (fun iv60 f T60 => ?_)
  refine m_read (by omega) hg hh z ⟨T.1, by rw [f _ _ (by omega)]; exact T.2.1, fun j hj => by rw [f _ _ (by omega)]; exact T.2.2 j hj⟩ T60 (fun k j h1 h2 => by rw [f _ _ (by omega)]; exact hz k j h1 h2) (by rw [f _ _ (by omega)]; exact e12) pr (fun k' p' s iv' o => ?_) (fun _ s => False.elim s)
  obtain ⟨rfl, rfl⟩ := s
  obtain ⟨o1, o2, o3, o4, -⟩ := o
  refine ⟨fun y => by omega, fun _ iv76 e76 iv84 e84 => ?_⟩
  have e13 : iv76 66 13 = (p' : Nat) := by rw [e76, w2_ne (by omega)]; exact o4
  rw [e13] at e84
  refine hK iv84 (fun k j q1 q2 q3 => ?_) (by rw [e84, w2_ne (by omega), e76, w2_eq]) (by rw [e84, w2_eq]) (by rw [e84, w2_ne (by omega), e76, w2_ne (by omega)]; exact o3)
  rw [e84, w2_ne (by omega), e76, w2_ne (by omega), o1 k j q1 q2, f k j (by omega)]
theorem rp_ok {B tn : Nat} {b : Nat → Int} {R iv56 : IV} {rv51 : RV} {v : Ps} {K : Int → IV → RV → Prop} (hB : B = 80 ∨ B = 110) (h4 : rv51 66 4 = some B) (T : Txt b tn iv56) (e8 : iv56 66 8 = 0) (e9 : iv56 66 9 = 0) (e12 : iv56 66 12 = 0) (hz : ∀ k j, B ≤ k → k ≤ B + 29 → iv56 k j = 0) (z : R0ok R) (pr : pl_read b tn R (fun _ _ => False) (fun w => w = v))
    (hK : ∀ im : IV, (∀ k j, ¬ (B ≤ k ∧ k ≤ B + 29) → ¬ (k = 66 ∧ 8 ≤ j ∧ j ≤ 14) → ¬ (k = 66 ∧ (j = 1 ∨ j = 2 ∨ (27 ≤ j ∧ j ≤ 29))) → im k j = iv56 k j) → im 66 1 = 0 → im 66 2 = -1 → im 66 12 = 0 → im 66 27 = 0 → im 66 28 = -1 → im 66 29 = 0 → RM v.2.2.2.2.2 (sft B im) → K (v.2.2.2.2.2 1 0) im (r2 rv51 66 3 (some B))) : RP B iv56 rv51 K := by
  have hg : gR rv51 66 4 = B := gR_of h4
  have hh : hMm rv51 66 4 := by unfold hMm; rw [hg]; exact ⟨h4, hB⟩
  refine m_goesOn (b := b) (n := tn) (a := 0) T (Nat.zero_le _) e8 (by rw [e9]; decide) (fun iv60 f T60 => ?_)
  refine m_read (by omega) hg hh z ⟨T.1, by rw [f _ _ (by omega)]; exact T.2.1, fun j hj => by rw [f _ _ (by omega)]; exact T.2.2 j hj⟩ T60 (fun k j h1 h2 => by rw [f _ _ (by omega)]; exact hz k j h1 h2) (by rw [f _ _ (by omega)]; exact e12) pr (fun _ _ s => False.elim s) (fun w s gw iv' fr M H => ?_)
  subst s
  have o12 : iv' 66 12 = 0 := M.2.2.2.2.2.2
  refine ⟨fun _ rv94 e94 iv99 e99 iv104 e104 iv109 e109 iva ea ivb eb => ?_, fun y => by omega⟩
  subst e94
  have fb : ∀ k j, ¬ (k = 66 ∧ (j = 1 ∨ j = 2 ∨ (27 ≤ j ∧ j ≤ 29))) → ivb k j = iv' k j := fun k j q => by rw [eb, w2_ne (by omega), ea, w2_ne (by omega), e109, w2_ne (by omega), e104, w2_ne (by omega), e99, w2_ne (by omega)]
  have ev : iv109 B 0 = w.2.2.2.2.2 1 0 := by
    rw [e109, w2_ne (by omega), e104, w2_ne (by omega), e99, w2_ne (by omega)]
    exact H.1.1 0 (by omega)
  rw [ev]
  refine hK ivb (fun k j q1 q2 q3 => by rw [fb k j q3, fr k j q1 q2, f k j (by omega)]) (by rw [eb, w2_ne (by omega), ea, w2_eq]) (by rw [eb, w2_eq]) (by rw [fb _ _ (by omega)]; exact o12) (by rw [eb, w2_ne (by omega), ea, w2_ne (by omega), e109, w2_ne (by omega), e104, w2_ne (by omega), e99, w2_eq]) (by rw [eb, w2_ne (by omega), ea, w2_ne (by omega), e109, w2_ne (by omega), e104, w2_eq]) (by rw [eb, w2_ne (by omega), ea, w2_ne (by omega), e109, w2_eq]) ?_
  have er : sft B ivb = sft B iv' := funext fun k => funext fun j => by show ivb (B + (k - 80)) j = iv' (B + (k - 80)) j; exact fb _ _ (by omega)
  rw [er]; exact H.1
theorem c_realm {tn h h' : Nat} {iv : IV} {rv : RV} {Kc : Int → IV → RV → Prop} (hh : (h = 2 ∧ h' = 21) ∨ (h = 21 ∧ h' = 2)) (e2 : rv 0 2 = some h') (e3 : rv 0 3 = some h) (hn : tn ≤ 900) (ht : ((tn : Nat) : Int) ≤ iv 0 1)
    (hF : Unit → ∀ (R : IV) (k : Int) (p : Nat), R0ok R → (1 ≤ k ∧ k ≤ 6) → pl_read (iv 1) tn R (fun k' p' => k' = k ∧ p' = p) (fun _ => False) → ∀ iv' : IV, FrQ h iv iv' → iv' 40 6 = k → iv' 40 7 = (p : Nat) → Kc (-1) (w2 (w2 iv' 0 1 0) 0 7 4) (r2 rv 40 5 (some h)))
    (hS : Unit → ∀ (R : IV) (v : Ps), R0ok R → GoodV v → pl_read (iv 1) tn R (fun _ _ => False) (fun w => w = v) → ∀ iv' : IV, FrQ h iv iv' → iv' 40 6 = 0 → CHr h v.2.2.2.2.2 iv' → Kc (v.2.2.2.2.2 1 0) (w2 (w2 (w2 (w2 (w2 iv' 0 1 0) 63 2 0) 63 3 0) 63 4 0) 0 7 0) (r2 (r2 (r2 rv 40 5 (some h)) 0 2 (some h)) 0 3 (some h'))) : wp_X10_realm tn iv rv Kc := by
  have g3 : gR rv 0 3 = h := gR_of e3
  have g2 : gR rv 0 2 = h' := gR_of e2
  refine ⟨fun y => by omega, fun _ => ⟨fun _ => ?_, fun y => absurd ht y⟩⟩
  rw [g3]
  refine c_read (b := iv 1) (n := tn) (h := h) hd_ok (fun _ => v0_ok) (by omega) hn (fun _ _ => rfl) (fun _ R z => ?_)
  rcases d_read (b := iv 1) (n := tn) z with ⟨k, p, kp, e⟩ | ⟨v, hv, e⟩
  · refine ⟨fun k' p' => k' = k ∧ p' = p, fun _ => False, (e _ _).mpr ⟨rfl, rfl⟩, fun k' p' s iv' fr a1 a2 => ?_, fun _ s => False.elim s⟩
    obtain ⟨rfl, rfl⟩ := s
    intro iv6 e6
    refine ⟨fun y => absurd rfl y, fun _ iv13 e13 => ?_⟩
    subst e6
    subst e13
    exact hF () R k' p' z kp ((e _ _).mpr ⟨rfl, rfl⟩) iv' fr a1 a2
  · refine ⟨fun _ _ => False, fun w => w = v, (e _ _).mpr rfl, fun _ _ s => False.elim s, fun w s gw iv' fr a1 H => ?_⟩
    have pe : pl_read (iv 1) tn R (fun _ _ => False) (fun u => u = v) := (e _ _).mpr rfl
    rw [← s] at pe
    clear e hv
    subst s
    intro iv6 e6
    refine ⟨fun _ rv8 e8 rv9 e9 iva fa ivb fb ivc fc iv11 e11 => ?_, fun y => absurd y (by decide)⟩
    have a3 : gR (r2 rv 40 5 (some h)) 0 3 = h := gR_of (by rw [r2_ne (by omega)]; exact e3)
    have a2 : gR (r2 rv 40 5 (some h)) 0 2 = h' := gR_of (by rw [r2_ne (by omega)]; exact e2)
    rw [a3] at e8
    rw [a2] at e9
    subst e8
    subst e9
    have g9 : gR (r2 (r2 (r2 rv 40 5 (some h)) 0 2 (some h)) 0 3 (some h')) 0 2 = h := gR_of (by rw [r2_ne (by omega), r2_eq])
    rw [g9]
    have ev : iv11 (h + 1) 0 = w.2.2.2.2.2 1 0 := by
      rw [e11, w2_ne (by omega), fc, w2_ne (by omega), fb, w2_ne (by omega), fa, w2_ne (by omega), e6, w2_ne (by omega)]
      exact H 1 0 (by omega)
    rw [ev]
    subst e6
    subst fa
    subst fb
    subst fc
    subst e11
    exact hS () R w z gw pe iv' fr a1 H
theorem fin_fault {n h h' p : Nat} {k : Int} {iv im : IV} {rv rm : RV} (I : Inv n iv rv) (hh : (h = 2 ∧ h' = 21) ∨ (h = 21 ∧ h' = 2)) (e2 : rv 0 2 = some h') (L : Lk (n + 30) rm) (er : ∀ a b, a < 80 → ¬ (a = 66 ∧ b = 4) → ¬ (a = 40 ∧ b = 5) → rm a b = rv a b) (F : ∀ k j, k < n → ¬ (40 ≤ k ∧ k ≤ 46) → ¬ (h + 1 ≤ k ∧ k ≤ h + 18) → ¬ (k = 0 ∧ (j = 1 ∨ j = 7)) → ¬ (k = 66 ∧ j ≤ 14) → im k j = iv k j) (m01 : im 0 1 = 0) (m07 : im 0 7 = 4) (m406 : im 40 6 = k) (m407 : im 40 7 = (p : Nat)) (m661 : im 66 1 = 4) (m662 : im 66 2 = (p : Nat)) (m666 : im 66 6 = 0) (m6612 : im 66 12 = k) : RenInv Inv (n + 30) im rm := by
  obtain ⟨L0, hn, hS, h4, h5, h6, h7⟩ := I
  have g2 : gR rv 0 2 = h' := gR_of e2
  have gm : gR rm 0 2 = h' := gR_of (by rw [er 0 2 (by omega) (by omega) (by omega)]; exact e2)
  rw [g2] at h5 h6 h7
  have eRw : ∀ r, 1 ≤ r → r < 19 → ∀ i, Rw im h' r i = Rw iv h' r i := fun r _ hr i => F (h' + r) i (by omega) (by omega) (by omega) (by omega) (by omega)
  refine ren_inv (n1 := n) (B := 80) (by omega) (by omega) L ?_ ?_ ?_ (fun y => ?_) (fun y => ?_)
  · obtain ⟨-, s5, s6, s7, s8, t, u, w1, w2'⟩ := hS
    have c : ∀ k j, 63 ≤ k → k < 80 → ¬ (k = 66 ∧ j ≤ 14) → im k j = iv k j := fun k j q1 q2 q3 => F k j (by omega) (by omega) (by omega) (by omega) q3
    unfold Sc
    rw [m01, m666, m661, m07, m6612, m406, m662, m407, c 63 2 (by omega) (by omega) (by omega), c 66 27 (by omega) (by omega) (by omega), c 63 3 (by omega) (by omega) (by omega), c 66 29 (by omega) (by omega) (by omega), c 66 28 (by omega) (by omega) (by omega), c 63 4 (by omega) (by omega) (by omega)]
    rw [show im 73 = iv 73 from funext fun j => c 73 j (by omega) (by omega) (by omega), show im 64 = iv 64 from funext fun j => c 64 j (by omega) (by omega) (by omega), show im 74 = iv 74 from funext fun j => c 74 j (by omega) (by omega) (by omega), show im 65 = iv 65 from funext fun j => c 65 j (by omega) (by omega) (by omega)]
    exact ⟨⟨by decide, by decide, rfl, fun j hj => by omega⟩, rfl, rfl, fun _ => rfl, fun y => absurd rfl y, t, u, w1, w2'⟩
  · rw [er 0 2 (by omega) (by omega) (by omega), er 0 3 (by omega) (by omega) (by omega)]; exact h4
  · rw [gm]; exact h5.cg eRw
  · rw [er 66 3 (by omega) (by omega) (by omega), gm]
    exact ⟨(h6 y).1, fun s hs => (F _ _ (by omega) (by omega) (by omega) (by omega) (by omega)).trans ((h6 y).2 s hs)⟩
  · rw [er 66 3 (by omega) (by omega) (by omega), gm]
    refine ⟨(h7 y).1, (h7 y).2.cg eRw (fun k j hk hk2 => ?_)⟩
    show im (80 + (k - 80)) j = iv k j
    rw [show 80 + (k - 80) = k by omega]
    exact F _ _ (by omega) (by omega) (by omega) (by omega) (by omega)
theorem fin_ok {n h h' : Nat} {im : IV} {rm : RV} {v : Ps} (hn : n = 80 ∨ n = 110) (hh : (h = 2 ∧ h' = 21) ∨ (h = 21 ∧ h' = 2)) (L : Lk (n + 30) rm) (r2' : rm 0 2 = some h) (r3' : rm 0 3 = some h') (r66 : rm 66 3 = some n) (G : GoodV v) (H : CHr h v.2.2.2.2.2 im) (M : RM v.2.2.2.2.2 (sft n im)) (m01 : im 0 1 = 0) (m07 : im 0 7 = 0) (m406 : im 40 6 = 0) (m661 : im 66 1 = 0) (m662 : im 66 2 = -1) (m666 : im 66 6 = 0) (m6612 : im 66 12 = 0) (w2' : im 63 2 = 0) (w3 : im 63 3 = 0) (x27 : im 66 27 = 0) (x28 : im 66 28 = -1) (x29 : im 66 29 = 0) : RenInv Inv (n + 30) im rm := by
  have gm : gR rm 0 2 = h := gR_of r2'
  have eRw : ∀ r, 1 ≤ r → r < 19 → ∀ i, Rw im h r i = v.2.2.2.2.2 r i := fun r q1 q2 i => H r i ⟨q1, by omega⟩
  have rc : RC v.2.2.2.2.2 := ⟨G.1.2.1, G.2⟩
  refine ren_inv (n1 := 110) (B := n) (by omega) (by omega) L ?_ ?_ ?_ (fun y => absurd y (by decide)) (fun _ => ?_)
  · unfold Sc
    rw [m01, m666, m661, m07, m6612, m406, m662, w2', x27, w3, x29, x28]
    exact ⟨⟨by decide, by decide, rfl, fun j hj => by omega⟩, rfl, rfl, fun y => absurd y (by decide), fun _ => rfl, ⟨by decide, by decide, rfl, fun j hj => by omega⟩, ⟨by decide, by decide, rfl, fun j hj => by omega⟩, fun y => absurd y (by decide), fun _ => rfl⟩
  · rcases hh with ⟨y, y'⟩ | ⟨y, y'⟩
    · subst y; subst y'; exact Or.inl ⟨r2', r3'⟩
    · subst y; subst y'; exact Or.inr ⟨r2', r3'⟩
  · rw [gm]; exact rc.cg eRw
  · rw [gm]; exact ⟨r66, M.cg eRw (fun _ _ _ _ => rfl)⟩
theorem realm_gen {n : Nat} {a : Int} {iv : IV} {rv : RV} {Kc : Int → IV → RV → Prop} (I : Inv n iv rv) (hKc : ∀ r1 iv1 rv1, RQ n a iv1 rv1 (fun r2 n' iv2 rv2 => r2 = r1 ∧ RenInv Inv n' iv2 rv2) → Kc r1 iv1 rv1) : wp_X10_realm a iv rv Kc := by
  have I0 := I
  obtain ⟨L, hn, hS, h4, h5, h6, h7⟩ := I
  obtain ⟨⟨s1, s2, s3, s4⟩, -⟩ := hS
  by_cases z : a < 0 ∨ ¬ (a ≤ iv 0 1)
  · have bad : bd_X10_realm_12 iv rv Kc := by
      intro iv1 e1
      have e66 : iv1 66 6 = iv 66 6 := by rw [e1, w2_ne (by omega)]
      refine hKc _ _ _ ⟨fun _ => ?_, fun y y2 => by rw [e66, s3] at y2; omega⟩
      intro iva ea ivb eb
      have q := m_refused (rv := rv) (iv3 := w2 iv1 66 0 0) (w := 2) I0 (fun k j q => by unfold nsc at q; rw [w2_ne (by omega), e1, w2_ne (by omega)]) (by rw [w2_ne (by omega), e1, w2_eq]) (by decide) iva ea ivb eb
      exact ⟨q.1, inv_ren q.2⟩
    exact ⟨fun _ => bad, fun y => ⟨fun y2 => absurd (z.resolve_left y) (fun u => u y2), fun _ => bad⟩⟩
  · obtain ⟨tn, rfl⟩ := Int.eq_ofNat_of_zero_le (show 0 ≤ a by omega)
    have ht : ((tn : Nat) : Int) ≤ iv 0 1 := by omega
    have hb : ∃ h h' : Nat, ((h = 2 ∧ h' = 21) ∨ (h = 21 ∧ h' = 2)) ∧ rv 0 2 = some h' ∧ rv 0 3 = some h := by
      rcases h4 with y | y
      · exact ⟨21, 2, Or.inr ⟨rfl, rfl⟩, y.1, y.2⟩
      · exact ⟨2, 21, Or.inl ⟨rfl, rfl⟩, y.1, y.2⟩
    obtain ⟨h, h', hh, e2, e3⟩ := hb
    have hR : isR h := by unfold isR; omega
    have hR' : isR h' := by unfold isR; omega
    refine c_realm (h := h) (h' := h') hh e2 e3 (by omega) ht (fun _ R k p zr kp pe iv' fr a1 a2 => hKc _ _ _ ?_) (fun _ R v zr gv pe iv' fr a1 H => hKc _ _ _ ?_)
    · have f0 : ∀ k j, ¬ (k = 0 ∧ (j = 1 ∨ j = 7)) → w2 (w2 iv' 0 1 0) 0 7 4 k j = iv' k j := fun k j q => by rw [w2_ne (by omega), w2_ne (by omega)]
      have e01 : w2 (w2 iv' 0 1 0) 0 7 4 0 1 = 0 := by rw [w2_ne (by omega), w2_eq]
      have e07 : w2 (w2 iv' 0 1 0) 0 7 4 0 7 = 4 := w2_eq
      generalize w2 (w2 iv' 0 1 0) 0 7 4 = ic at *
      have e66 : ic 66 6 = iv 0 1 := by rw [f0 _ _ (by omega), fr _ _ (by omega) (by omega)]; exact s3
      refine ⟨fun y => ?_, fun y1 y2 iv56 rv51 F56 Z56 c6 c7 c8 c9 c12 r4 E51 L51 => ?_⟩
      · rw [e66] at y; omega
      · have T : Txt (iv 1) tn iv56 := ⟨by omega, c7, fun j hj => by
          have := s4 j (by omega)
          rw [F56 67 j (by omega) (by omega), f0 _ _ (by omega), fr _ _ (by omega) (by omega)]
          exact this⟩
        have Lr : Lk n (r2 rv 40 5 (some h)) := L.w5 hR (by omega)
        refine rp_fault hn r4 T c8 c9 c12 Z56 zr kp.1 pe (fun im fm x1 x2 x12 => ⟨rfl, ?_⟩)
        refine fin_fault I0 hh e2 (L51 Lr).1 (fun a b q1 q2 q3 => by rw [E51 a b (by omega) q2, r2_ne q3]) (fun k j q0 q1 q2 q3 q4 => by rw [fm k j (by omega) (by omega) (by omega), F56 k j (by omega) (by omega), f0 k j q3, fr k j q1 q2]) (by rw [fm _ _ (by omega) (by omega) (by omega), F56 _ _ (by omega) (by omega)]; exact e01) (by rw [fm _ _ (by omega) (by omega) (by omega), F56 _ _ (by omega) (by omega)]; exact e07) (by rw [fm _ _ (by omega) (by omega) (by omega), F56 _ _ (by omega) (by omega), f0 _ _ (by omega)]; exact a1) (by rw [fm _ _ (by omega) (by omega) (by omega), F56 _ _ (by omega) (by omega), f0 _ _ (by omega)]; exact a2) x1 x2 (by rw [fm _ _ (by omega) (by omega) (by omega)]; exact c6) x12
    · have f0 : ∀ k j, ¬ (k = 0 ∧ (j = 1 ∨ j = 7)) → ¬ (k = 63 ∧ 2 ≤ j ∧ j ≤ 4) → w2 (w2 (w2 (w2 (w2 iv' 0 1 0) 63 2 0) 63 3 0) 63 4 0) 0 7 0 k j = iv' k j := fun k j q q' => by rw [w2_ne (by omega), w2_ne (by omega), w2_ne (by omega), w2_ne (by omega), w2_ne (by omega)]
      have e01 : w2 (w2 (w2 (w2 (w2 iv' 0 1 0) 63 2 0) 63 3 0) 63 4 0) 0 7 0 0 1 = 0 := by rw [w2_ne (by omega), w2_ne (by omega), w2_ne (by omega), w2_ne (by omega), w2_eq]
      have e632 : w2 (w2 (w2 (w2 (w2 iv' 0 1 0) 63 2 0) 63 3 0) 63 4 0) 0 7 0 63 2 = 0 := by rw [w2_ne (by omega), w2_ne (by omega), w2_ne (by omega), w2_eq]
      have e633 : w2 (w2 (w2 (w2 (w2 iv' 0 1 0) 63 2 0) 63 3 0) 63 4 0) 0 7 0 63 3 = 0 := by rw [w2_ne (by omega), w2_ne (by omega), w2_eq]
      have e07 : w2 (w2 (w2 (w2 (w2 iv' 0 1 0) 63 2 0) 63 3 0) 63 4 0) 0 7 0 0 7 = 0 := w2_eq
      generalize w2 (w2 (w2 (w2 (w2 iv' 0 1 0) 63 2 0) 63 3 0) 63 4 0) 0 7 0 = ic at *
      have e66 : ic 66 6 = iv 0 1 := by rw [f0 _ _ (by omega) (by omega), fr _ _ (by omega) (by omega)]; exact s3
      refine ⟨fun y => ?_, fun y1 y2 iv56 rv51 F56 Z56 c6 c7 c8 c9 c12 r4 E51 L51 => ?_⟩
      · rw [e66] at y; omega
      · have T : Txt (iv 1) tn iv56 := ⟨by omega, c7, fun j hj => by
          have := s4 j (by omega)
          rw [F56 67 j (by omega) (by omega), f0 _ _ (by omega) (by omega), fr _ _ (by omega) (by omega)]
          exact this⟩
        have Lr : Lk n (r2 (r2 (r2 rv 40 5 (some h)) 0 2 (some h)) 0 3 (some h')) := ((L.w5 hR (by omega)).w5 hR (by omega)).w5 hR' (by omega)
        refine rp_ok hn r4 T c8 c9 c12 Z56 zr pe (fun im fm x1 x2 x12 x27 x28 x29 hM => ⟨rfl, ?_⟩)
        refine fin_ok (h := h) (h' := h') hn hh (L51 Lr).2 (by rw [r2_ne (by omega), E51 _ _ (by omega) (by omega), r2_ne (by omega), r2_eq]) (by rw [r2_ne (by omega), E51 _ _ (by omega) (by omega), r2_eq]) r2_eq gv (fun k j q => by rw [fm _ _ (by omega) (by omega) (by omega), F56 _ _ (by omega) (by omega), f0 _ _ (by omega) (by omega)]; exact H k j q) hM (by rw [fm _ _ (by omega) (by omega) (by omega), F56 _ _ (by omega) (by omega)]; exact e01) (by rw [fm _ _ (by omega) (by omega) (by omega), F56 _ _ (by omega) (by omega)]; exact e07) (by rw [fm _ _ (by omega) (by omega) (by omega), F56 _ _ (by omega) (by omega), f0 _ _ (by omega) (by omega)]; exact a1) x1 x2 (by rw [fm _ _ (by omega) (by omega) (by omega)]; exact c6) x12 (by rw [fm _ _ (by omega) (by omega) (by omega), F56 _ _ (by omega) (by omega)]; exact e632) (by rw [fm _ _ (by omega) (by omega) (by omega), F56 _ _ (by omega) (by omega)]; exact e633) x27 x28 x29
theorem pr_realm : Pr_realm Inv :=
  ⟨fun iv rv a I _ => realm_gen I (fun _ _ _ h => wr80 h), fun iv rv a I _ => realm_gen I (fun _ _ _ h => wr110 h)⟩
