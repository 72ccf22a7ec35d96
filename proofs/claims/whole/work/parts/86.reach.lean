/-! PLACES REACHED BY as: the pure picture -/
theorem pig : ∀ (m n : Nat) (q : Nat → Nat), (∀ i, i < n → q i < m) → (∀ i j, i < n → j < n → q i = q j → i = j) → n ≤ m
  | 0, n, q, h1, _ => by
    cases n with
    | zero => omega
    | succ n => exact absurd (h1 0 (by omega)) (by omega)
  | m + 1, n, q, h1, h2 => by
    cases n with
    | zero => omega
    | succ n =>
      have ih := pig m n (fun i => if q i = m then q n else q i) (fun i hi => by
        have a1 := h1 i (by omega)
        have a2 := h1 n (by omega)
        show (if q i = m then q n else q i) < m
        split
        · rename_i c
          by_cases e : q n = m
          · exact absurd (h2 i n (by omega) (by omega) (by omega)) (by omega)
          · omega
        · omega) (fun i j hi hj e => by
        have e' : (if q i = m then q n else q i) = (if q j = m then q n else q j) := e
        by_cases ci : q i = m
        · by_cases cj : q j = m
          · exact h2 i j (by omega) (by omega) (by omega)
          · rw [if_pos ci, if_neg cj] at e'
            exact absurd (h2 n j (by omega) (by omega) e') (by omega)
        · by_cases cj : q j = m
          · rw [if_neg ci, if_pos cj] at e'
            exact absurd (h2 i n (by omega) (by omega) e') (by omega)
          · rw [if_neg ci, if_neg cj] at e'
            exact h2 i j (by omega) (by omega) e')
      omega
abbrev BS : Type := Nat × (Nat → Int) × (Nat → Int)
def up1 (q : F1) (i : Nat) (x : Int) : F1 := fun j => if j = i then x else q j
theorem up1_eq {q : F1} {i : Nat} {x : Int} : up1 q i x i = x := if_pos rfl
theorem up1_ne {q : F1} {i j : Nat} {x : Int} (h : j ≠ i) : up1 q i x j = q j := if_neg h
def pBy (q b : F1) (p : Int) : Nat → Int
  | 0 => -2
  | n + 1 => if q n = p then b n else pBy q b p n
theorem pBy_congr {q b q' b' : F1} {p : Int} : ∀ n, (∀ j, j < n → q' j = q j ∧ b' j = b j) → pBy q' b' p n = pBy q b p n
  | 0, _ => rfl
  | n + 1, h => by
    unfold pBy
    rw [(h n (by omega)).1, (h n (by omega)).2, pBy_congr n (fun j hj => h j (by omega))]
theorem pBy_ne {q b : F1} {p : Int} : ∀ n, (∀ j, j < n → q j ≠ p) → pBy q b p n = -2
  | 0, _ => rfl
  | n + 1, h => by
    unfold pBy
    rw [if_neg (h n (by omega))]
    exact pBy_ne n (fun j hj => h j (by omega))
theorem pBy_at {q b : F1} : ∀ n, (∀ i j, i < n → j < n → q i = q j → i = j) → ∀ k, k < n → pBy q b (q k) n = b k
  | 0, _, k, hk => by omega
  | n + 1, h, k, hk => by
    unfold pBy
    by_cases e : q n = q k
    · have := h n k (by omega) hk e
      subst this
      rw [if_pos rfl]
    · rw [if_neg e]
      refine pBy_at n (fun i j hi hj => h i j (by omega) (by omega)) k ?_
      by_cases c : k = n
      · subst c; exact absurd rfl e
      · omega
theorem pBy_iff {q b : F1} {p : Int} : ∀ n, (∀ j, j < n → -1 ≤ b j) → (pBy q b p n = -2 ↔ ∀ j, j < n → q j ≠ p)
  | 0, _ => ⟨fun _ j hj => by omega, fun _ => rfl⟩
  | n + 1, h => by
    have ih := pBy_iff (q := q) (b := b) (p := p) n (fun j hj => h j (by omega))
    unfold pBy
    by_cases e : q n = p
    · rw [if_pos e]
      have := h n (by omega)
      exact ⟨fun c => by omega, fun c => absurd e (c n (by omega))⟩
    · rw [if_neg e, ih]
      refine ⟨fun c j hj => ?_, fun c j hj => c j (by omega)⟩
      by_cases z : j = n
      · subst z; exact e
      · exact c j (by omega)
theorem pBy_up {q b : F1} {p x y : Int} {n : Nat} : pBy (up1 q n x) (up1 b n y) p (n + 1) = if x = p then y else pBy q b p n := by
  show (if up1 q n x n = p then up1 b n y n else pBy (up1 q n x) (up1 b n y) p n) = _
  rw [up1_eq, up1_eq, pBy_congr (q := q) (b := b) n (fun j hj => ⟨up1_ne (by omega), up1_ne (by omega)⟩)]
abbrev bOk (R : Nat → Nat → Int) (dy ls f : F1) (day : Int) (k a : Nat) (s : BS) : Prop := R 11 (12 + a) = s.2.1 k ∧ pIn dy ls f (12 + a) day ∧ pBy s.2.1 s.2.2 (R 12 (12 + a)) s.1 = -2
def bSt (R : Nat → Nat → Int) (dy ls f : F1) (day : Int) (k a : Nat) (s : BS) : BS := if bOk R dy ls f day k a s then (s.1 + 1, up1 s.2.1 s.1 (R 12 (12 + a)), up1 s.2.2 s.1 (if k = 0 then ((12 + a : Nat) : Int) else s.2.2 k)) else s
def bIn (R : Nat → Nat → Int) (dy ls f : F1) (day : Int) (k : Nat) (s : BS) : Nat → BS
  | 0 => s
  | m + 1 => bSt R dy ls f day k m (bIn R dy ls f day k s m)
def bOut (R : Nat → Nat → Int) (dy ls f : F1) (day : Int) : Nat → Nat → BS → BS
  | 0, _, s => s
  | d + 1, k, s => if k < s.1 then bOut R dy ls f day d (k + 1) (bIn R dy ls f day k s (R 1 7).toNat) else s
def bGo (R : Nat → Nat → Int) (dy ls f : F1) (day p : Int) : BS := bOut R dy ls f day 9 0 (1, fun _ => p, fun _ => -1)
def BI (R : Nat → Nat → Int) (s : BS) : Prop := 1 ≤ s.1 ∧ (∀ j, j < s.1 → 0 ≤ s.2.1 j ∧ s.2.1 j < R 1 0) ∧ (∀ j, j < s.1 → s.2.2 j = -1 ∨ (12 ≤ s.2.2 j ∧ s.2.2 j < 12 + R 1 7)) ∧ (∀ i j, i < s.1 → j < s.1 → s.2.1 i = s.2.1 j → i = j)
theorem BI.le {R : Nat → Nat → Int} {s : BS} (h : BI R s) (hc : RC R) : s.1 ≤ 8 := by
  have h0 : R 1 0 ≤ 8 := (hc.1 0 (by omega)).2
  refine pig 8 s.1 (fun i => (s.2.1 i).toNat) (fun i hi => ?_) (fun i j hi hj e => ?_)
  · have := h.2.1 i hi
    show (s.2.1 i).toNat < 8
    omega
  · have a := h.2.1 i hi
    have b := h.2.1 j hj
    have e' : (s.2.1 i).toNat = (s.2.1 j).toNat := e
    exact h.2.2.2 i j hi hj (by omega)
theorem BI.b {R : Nat → Nat → Int} {s : BS} (h : BI R s) : ∀ j, j < s.1 → -1 ≤ s.2.2 j := fun j hj => by
  have := h.2.2.1 j hj
  omega
theorem BI.st {R : Nat → Nat → Int} {dy ls f : F1} {day : Int} {k a : Nat} {s : BS} (h : BI R s) (hc : RC R) (hk : k < s.1) (ha : (a : Int) < R 1 7) : BI R (bSt R dy ls f day k a s) ∧ s.1 ≤ (bSt R dy ls f day k a s).1 := by
  have h7 : R 1 7 ≤ 4 := (hc.1 7 (by omega)).2
  have hg : hasG R (12 + a) := Or.inr (Or.inr ⟨by omega, by omega, by omega⟩)
  have hw := (hc.2.2.2.2.1 (12 + a) hg).2.1 (by omega)
  unfold bSt
  split
  · rename_i c
    obtain ⟨b1, b2, b3, b4⟩ := h
    have c3 := (pBy_iff s.1 (fun j hj => by have := b3 j hj; omega)).mp c.2.2
    refine ⟨⟨by show 1 ≤ s.1 + 1; omega, fun j hj => ?_, fun j hj => ?_, fun i j hi hj e => ?_⟩, by show s.1 ≤ s.1 + 1; omega⟩
    · have hj' : j < s.1 + 1 := hj
      show 0 ≤ up1 s.2.1 s.1 (R 12 (12 + a)) j ∧ up1 s.2.1 s.1 (R 12 (12 + a)) j < R 1 0
      by_cases z : j = s.1
      · subst z; rw [up1_eq]; exact hw
      · rw [up1_ne z]; exact b2 j (by omega)
    · have hj' : j < s.1 + 1 := hj
      show up1 s.2.2 s.1 _ j = -1 ∨ (12 ≤ up1 s.2.2 s.1 _ j ∧ up1 s.2.2 s.1 _ j < 12 + R 1 7)
      by_cases z : j = s.1
      · subst z; rw [up1_eq]
        split
        · omega
        · exact b3 k hk
      · rw [up1_ne z]; exact b3 j (by omega)
    · have hi' : i < s.1 + 1 := hi
      have hj' : j < s.1 + 1 := hj
      have e' : up1 s.2.1 s.1 (R 12 (12 + a)) i = up1 s.2.1 s.1 (R 12 (12 + a)) j := e
      by_cases zi : i = s.1
      · by_cases zj : j = s.1
        · omega
        · rw [zi, up1_eq, up1_ne zj] at e'
          exact absurd e'.symm (c3 j (by omega))
      · by_cases zj : j = s.1
        · rw [zj, up1_eq, up1_ne zi] at e'
          exact absurd e' (c3 i (by omega))
        · rw [up1_ne zi, up1_ne zj] at e'
          exact b4 i j (by omega) (by omega) e'
  · exact ⟨h, Nat.le_refl _⟩
theorem BI.inn {R : Nat → Nat → Int} {dy ls f : F1} {day : Int} {k : Nat} {s : BS} (h : BI R s) (hc : RC R) (hk : k < s.1) : ∀ m : Nat, (m : Int) ≤ R 1 7 → BI R (bIn R dy ls f day k s m) ∧ s.1 ≤ (bIn R dy ls f day k s m).1
  | 0, _ => ⟨h, Nat.le_refl _⟩
  | m + 1, hm => by
    have ih := BI.inn (dy := dy) (ls := ls) (f := f) (day := day) h hc hk m (by omega)
    have := ih.1.st (dy := dy) (ls := ls) (f := f) (day := day) hc (show k < _ by omega) (show (m : Int) < R 1 7 by omega)
    unfold bIn
    exact ⟨this.1, by omega⟩
theorem BI.out {R : Nat → Nat → Int} {dy ls f : F1} {day : Int} (hc : RC R) : ∀ (d k : Nat) (s : BS), BI R s → BI R (bOut R dy ls f day d k s)
  | 0, _, _, h => h
  | d + 1, k, s, h => by
    have h7 := (hc.1 7 (by omega)).1
    unfold bOut
    split
    · rename_i c
      exact BI.out hc d _ _ (h.inn hc c _ (by omega)).1
    · exact h
theorem BI.init {R : Nat → Nat → Int} {p : Int} (hp : 0 ≤ p ∧ p < R 1 0) : BI R (1, fun _ => p, fun _ => -1) :=
  ⟨Nat.le_refl _, fun _ _ => hp, fun _ _ => Or.inl rfl, fun i j hi hj _ => by have hi' : i < 1 := hi; have hj' : j < 1 := hj; omega⟩
theorem BI.go {R : Nat → Nat → Int} {dy ls f : F1} {day p : Int} (hc : RC R) (hp : 0 ≤ p ∧ p < R 1 0) : BI R (bGo R dy ls f day p) := BI.out hc _ _ _ (BI.init hp)
/-! THE CLASS: Reach.from -/
def CB (s : BS) (iv : IV) : Prop := iv 59 2 = s.1 ∧ (∀ j, j < s.1 → iv 60 j = s.2.1 j) ∧ (∀ p : Nat, p < 8 → iv 61 p = pBy s.2.1 s.2.2 p s.1)
theorem CB.congr {s : BS} {iv iv' : IV} (h : CB s iv) (he : ∀ k j, (59 ≤ k ∧ k ≤ 61) → iv' k j = iv k j) : CB s iv' := by
  refine ⟨?_, fun j hj => ?_, fun p hp => ?_⟩
  · rw [he _ _ (by omega)]; exact h.1
  · rw [he _ _ (by omega)]; exact h.2.1 j hj
  · rw [he _ _ (by omega)]; exact h.2.2 p hp
theorem c_from {h : Nat} {R : Nat → Nat → Int} {dy ls f : F1} {iv : IV} {rv : RV} {day : Int} {p : Int} {K : IV → Prop} (hh : h = 2 ∨ h = 21) (h6 : gR rv 51 6 = h) (C : CS h R dy ls f iv) (hc : RC R) (hW : ∀ g, hasG R g → WG R dy ls f day iv g) (hp : 0 ≤ p ∧ p < R 1 0)
    (hK : ∀ iv', (∀ k j, ¬ (59 ≤ k ∧ k ≤ 61) → iv' k j = iv k j) → CB (bGo R dy ls f day p) iv' → K iv') : wp_X3_from p iv rv K := by
  have h0 : R 1 0 ≤ 8 := (hc.1 0 (by omega)).2
  have h7 : 0 ≤ R 1 7 ∧ R 1 7 ≤ 4 := hc.1 7 (by omega)
  intro iv1 e1
  refine ⟨⟨by omega, by omega⟩, fun iv3 e3 iv4 e4 iv5 e5 => ?_⟩
  have inner : ∀ (P36 : Int → IV → Prop) (k : Nat) (s : BS) (iv0 : IV), BI R s → k < s.1 → CB s iv0 → (∀ k j, ¬ (59 ≤ k ∧ k ≤ 61) → iv0 k j = iv k j) → (∀ iv', (∀ k j, ¬ (59 ≤ k ∧ k ≤ 61) → iv' k j = iv k j) → CB (bIn R dy ls f day k s (R 1 7).toNat) iv' → P36 ((k : Int) + 1) iv') → wl_X3_from_55 P36 k 0 iv0 rv K := by
    intro P36 k s iv0 hB hk hC hfr hN P hP
    have key : ∀ d m : Nat, m + d = (R 1 7).toNat → ∀ (c : Int) (iv' : IV), c = m → (∀ k j, ¬ (59 ≤ k ∧ k ≤ 61) → iv' k j = iv k j) → CB (bIn R dy ls f day k s m) iv' → P k c iv' := by
      intro d
      induction d with
      | zero =>
        intro m hm c iv' ec fr hCB
        subst ec
        have e7 : iv' (gR rv 51 6 + 1) 7 = R 1 7 := by rw [fr _ _ (by omega), h6]; exact C.1 1 7 (by omega)
        have hm' : m = (R 1 7).toNat := by omega
        have k8 := hB.le hc
        refine hP _ _ _ ⟨fun _ => ?_, fun z => by omega⟩
        rw [w32_id (by omega) (by omega)]
        exact hN iv' fr (by rw [← hm']; exact hCB)
      | succ d ih =>
        intro m hm c iv' ec fr hCB
        subst ec
        have e7 : iv' (gR rv 51 6 + 1) 7 = R 1 7 := by rw [fr _ _ (by omega), h6]; exact C.1 1 7 (by omega)
        have ew : Unit → w32 ((m : Int) + 1) = (m : Int) + 1 := fun _ => w32_id (by omega) (by omega)
        have e12 : Unit → w32 (12 + (m : Int)) = ((12 + m : Nat) : Int) := fun _ => w32_id (by omega) (by omega)
        have t12 : (((12 + m : Nat) : Int)).toNat = 12 + m := Int.toNat_natCast _
        have tk : ((k : Int)).toNat = k := Int.toNat_natCast _
        have hg : hasG R (12 + m) := Or.inr (Or.inr ⟨by omega, by omega, by omega⟩)
        have hw := (hc.2.2.2.2.1 (12 + m) hg).2.1 (by omega)
        obtain ⟨hBm, hBl⟩ := hB.inn (dy := dy) (ls := ls) (f := f) (day := day) hc hk m (by omega)
        have k8 := hBm.le hc
        have ih' := ih (m + 1) (by omega) ((m : Int) + 1)
        unfold bIn at ih'
        have hst := (hBm.st (dy := dy) (ls := ls) (f := f) (day := day) hc (show k < _ by omega) (show (m : Int) < R 1 7 by omega)).1
        have g8 := hst.le hc
        unfold bSt at ih' g8
        generalize hs : bIn R dy ls f day k s m = s' at *
        have w54 := (hW (12 + m) hg).1
        rw [← fr 54 _ (by omega)] at w54
        have w11 : iv' (gR rv 51 6 + 11) (12 + m) = R 11 (12 + m) := by rw [fr _ _ (by omega), h6]; exact C.1 11 _ (by omega)
        have w12 : iv' (gR rv 51 6 + 12) (12 + m) = R 12 (12 + m) := by rw [fr _ _ (by omega), h6]; exact C.1 12 _ (by omega)
        have q60 := hCB.2.1 k (by omega)
        have q61 := hCB.2.2 (R 12 (12 + m)).toNat (by omega)
        have tl : (((R 12 (12 + m)).toNat : Nat) : Int) = R 12 (12 + m) := by omega
        rw [tl] at q61
        have q59 := hCB.1
        apply hP
        unfold bd_X3_from_55 bd_X3_from_114 bd_X3_from_115 bd_X3_from_193
        rw [e12 ()]
        rw [tk]
        refine ⟨fun z => by omega, fun _ x2 e2 => ?_⟩
        subst e2
        rw [t12]
        refine ⟨⟨by omega, by omega⟩, fun x4 e4 => ?_⟩
        rw [w12] at e4
        subst e4
        rw [ew ()]
        by_cases hx : bOk R dy ls f day k m s'
        · rw [if_pos hx] at ih' g8
          rw [if_pos hx.2.1] at w54
          obtain ⟨x1, x2, x3⟩ := hx
          have g8' : s'.1 + 1 ≤ 8 := g8
          have fin : ∀ t0 : Int, t0 = (if k = 0 then ((12 + m : Nat) : Int) else s'.2.2 k) → bd_X3_from_171 P36 P k m (R 12 (12 + m)) t0 (R 12 (12 + m)) iv' rv K := by
            intro t0 et
            refine ⟨⟨by omega, by omega⟩, fun iva ea => ?_⟩
            have a59 : iva 59 2 = s'.1 := by rw [ea, w2_ne (by omega)]; exact q59
            refine ⟨⟨by omega, by omega⟩, fun ivb eb ivc ec => ?_⟩
            show P k (w32 ((m : Int) + 1)) ivc
            rw [ew ()]
            have b59 : ivb 59 2 = s'.1 := by rw [eb, w2_ne (by omega)]; exact a59
            rw [a59, Int.toNat_natCast] at eb
            rw [b59, w32_id (by omega) (by omega)] at ec
            refine ih' ivc (by omega) (fun k j hkj => ?_) ⟨?_, fun j hj => ?_, fun p hp => ?_⟩
            · rw [ec, eb, ea, w2_ne (by omega), w2_ne (by omega), w2_ne (by omega)]
              exact fr k j hkj
            · rw [ec, w2_eq]
              show (s'.1 : Int) + 1 = ((s'.1 + 1 : Nat) : Int)
              omega
            · have hj' : j < s'.1 + 1 := hj
              show ivc 60 j = up1 s'.2.1 s'.1 (R 12 (12 + m)) j
              by_cases z : j = s'.1
              · rw [z, up1_eq, ec, eb, w2_ne (by omega), w2_eq]
              · rw [up1_ne z, ec, eb, ea, w2_ne (by omega), w2_ne (by omega), w2_ne (by omega)]
                exact hCB.2.1 j (by omega)
            · show ivc 61 p = pBy (up1 s'.2.1 s'.1 (R 12 (12 + m))) (up1 s'.2.2 s'.1 _) p (s'.1 + 1)
              rw [pBy_up, ec, eb, ea, w2_ne (by omega), w2_ne (by omega)]
              by_cases z : R 12 (12 + m) = p
              · rw [if_pos z, ← et, show p = (R 12 (12 + m)).toNat by omega, w2_eq]
              · rw [if_neg z, w2_ne (by omega)]
                exact hCB.2.2 p hp
          refine ⟨⟨by omega, by omega⟩, fun z => by omega, fun _ => ⟨⟨by omega, by omega⟩, ⟨by omega, by omega⟩, fun z => by omega, fun _ => ⟨fun z => by omega, fun _ => ⟨⟨by omega, by omega⟩, fun z => by omega, fun _ => ⟨fun z => by omega, fun _ => ⟨fun z => ?_, fun z => fin _ (by rw [if_pos (by omega)])⟩⟩⟩⟩⟩⟩
          have b2 := hBm.2.1 k (by omega)
          have q62 := hCB.2.2 (iv' 60 k).toNat (by omega)
          rw [q60] at q62
          rw [show (((s'.2.1 k).toNat : Nat) : Int) = s'.2.1 k by omega, pBy_at s'.1 hBm.2.2.2 k (by omega)] at q62
          refine ⟨⟨by omega, by omega⟩, ⟨by omega, by omega⟩, fin _ ?_⟩
          rw [if_neg (by omega), q60]
          exact q62
        · rw [if_neg hx] at ih'
          have y := ih' iv' (by omega) fr hCB
          refine ⟨⟨by omega, by omega⟩, fun z => ⟨fun _ => y, fun z => absurd rfl z⟩, fun z => ⟨⟨by omega, by omega⟩, ⟨by omega, by omega⟩, fun z1 => ⟨fun _ => y, fun z => absurd rfl z⟩, fun z1 => ⟨fun z => absurd z (by decide), fun _ => ⟨⟨by omega, by omega⟩, fun _ => y, fun z2 => ⟨fun _ => y, fun z3 => ?_⟩⟩⟩⟩⟩
          refine absurd ⟨w11.symm.trans (z1.trans q60), ?_, q61.symm.trans z2⟩ hx
          by_cases hi : pIn dy ls f (12 + m) day
          · exact hi
          · rw [if_neg hi] at w54
            exact absurd w54 z
    exact key (R 1 7).toNat 0 (by omega) _ _ rfl hfr hC
  intro P hP
  have key : ∀ d k : Nat, k + d = 9 → ∀ (s : BS) (c : Int) (iv' : IV), BI R s → c = k → (∀ k j, ¬ (59 ≤ k ∧ k ≤ 61) → iv' k j = iv k j) → CB s iv' → bOut R dy ls f day d k s = bGo R dy ls f day p → P c iv' := by
    intro d
    induction d with
    | zero =>
      intro k hk s c iv' hB ec fr hCB hgo
      have k8 := hB.le hc
      have q59 := hCB.1
      refine hP _ _ ⟨fun _ => hK iv' fr ?_, fun z => by omega⟩
      rw [← hgo]; exact hCB
    | succ d ih =>
      intro k hk s c iv' hB ec fr hCB hgo
      subst ec
      have k8 := hB.le hc
      have q59 := hCB.1
      unfold bOut at hgo
      refine hP _ _ ⟨fun z => hK iv' fr ?_, fun z => ⟨fun z2 => by omega, fun _ => ?_⟩⟩
      · rw [if_neg (by omega)] at hgo
        rw [← hgo]; exact hCB
      · rw [if_pos (by omega)] at hgo
        refine inner P k s iv' hB (by omega) hCB fr (fun iv2 fr2 hCB2 => ?_)
        exact ih (k + 1) (by omega) _ _ iv2 (hB.inn hc (by omega) _ (by omega)).1 (by omega) fr2 hCB2 hgo
  refine key 9 0 (by omega) (1, fun _ => p, fun _ => -1) 0 iv5 (BI.init hp) rfl (fun k j hkj => ?_) ⟨?_, fun j hj => ?_, fun q hq => ?_⟩ rfl
  · rw [e5, e4, e3, e1, w2_ne (by omega), w2_ne (by omega), w2_ne (by omega)]
    exact if_neg (by omega)
  · rw [e5, w2_eq]; rfl
  · have hj' : j < 1 := hj
    rw [e5, e4, show j = 0 by omega, w2_ne (by omega), w2_eq]
  · rw [e5, e4, e3, w2_ne (by omega), w2_ne (by omega)]
    show _ = if p = (q : Int) then (-1 : Int) else -2
    by_cases z : p = q
    · rw [if_pos z, show q = p.toNat by omega, w2_eq]
    · rw [if_neg z, w2_ne (by omega), e1]
      exact if_pos ⟨rfl, hq⟩
