/-! THE READER: tokens, the pure picture and both sides -/
def sk (b : Nat → Int) : Nat → Nat → Nat
  | 0, i => i
  | d + 1, i => if b i = 32 then sk b d (i + 1) else i
def rn (lo hi : Int) (b : Nat → Int) : Nat → Nat → Nat
  | 0, i => i
  | d + 1, i => if lo ≤ b i ∧ b i ≤ hi then rn lo hi b d (i + 1) else i
def cdw (b : Nat → Int) (s : Nat) : Nat → Int
  | 0 => 0
  | k + 1 => cdw b s k * 32 + (b (s + k) - 96)
def cdd (b : Nat → Int) (s : Nat) : Nat → Int
  | 0 => 0
  | k + 1 => cdd b s k * 10 + (b (s + k) - 48)
theorem sk_le {b : Nat → Int} : ∀ d i, i ≤ sk b d i ∧ sk b d i ≤ i + d
  | 0, i => ⟨Nat.le_refl _, Nat.le_refl _⟩
  | d + 1, i => by
    have := sk_le (b := b) d (i + 1)
    unfold sk
    split <;> omega
theorem rn_le {lo hi : Int} {b : Nat → Int} : ∀ d i, i ≤ rn lo hi b d i ∧ rn lo hi b d i ≤ i + d
  | 0, i => ⟨Nat.le_refl _, Nat.le_refl _⟩
  | d + 1, i => by
    have := rn_le (lo := lo) (hi := hi) (b := b) d (i + 1)
    unfold rn
    split <;> omega
/-- a token: its kind (0 the end, 1 a word, 2 a whole, 3 the parting, 4 none), where it begins, its code, what is behind it -/
def tok (b : Nat → Int) (n a : Nat) : Int × Nat × Int × Nat :=
  if n ≤ sk b (n - a) a then (0, sk b (n - a) a, 0, sk b (n - a) a)
  else if 97 ≤ b (sk b (n - a) a) ∧ b (sk b (n - a) a) ≤ 122 then
    (if rn 97 122 b (n - sk b (n - a) a) (sk b (n - a) a) ≤ sk b (n - a) a + 8 then (1, sk b (n - a) a, cdw b (sk b (n - a) a) (rn 97 122 b (n - sk b (n - a) a) (sk b (n - a) a) - sk b (n - a) a), rn 97 122 b (n - sk b (n - a) a) (sk b (n - a) a)) else (4, sk b (n - a) a, 0, 0))
  else if 48 ≤ b (sk b (n - a) a) ∧ b (sk b (n - a) a) ≤ 57 then
    (if rn 48 57 b (n - sk b (n - a) a) (sk b (n - a) a) ≤ sk b (n - a) a + 3 then (2, sk b (n - a) a, cdd b (sk b (n - a) a) (rn 48 57 b (n - sk b (n - a) a) (sk b (n - a) a) - sk b (n - a) a), rn 48 57 b (n - sk b (n - a) a) (sk b (n - a) a)) else (4, sk b (n - a) a, 0, 0))
  else if b (sk b (n - a) a) = 59 then (3, sk b (n - a) a, 0, sk b (n - a) a + 1) else (4, sk b (n - a) a, 0, 0)
def b32 : Nat → Int
  | 0 => 1
  | k + 1 => b32 k * 32
theorem b32_le : ∀ k, k ≤ 8 → b32 k ≤ 1099511627776 := by decide
/-- a word's letters, up to the k-th -/
def Ltr (lo hi : Int) (b : Nat → Int) (s k : Nat) : Prop := ∀ j, j < k → lo ≤ b (s + j) ∧ b (s + j) ≤ hi
theorem cdw_le {b : Nat → Int} {s : Nat} : ∀ k, Ltr 97 122 b s k → 0 ≤ cdw b s k ∧ cdw b s k + 1 ≤ b32 k
  | 0, _ => ⟨Int.le_refl _, Int.le_refl _⟩
  | k + 1, h => by
    have ih := cdw_le k (fun j hj => h j (by omega))
    have := h k (by omega)
    show 0 ≤ cdw b s k * 32 + (b (s + k) - 96) ∧ cdw b s k * 32 + (b (s + k) - 96) + 1 ≤ b32 k * 32
    omega
theorem cdd_le {b : Nat → Int} {s : Nat} : ∀ k, Ltr 48 57 b s k → k ≤ 3 → 0 ≤ cdd b s k ∧ cdd b s k ≤ 999
  | 0, _, _ => ⟨Int.le_refl _, by show (0 : Int) ≤ 999; decide⟩
  | k + 1, h, hk => by
    have l0 := h 0 (by omega)
    have : k = 0 ∨ k = 1 ∨ k = 2 := by omega
    rcases this with rfl | rfl | rfl
    · show 0 ≤ (0 : Int) * 10 + (b (s + 0) - 48) ∧ (0 : Int) * 10 + (b (s + 0) - 48) ≤ 999
      omega
    · have l1 := h 1 (by omega)
      show 0 ≤ ((0 : Int) * 10 + (b (s + 0) - 48)) * 10 + (b (s + 1) - 48) ∧ ((0 : Int) * 10 + (b (s + 0) - 48)) * 10 + (b (s + 1) - 48) ≤ 999
      omega
    · have l1 := h 1 (by omega)
      have l2 := h 2 (by omega)
      show 0 ≤ (((0 : Int) * 10 + (b (s + 0) - 48)) * 10 + (b (s + 1) - 48)) * 10 + (b (s + 2) - 48) ∧ (((0 : Int) * 10 + (b (s + 0) - 48)) * 10 + (b (s + 1) - 48)) * 10 + (b (s + 2) - 48) ≤ 999
      omega
/-- the class's token -/
def CTk (t : Int × Nat × Int × Nat) (iv : IV) : Prop := iv 46 3 = t.1 ∧ iv 46 4 = (t.2.1 : Nat) ∧ (t.1 = 1 ∨ t.1 = 2 → iv 46 5 = t.2.2.1) ∧ (t.1 ≠ 4 → iv 46 2 = (t.2.2.2 : Nat))
theorem c_run {lo hi l3 : Int} {b : Nat → Int} {n s : Nat} {iv : IV} {rv : RV} {K : IV → Prop} (hn : n ≤ 900) (hs : s ≤ n) (ht : ∀ j, j < n → iv 1 j = b j) (e1 : iv 46 1 = (n : Nat)) (e5 : iv 46 5 = 0) (hl : (l3 = 0 ∧ lo = 48 ∧ hi = 57) ∨ (l3 = 1 ∧ lo = 97 ∧ hi = 122))
    (hK : ∀ iv' : IV, (∀ k j, ¬ (k = 46 ∧ j = 5) → iv' k j = iv k j) → Ltr lo hi b s (rn lo hi b (n - s) s - s) → (l3 = 1 → rn lo hi b (n - s) s ≤ s + 8 → iv' 46 5 = cdw b s (rn lo hi b (n - s) s - s)) → (l3 = 0 → rn lo hi b (n - s) s ≤ s + 3 → iv' 46 5 = cdd b s (rn lo hi b (n - s) s - s)) → bd_X7_advance_218 (rn lo hi b (n - s) s : Nat) l3 iv' rv K) : wl_X7_advance_131 s l3 lo hi iv rv K := by
  intro P hP
  have key : ∀ d k : Nat, s + k + d = n → ∀ (x : Int) (iv' : IV), x = ((s + k : Nat) : Int) → rn lo hi b d (s + k) = rn lo hi b (n - s) s → (∀ k j, ¬ (k = 46 ∧ j = 5) → iv' k j = iv k j) → Ltr lo hi b s k → (l3 = 1 → k ≤ 8 → iv' 46 5 = cdw b s k) → (l3 = 0 → k ≤ 3 → iv' 46 5 = cdd b s k) → P x l3 lo hi iv' := by
    intro d
    induction d with
    | zero =>
      intro k hk x iv' ex hr fr hL h1 h0
      replace h1 := fun (_ : Unit) => h1
      replace h0 := fun (_ : Unit) => h0
      have i1 : iv' 46 1 = (n : Nat) := by rw [fr _ _ (by omega)]; exact e1
      have er : rn lo hi b (n - s) s = s + k := hr.symm
      refine hP _ _ _ _ _ ⟨fun _ => ?_, fun z => by omega⟩
      have := hK iv' fr (by rw [er, Nat.add_sub_cancel_left]; exact hL) (fun a c => by rw [er, Nat.add_sub_cancel_left]; exact h1 () a (by omega)) (fun a c => by rw [er, Nat.add_sub_cancel_left]; exact h0 () a (by omega))
      rw [er] at this
      rw [ex]; exact this
    | succ d ih =>
      intro k hk x iv' ex hr fr hL h1 h0
      replace h1 := fun (_ : Unit) => h1
      replace h0 := fun (_ : Unit) => h0
      subst ex
      have tx : (((s + k : Nat) : Int)).toNat = s + k := Int.toNat_natCast _
      have i1 : iv' 46 1 = (n : Nat) := by rw [fr _ _ (by omega)]; exact e1
      have ib : iv' 1 (s + k) = b (s + k) := by rw [fr _ _ (by omega)]; exact ht _ (by omega)
      have ew : Unit → w32 (((s + k : Nat) : Int) + 1) = ((s + (k + 1) : Nat) : Int) := fun _ => w32_id (by omega) (by omega)
      replace hr : (if lo ≤ b (s + k) ∧ b (s + k) ≤ hi then rn lo hi b d (s + k + 1) else s + k) = rn lo hi b (n - s) s := hr
      have out : Unit → ¬ (lo ≤ b (s + k) ∧ b (s + k) ≤ hi) → bd_X7_advance_218 ((s + k : Nat) : Int) l3 iv' rv K := by
        intro _ hn
        rw [if_neg hn] at hr
        have := hK iv' fr (by rw [← hr, Nat.add_sub_cancel_left]; exact hL) (fun a c => by rw [← hr, Nat.add_sub_cancel_left]; exact h1 () a (by omega)) (fun a c => by rw [← hr, Nat.add_sub_cancel_left]; exact h0 () a (by omega))
        rw [← hr] at this
        exact this
      have go : ∀ t0 : Int, (lo ≤ b (s + k) ∧ b (s + k) ≤ hi) → (l3 = 1 → k + 1 ≤ 8 → t0 = cdw b s (k + 1)) → (l3 = 0 → k + 1 ≤ 3 → t0 = cdd b s (k + 1)) → bd_X7_advance_209 P ((s + k : Nat) : Int) l3 lo hi t0 iv' rv K := by
        intro t0 hy t1 t2 iv2 e2
        rw [ew ()]
        rw [if_pos hy] at hr
        refine ih (k + 1) (by omega) _ iv2 rfl hr (fun k j q => by rw [e2, w2_ne (by omega)]; exact fr k j q) (fun j hj => ?_) (fun a c => by rw [e2, w2_eq]; exact t1 a c) (fun a c => by rw [e2, w2_eq]; exact t2 a c)
        by_cases z : j = k
        · rw [z]; exact hy
        · exact hL j (by omega)
      apply hP
      unfold bd_X7_advance_131
      rw [tx, i1, ib]
      refine ⟨fun z => by omega, fun _ => ⟨⟨by omega, by omega⟩, fun z => out () (fun q => by omega), fun z => ⟨⟨by omega, by omega⟩, fun y => out () (fun q => by omega), fun y => ⟨fun u => ⟨⟨by omega, by omega⟩, go _ ⟨by omega, by omega⟩ (fun a => by omega) (fun _ c => ?_)⟩, fun u => ⟨⟨by omega, by omega⟩, go _ ⟨by omega, by omega⟩ (fun _ c => ?_) (fun a => absurd a u)⟩⟩⟩⟩⟩
      · have hl' : lo = 48 ∧ hi = 57 := by omega
        obtain ⟨rfl, rfl⟩ := hl'
        have cb := cdd_le k hL (by omega)
        have e := h0 () u (by omega)
        rw [e, w64_id (x := cdd b s k * 10) (by omega) (by omega), w32_id (x := b (s + k) - 48) (by omega) (by omega), w64_id (by omega) (by omega)]
        rfl
      · have hl' : l3 = 1 ∧ lo = 97 ∧ hi = 122 := by omega
        obtain ⟨l31, rfl, rfl⟩ := hl'
        have cb := cdw_le k hL
        have bb := b32_le k (by omega)
        have e := h1 () l31 (by omega)
        rw [e, w64_id (x := cdw b s k * 32) (by omega) (by omega), w32_id (x := b (s + k) - 97) (by omega) (by omega), w32_id (x := b (s + k) - 97 + 1) (by omega) (by omega), w64_id (by omega) (by omega)]
        show _ = cdw b s k * 32 + (b (s + k) - 96)
        omega
  exact key (n - s) 0 (by omega) _ iv rfl rfl (fun _ _ _ => rfl) (fun j hj => by omega) (fun _ _ => e5) (fun _ _ => e5)
theorem c_advance {b : Nat → Int} {n a : Nat} {iv : IV} {rv : RV} {K : IV → Prop} (hn : n ≤ 900) (ha : a ≤ n) (ht : ∀ j, j < n → iv 1 j = b j) (e1 : iv 46 1 = (n : Nat)) (e2 : iv 46 2 = (a : Nat))
    (hK : ∀ iv' : IV, (∀ k j, ¬ (k = 46 ∧ 2 ≤ j ∧ j ≤ 5) → iv' k j = iv k j) → CTk (tok b n a) iv' → K iv') : wp_X7_advance iv rv K := by
  have b30 : ∀ s : Nat, sk b (n - a) a = s → s ≤ n → bd_X7_advance_30 (s : Nat) iv rv K := by
    intro s es hs iv1 q1 iv2 q2
    have ts : ((s : Int)).toNat = s := Int.toNat_natCast s
    have f2 : ∀ k j, ¬ (k = 46 ∧ (j = 4 ∨ j = 5)) → iv2 k j = iv k j := fun k j q => by rw [q2, w2_ne (by omega), q1, w2_ne (by omega)]
    have i1 : iv2 46 1 = (n : Nat) := by rw [f2 _ _ (by omega)]; exact e1
    have i4 : iv2 46 4 = (s : Nat) := by rw [q2, w2_ne (by omega), q1, w2_eq]
    have i5 : iv2 46 5 = 0 := by rw [q2, w2_eq]
    have ht2 : ∀ j, j < n → iv2 1 j = b j := fun j hj => by rw [f2 _ _ (by omega)]; exact ht j hj
    have ew : Unit → w32 ((s : Int) + 1) = ((s + 1 : Nat) : Int) := fun _ => w32_id (by omega) (by omega)
    -- two cells set, the end
    have fin : ∀ (iv3 : IV) (kd : Int) (nx : Nat), (∀ k j, ¬ (k = 46 ∧ 2 ≤ j ∧ j ≤ 5) → iv3 k j = iv k j) → iv3 46 4 = (s : Nat) → (tok b n a).1 = kd → (tok b n a).2.1 = s → (kd = 1 ∨ kd = 2 → iv3 46 5 = (tok b n a).2.2.1) → (kd ≠ 4 → (tok b n a).2.2.2 = nx) → ∀ iv4, iv4 = w2 iv3 46 3 kd → ∀ iv5, iv5 = w2 iv4 46 2 (nx : Nat) → K iv5 := by
      intro iv3 kd nx fr p4 t1 t2 t3 t4 iv4 q4 iv5 q5
      refine hK iv5 (fun k j q => by rw [q5, w2_ne (by omega), q4, w2_ne (by omega)]; exact fr k j q) ⟨?_, ?_, fun z => ?_, fun z => ?_⟩
      · rw [q5, w2_ne (by omega), q4, w2_eq, t1]
      · rw [q5, w2_ne (by omega), q4, w2_ne (by omega), p4, t2]
      · rw [q5, w2_ne (by omega), q4, w2_ne (by omega)]; exact t3 (by rw [← t1]; exact z)
      · rw [q5, w2_eq, t4 (by rw [← t1]; exact z)]
    have f2' : ∀ k j, ¬ (k = 46 ∧ 2 ≤ j ∧ j ≤ 5) → iv2 k j = iv k j := fun k j q => f2 k j (by omega)
    have run : ∀ l3 lo hi : Int, (l3 = 0 ∧ lo = 48 ∧ hi = 57) ∨ (l3 = 1 ∧ lo = 97 ∧ hi = 122) → s < n → lo ≤ b s → b s ≤ hi → bd_X7_advance_129 (s : Nat) l3 lo hi iv2 rv K := by
      intro l3 lo hi hl hsn c1 c2
      refine c_run hn hs ht2 i1 i5 hl (fun iv3 fr3 hL g1 g0 => ?_)
      have rl := rn_le (lo := lo) (hi := hi) (b := b) (n - s) s
      have p4 : iv3 46 4 = (s : Nat) := by rw [fr3 _ _ (by omega)]; exact i4
      have fr' : ∀ k j, ¬ (k = 46 ∧ 2 ≤ j ∧ j ≤ 5) → iv3 k j = iv k j := fun k j q => by rw [fr3 _ _ (by omega)]; exact f2' k j q
      replace g1 := fun (_ : Unit) => g1
      replace g0 := fun (_ : Unit) => g0
      have tk : tok b n a = (if l3 = 1 then (if rn lo hi b (n - s) s ≤ s + 8 then (1, s, cdw b s (rn lo hi b (n - s) s - s), rn lo hi b (n - s) s) else (4, s, 0, 0)) else (if rn lo hi b (n - s) s ≤ s + 3 then (2, s, cdd b s (rn lo hi b (n - s) s - s), rn lo hi b (n - s) s) else (4, s, 0, 0))) := by
        unfold tok
        rw [es, if_neg (by omega)]
        rcases hl with ⟨x1, x2, x3⟩ | ⟨x1, x2, x3⟩
        · subst x1; subst x2; subst x3
          rw [if_neg (by omega), if_pos ⟨c1, c2⟩, if_neg (show ¬ ((0 : Int) = 1) by decide)]
        · subst x1; subst x2; subst x3
          rw [if_pos ⟨c1, c2⟩, if_pos rfl]
      generalize hm : rn lo hi b (n - s) s = m at *
      unfold bd_X7_advance_218 bd_X7_advance_234 bd_X7_advance_242
      rw [p4, w32_id (x := ((m : Nat) : Int) - ((s : Nat) : Int)) (by omega) (by omega)]
      refine ⟨fun z => ?_, fun z => ?_⟩
      · rw [if_neg (by omega)] at tk
        refine ⟨fun y => ⟨fun _ => ⟨fun _ => ?_, fun u => absurd z u⟩, fun u => absurd rfl u⟩, fun y => ⟨fun u => absurd u (by decide), fun _ => ?_⟩⟩
        · rw [if_pos (by omega)] at tk
          exact fin iv3 2 m fr' p4 (by rw [tk]) (by rw [tk]) (fun _ => by rw [tk]; exact g0 () z (by omega)) (fun _ => by rw [tk])
        · rw [if_neg (by omega)] at tk
          exact fin iv3 4 m fr' p4 (by rw [tk]) (by rw [tk]) (fun q => by omega) (fun q => absurd rfl q)
      · have l1 : l3 = 1 := by omega
        rw [if_pos l1] at tk
        refine ⟨fun y => ⟨fun _ => ⟨fun u => absurd u z, fun _ => ?_⟩, fun u => absurd rfl u⟩, fun y => ⟨fun u => absurd u (by decide), fun _ => ?_⟩⟩
        · rw [if_pos (by omega)] at tk
          exact fin iv3 1 m fr' p4 (by rw [tk]) (by rw [tk]) (fun _ => by rw [tk]; exact g1 () l1 (by omega)) (fun _ => by rw [tk])
        · rw [if_neg (by omega)] at tk
          exact fin iv3 4 m fr' p4 (by rw [tk]) (by rw [tk]) (fun q => by omega) (fun q => absurd rfl q)
    have main : ∀ c : Int, (n ≤ s → c = 0) → (s < n → c = b s) → bd_X7_advance_58 (s : Nat) c iv2 rv K := by
      intro c h1 h2
      replace h1 := fun (_ : Unit) => h1
      replace h2 := fun (_ : Unit) => h2
      have let1 : Unit → (97 ≤ c ∧ c ≤ 122) → s < n := fun _ q => by
        by_cases z : s < n
        · exact z
        · have := h1 () (by omega); omega
      have dig1 : Unit → (48 ≤ c ∧ c ≤ 57) → s < n := fun _ q => by
        by_cases z : s < n
        · exact z
        · have := h1 () (by omega); omega
      have rest : Unit → ¬ (97 ≤ c ∧ c ≤ 122) → ¬ (48 ≤ c ∧ c ≤ 57) → bd_X7_advance_94 (s : Nat) c 0 0 iv2 rv K := by
        intro _ y1 y2
        unfold bd_X7_advance_94
        rw [i1, ew ()]
        refine ⟨fun z => absurd rfl z, fun _ => ⟨fun _ => ⟨fun z => ?_, fun z => ?_⟩, fun z => absurd rfl z⟩⟩
        · have tk : tok b n a = (0, s, 0, s) := by unfold tok; rw [es, if_pos (by omega)]
          exact fin iv2 0 s f2' i4 (by rw [tk]) (by rw [tk]) (fun q => by omega) (fun _ => by rw [tk])
        · have cb := h2 () (by omega)
          rw [cb] at y1 y2 ⊢
          refine ⟨fun u => ?_, fun u => ?_⟩
          · have tk : tok b n a = (4, s, 0, 0) := by unfold tok; rw [es, if_neg (by omega), if_neg y1, if_neg y2, if_neg u]
            exact fin iv2 4 (s + 1) f2' i4 (by rw [tk]) (by rw [tk]) (fun q => by omega) (fun q => absurd rfl q)
          · have tk : tok b n a = (3, s, 0, s + 1) := by unfold tok; rw [es, if_neg (by omega), if_neg y1, if_neg y2, if_pos u]
            exact fin iv2 3 (s + 1) f2' i4 (by rw [tk]) (by rw [tk]) (fun q => by omega) (fun _ => by rw [tk])
      have digs : Unit → (48 ≤ c ∧ c ≤ 57) → bd_X7_advance_94 (s : Nat) c 0 1 iv2 rv K := fun _ q => by
        have hsn := dig1 () q
        have cb := h2 () hsn
        refine ⟨fun z => absurd rfl z, fun _ => ⟨fun z => absurd z (by decide), fun _ => ⟨fun _ => ⟨fun _ => run 0 48 57 (Or.inl ⟨rfl, rfl, rfl⟩) hsn (by omega) (by omega), fun z => absurd rfl z⟩, fun z => absurd rfl z⟩⟩⟩
      have lets : Unit → ∀ t : Int, (97 ≤ c ∧ c ≤ 122) → bd_X7_advance_94 (s : Nat) c 1 t iv2 rv K := fun _ t q => by
        have hsn := let1 () q
        have cb := h2 () hsn
        refine ⟨fun _ => ⟨fun z => absurd z (by decide), fun _ => ⟨fun z => absurd z (by decide), fun _ => run 1 97 122 (Or.inr ⟨rfl, rfl, rfl⟩) hsn (by omega) (by omega)⟩⟩, fun z => absurd z (by decide)⟩
      have s75 : Unit → ¬ (97 ≤ c ∧ c ≤ 122) → bd_X7_advance_76 (s : Nat) c 0 iv2 rv K := fun _ y1 => ⟨fun z => rest () y1 (fun q => by omega), fun z => ⟨fun y => rest () y1 (fun q => by omega), fun y => digs () (by omega)⟩⟩
      exact ⟨fun z => s75 () (fun q => by omega), fun z => ⟨fun y => s75 () (fun q => by omega), fun y => ⟨fun u => lets () 0 (by omega), fun u => ⟨fun v => lets () 0 (by omega), fun v => lets () 1 (by omega)⟩⟩⟩⟩
    rw [i1, ts]
    exact ⟨fun z => main 0 (fun _ => rfl) (fun q => by omega), fun z => ⟨⟨by omega, by omega⟩, main _ (fun q => by omega) (fun q => ht2 s q)⟩⟩
  intro x1 ex P hP
  have key : ∀ d i : Nat, i + d = n → ∀ x : Int, x = (i : Nat) → sk b d i = sk b (n - a) a → P x iv := by
    intro d
    induction d with
    | zero =>
      intro i hi x ex hsk
      subst ex
      exact hP _ _ ⟨fun _ => b30 i (by rw [← hsk]; rfl) (by omega), fun z => by omega⟩
    | succ d ih =>
      intro i hi x ex hsk
      subst ex
      have ti : ((i : Int)).toNat = i := Int.toNat_natCast i
      have ew : Unit → w32 ((i : Int) + 1) = ((i + 1 : Nat) : Int) := fun _ => w32_id (by omega) (by omega)
      replace hsk : (if b i = 32 then sk b d (i + 1) else i) = sk b (n - a) a := hsk
      refine hP _ _ ⟨fun z => by omega, fun _ => ⟨⟨by omega, by omega⟩, ?_⟩⟩
      rw [ti, ht i (by omega), ew ()]
      refine ⟨fun z => b30 i ?_ (by omega), fun z => ih (i + 1) (by omega) _ rfl ?_⟩
      · rw [if_neg z] at hsk; exact hsk.symm
      · rw [if_pos z] at hsk; exact hsk
  exact key (n - a) a (by omega) _ (by rw [ex]; exact e2) rfl
