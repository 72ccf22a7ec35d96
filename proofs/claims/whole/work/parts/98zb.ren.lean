/-! THE READER: the new realm under the old places -/
theorem RC.cg {R R' : Nat → Nat → Int} (h : RC R) (he : ∀ r, 1 ≤ r → r < 19 → ∀ i, R' r i = R r i) : RC R' := by
  unfold RC RW hasG at h ⊢
  simp only [he 1 (by omega) (by omega), he 2 (by omega) (by omega), he 3 (by omega) (by omega), he 4 (by omega) (by omega), he 5 (by omega) (by omega), he 6 (by omega) (by omega), he 7 (by omega) (by omega), he 8 (by omega) (by omega), he 9 (by omega) (by omega), he 10 (by omega) (by omega), he 11 (by omega) (by omega), he 12 (by omega) (by omega), he 13 (by omega) (by omega), he 14 (by omega) (by omega), he 15 (by omega) (by omega), he 16 (by omega) (by omega), he 17 (by omega) (by omega), he 18 (by omega) (by omega)]
  exact h
theorem RM.cg {R R' : Nat → Nat → Int} {iv iv' : IV} (h : RM R iv) (eR : ∀ r, 1 ≤ r → r < 19 → ∀ i, R' r i = R r i) (he : ∀ k j, 80 ≤ k → k ≤ 106 → iv' k j = iv k j) : RM R' iv' := by
  unfold RM hasG at h ⊢
  simp only [eR 1 (by omega) (by omega), eR 2 (by omega) (by omega), eR 3 (by omega) (by omega), eR 4 (by omega) (by omega), eR 5 (by omega) (by omega), eR 6 (by omega) (by omega), eR 7 (by omega) (by omega), eR 8 (by omega) (by omega), eR 9 (by omega) (by omega), eR 10 (by omega) (by omega), eR 11 (by omega) (by omega), eR 12 (by omega) (by omega), eR 13 (by omega) (by omega), eR 14 (by omega) (by omega), eR 15 (by omega) (by omega), eR 16 (by omega) (by omega), eR 17 (by omega) (by omega), eR 18 (by omega) (by omega)]
  have b : ∀ k, 80 ≤ k → k ≤ 106 → iv' k = iv k := fun k hk hk2 => funext fun j => he k j hk hk2
  rw [b 80 (by omega) (by omega), b 81 (by omega) (by omega), b 82 (by omega) (by omega), b 83 (by omega) (by omega), b 84 (by omega) (by omega), b 85 (by omega) (by omega), b 86 (by omega) (by omega), b 87 (by omega) (by omega), b 88 (by omega) (by omega), b 89 (by omega) (by omega), b 90 (by omega) (by omega), b 91 (by omega) (by omega), b 92 (by omega) (by omega), b 93 (by omega) (by omega), b 94 (by omega) (by omega), b 95 (by omega) (by omega), b 96 (by omega) (by omega), b 97 (by omega) (by omega), b 98 (by omega) (by omega), b 99 (by omega) (by omega)]
  refine ⟨h.1, h.2.1, h.2.2.1, h.2.2.2.1, h.2.2.2.2.1, h.2.2.2.2.2.1, h.2.2.2.2.2.2.1, fun i hi f hf => ?_⟩
  rw [b (100 + f) (by omega) (by omega)]
  exact h.2.2.2.2.2.2.2 i hi f hf
theorem Sc.cg {iv iv' : IV} (h3 : Sc iv) (he : ∀ k j, k < 80 → iv' k j = iv k j) : Sc iv' := by
  unfold Sc at h3 ⊢
  rw [he 0 1 (by omega), he 66 6 (by omega), he 66 1 (by omega), he 0 7 (by omega), he 66 12 (by omega), he 40 6 (by omega), he 66 2 (by omega), he 40 7 (by omega), he 63 2 (by omega), he 66 27 (by omega), he 63 3 (by omega), he 66 29 (by omega), he 66 28 (by omega), he 63 4 (by omega)]
  rw [show iv' 67 = iv 67 from funext fun j => he 67 j (by omega), show iv' 1 = iv 1 from funext fun j => he 1 j (by omega), show iv' 73 = iv 73 from funext fun j => he 73 j (by omega), show iv' 64 = iv 64 from funext fun j => he 64 j (by omega), show iv' 74 = iv 74 from funext fun j => he 74 j (by omega), show iv' 65 = iv 65 from funext fun j => he 65 j (by omega)]
  exact h3
/-- where the place k of the new picture lies in the old -/
def tau (B k : Nat) : Nat := if 80 ≤ k ∧ k < 110 then k + (B - 80) else k
def sg (B k : Nat) : Nat := if 2000 ≤ k then k - 2000 else tau B k
def ro (n1 B q : Nat) : Nat := if q < 80 then q else if B ≤ q ∧ q < B + (n1 - 80) then q - (B - 80) else if 1000 ≤ q ∧ q < 2000 then q else 2000 + q
theorem sh_new : ∀ i, i < 30 → sh (110 + i) = sh (80 + i) := by decide
theorem sh_tau {B k : Nat} (hB : B = 80 ∨ B = 110) : sh (tau B k) = sh k := by
  unfold tau
  by_cases z : 80 ≤ k ∧ k < 110
  · rw [if_pos z]
    rcases hB with y | y
    · subst y; rfl
    · subst y
      have := sh_new (k - 80) (by omega)
      rw [show 110 + (k - 80) = k + (110 - 80) by omega, show 80 + (k - 80) = k by omega] at this
      exact this
  · rw [if_neg z]
theorem tau_lt {B k : Nat} (h : k < 80) : tau B k = k := if_neg (by omega)
theorem ro_lt {n1 B q : Nat} (h : q < 80) : ro n1 B q = q := if_pos h
theorem ro_ok {n1 B q : Nat} (hc : (n1 = 80 ∧ B = 80) ∨ (n1 = 110 ∧ B = 80) ∨ (n1 = 110 ∧ B = 110)) : (ro n1 B q < n1 ∨ 1000 ≤ ro n1 B q) ∧ ((1000 ≤ q ∧ q < 2000) → ro n1 B q = q) ∧ (¬ (1000 ≤ q ∧ q < 2000) → ¬ (1000 ≤ ro n1 B q ∧ ro n1 B q < 2000) ∧ sg B (ro n1 B q) = q) := by
  unfold ro
  by_cases z1 : q < 80
  · rw [if_pos z1]
    refine ⟨by omega, fun _ => rfl, fun _ => ⟨by omega, ?_⟩⟩
    unfold sg; rw [if_neg (by omega), tau_lt z1]
  · rw [if_neg z1]
    by_cases z2 : B ≤ q ∧ q < B + (n1 - 80)
    · rw [if_pos z2]
      refine ⟨by omega, fun y => by omega, fun _ => ⟨by omega, ?_⟩⟩
      unfold sg tau; rw [if_neg (by omega), if_pos (by omega)]; omega
    · rw [if_neg z2]
      by_cases z3 : 1000 ≤ q ∧ q < 2000
      · rw [if_pos z3]
        exact ⟨by omega, fun _ => rfl, fun y => absurd z3 y⟩
      · rw [if_neg z3]
        refine ⟨by omega, fun y => absurd y z3, fun _ => ⟨by omega, ?_⟩⟩
        unfold sg; rw [if_pos (by omega)]; omega
theorem ro_m {n1 B q b : Nat} (hc : (n1 = 80 ∧ B = 80) ∨ (n1 = 110 ∧ B = 80) ∨ (n1 = 110 ∧ B = 110)) (e : ro n1 B q = b) (hm : b = 80 ∨ b = 110) : b + 30 ≤ n1 := by
  unfold ro at e
  by_cases z1 : q < 80
  · rw [if_pos z1] at e; omega
  · rw [if_neg z1] at e
    by_cases z2 : B ≤ q ∧ q < B + (n1 - 80)
    · rw [if_pos z2] at e; omega
    · rw [if_neg z2] at e
      by_cases z3 : 1000 ≤ q ∧ q < 2000
      · rw [if_pos z3] at e; omega
      · rw [if_neg z3] at e; omega
theorem ren_inv {n1 n2 B : Nat} {iv : IV} {rv : RV} (hc : (n1 = 80 ∧ B = 80) ∨ (n1 = 110 ∧ B = 80) ∨ (n1 = 110 ∧ B = 110)) (hb : B + (n1 - 80) ≤ n2) (L : Lk n2 rv) (hS : Sc iv) (h4 : (rv 0 2 = some 2 ∧ rv 0 3 = some 21) ∨ (rv 0 2 = some 21 ∧ rv 0 3 = some 2)) (h5 : RC (Rw iv (gR rv 0 2)))
    (h6 : n1 = 80 → rv 66 3 = none ∧ ∀ s, s < 12 → iv (gR rv 0 2 + 1) s = 0) (h7 : n1 = 110 → rv 66 3 = some B ∧ RM (Rw iv (gR rv 0 2)) (sft B iv)) : RenInv Inv n2 iv rv := by
  have hB : B = 80 ∨ B = 110 := by omega
  have hn2 : 80 ≤ n2 := L.1
  have hst : ∀ k, k < n1 → sg B k = tau B k := fun k hk => if_neg (by omega)
  refine ⟨n1, sg B, ro n1 B, fun k j => iv (tau B k) j, fun k j => (rv (tau B k) j).map (ro n1 B), ⟨by omega, fun k hk => ⟨?_, by rw [hst k hk]; exact sh_tau hB⟩, fun a c ha hc' e => ?_, fun k j hk => by rw [hst k hk], fun ok k j => ?_, fun k j hk => by rw [hst k hk], fun k j q hk e => ro_ok hc⟩, fun k hk => ⟨by omega, by rw [hst k (by omega), tau_lt hk]⟩, ?_⟩
  · rw [hst k hk]
    unfold tau
    by_cases z : 80 ≤ k ∧ k < 110
    · rw [if_pos z]; omega
    · rw [if_neg z]; omega
  · rw [hst a ha, hst c hc'] at e
    unfold tau at e
    by_cases z : 80 ≤ a ∧ a < 110
    · rw [if_pos z] at e
      by_cases y : 80 ≤ c ∧ c < 110
      · rw [if_pos y] at e; omega
      · rw [if_neg y] at e; omega
    · rw [if_neg z] at e
      by_cases y : 80 ≤ c ∧ c < 110
      · rw [if_pos y] at e; omega
      · rw [if_neg y] at e; omega
  · have := ok (tau B k) j
    have e : isL (tau B k) j = isL k j := by unfold isL; rw [sh_tau hB]
    rw [e] at this
    exact this
  · have er : ∀ k j, k < 80 → (rv (tau B k) j).map (ro n1 B) = (rv k j).map (ro n1 B) := fun k j hk => by rw [tau_lt hk]
    have es : ∀ k j q, k < 80 → q < 80 → rv k j = some q → (rv (tau B k) j).map (ro n1 B) = some q := fun k j q hk hq e => by rw [er k j hk, e]; show some (ro n1 B q) = some q; rw [ro_lt hq]
    have h5r : ∀ k j, k < 80 → hR5 rv k j → hR5 (fun k j => (rv (tau B k) j).map (ro n1 B)) k j := fun k j hk h => by
      have e := es k j _ hk (by rcases h.2 with y | y <;> omega) h.1
      have e2 : gR (fun k j => (rv (tau B k) j).map (ro n1 B)) k j = gR rv k j := gR_of e
      exact ⟨by rw [e2]; exact e, by rw [e2]; exact h.2⟩
    have g02 : gR (fun k j => (rv (tau B k) j).map (ro n1 B)) 0 2 = gR rv 0 2 := by
      rcases h4 with y | y
      · rw [gR_of y.1]; exact gR_of (es 0 2 2 (by omega) (by omega) y.1)
      · rw [gR_of y.1]; exact gR_of (es 0 2 21 (by omega) (by omega) y.1)
    have g2 : gR rv 0 2 = 2 ∨ gR rv 0 2 = 21 := by
      rcases h4 with y | y
      · exact Or.inl (gR_of y.1)
      · exact Or.inr (gR_of y.1)
    have ei : ∀ k j, k < 80 → (fun k j => iv (tau B k) j) k j = iv k j := fun k j hk => by show iv (tau B k) j = iv k j; rw [tau_lt hk]
    have hLl : ∀ q ∈ lnkL, q.1 < 80 ∧ q.2.2 < 80 := by decide
    have hAl : ∀ q ∈ lnkA, q.1 = 80 ∧ 81 ≤ q.2.2 ∧ q.2.2 < 110 := by decide
    have hAB : ∀ q ∈ lnkA, (q.1 + 30, q.2.1, q.2.2 + 30) ∈ lnkB := by decide
    refine ⟨⟨by omega, by omega, fun q hq => es _ _ _ (hLl q hq).1 (hLl q hq).2 (L.2.2.1 q hq), fun hn q hq => ?_, fun hn => by omega, ⟨h5r _ _ (by omega) L.2.2.2.2.2.1.1, h5r _ _ (by omega) L.2.2.2.2.2.1.2.1, h5r _ _ (by omega) L.2.2.2.2.2.1.2.2.1, h5r _ _ (by omega) L.2.2.2.2.2.1.2.2.2.1, h5r _ _ (by omega) L.2.2.2.2.2.1.2.2.2.2⟩, fun b hb hm => ?_, fun b hb hm => ?_⟩, by omega, hS.cg ei, ?_, ?_, fun hn => ⟨?_, fun s hs => ?_⟩, fun hn => ⟨?_, ?_⟩⟩
    · obtain ⟨a1, a2, a3⟩ := hAl q hq
      have e : rv (tau B q.1) q.2.1 = some (q.2.2 + (B - 80)) := by
        have et : tau B q.1 = q.1 + (B - 80) := if_pos (by omega)
        rw [et]
        rcases hB with y | y
        · subst y
          exact L.2.2.2.1 (by omega) q hq
        · subst y
          exact L.2.2.2.2.1 (by omega) _ (hAB q hq)
      show (rv (tau B q.1) q.2.1).map (ro n1 B) = some q.2.2
      rw [e]
      show some (ro n1 B (q.2.2 + (B - 80))) = some q.2.2
      have : ro n1 B (q.2.2 + (B - 80)) = q.2.2 := by
        unfold ro; rw [if_neg (by omega), if_pos (by omega)]; omega
      rw [this]
    · have hb' : (rv (tau B 66) 3).map (ro n1 B) = some b := hb
      rw [er 66 3 (by omega)] at hb'
      cases hq : rv 66 3 with
      | none => rw [hq] at hb'; cases hb'
      | some q => rw [hq] at hb'; exact ro_m hc (Option.some.inj hb') hm
    · have hb' : (rv (tau B 66) 4).map (ro n1 B) = some b := hb
      rw [er 66 4 (by omega)] at hb'
      cases hq : rv 66 4 with
      | none => rw [hq] at hb'; cases hb'
      | some q => rw [hq] at hb'; exact ro_m hc (Option.some.inj hb') hm
    · rcases h4 with y | y
      · exact Or.inl ⟨es _ _ _ (by omega) (by omega) y.1, es _ _ _ (by omega) (by omega) y.2⟩
      · exact Or.inr ⟨es _ _ _ (by omega) (by omega) y.1, es _ _ _ (by omega) (by omega) y.2⟩
    · rw [g02]
      exact h5.cg fun r _ hr i => ei _ _ (by omega)
    · show (rv (tau B 66) 3).map (ro n1 B) = none
      rw [er 66 3 (by omega), (h6 hn).1]; rfl
    · rw [g02]
      exact (ei _ _ (by omega)).trans ((h6 hn).2 s hs)
    · show (rv (tau B 66) 3).map (ro n1 B) = some 80
      rw [er 66 3 (by omega), (h7 hn).1]
      show some (ro n1 B B) = some 80
      have : ro n1 B B = 80 := by unfold ro; rw [if_neg (by omega), if_pos (by omega)]; omega
      rw [this]
    · rw [g02]
      refine (h7 hn).2.cg (fun r _ hr i => ei _ _ (by omega)) (fun k j hk hk2 => ?_)
      show iv (tau B k) j = iv (B + (k - 80)) j
      have : tau B k = B + (k - 80) := by unfold tau; rw [if_pos (by omega)]; omega
      rw [this]
theorem inv_ren {n : Nat} {iv : IV} {rv : RV} (I : Inv n iv rv) : RenInv Inv n iv rv := by
  obtain ⟨L, hn, hS, h4, h5, h6, h7⟩ := I
  refine ren_inv (n1 := n) (B := 80) (by omega) (by omega) L hS h4 h5 h6 (fun y => ⟨(h7 y).1, (h7 y).2.cg (fun _ _ _ _ => rfl) (fun k j hk _ => ?_)⟩)
  show iv (80 + (k - 80)) j = iv k j
  rw [show 80 + (k - 80) = k by omega]
