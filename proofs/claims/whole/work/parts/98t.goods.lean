/-! THE READER: behind a line the ranges stand -/
theorem hasG_eq {R R' : IV} (e5 : R' 1 5 = R 1 5) (e6 : R' 1 6 = R 1 6) (e7 : R' 1 7 = R 1 7) (g : Nat) : hasG R' g ↔ hasG R g := by
  unfold hasG; rw [e5, e6, e7]
theorem bmp {R : IV} {r : Nat} {x : Int} (hx : 0 ≤ x ∧ x < 100) (e : R 1 r = x) : w2 R 1 r (w32 (R 1 r + 1)) 1 r = x + 1 := by
  rw [w2_eq, e, w32_id (by omega) (by omega)]
theorem g_name {m a r : Nat} {cd : Int} {c so nu : F1} {R : IV} (hr : r = 0 ∨ r = 1) (N : NI m so nu R) (W : RW R) (room : R 1 r < roomL.getD r 0) (x : Nat) (hx : R 1 r = (x : Nat)) : GoodV (bump r (a, m + 1, up1 c m cd, up1 so m (r : Nat), up1 nu m (x : Nat), R)) := by
  have cp := N.cap
  have b1 : w2 R 1 r (w32 (R 1 r + 1)) 1 r = R 1 r + 1 := bmp (by rcases hr with z | z <;> subst z <;> omega) rfl
  have b2 : ∀ k j, ¬ (k = 1 ∧ j = r) → w2 R 1 r (w32 (R 1 r + 1)) k j = R k j := fun k j q => w2_ne q
  show NI (m + 1) _ _ (w2 R 1 r (w32 (R 1 r + 1))) ∧ RW (w2 R 1 r (w32 (R 1 r + 1)))
  generalize w2 R 1 r (w32 (R 1 r + 1)) = R' at *
  refine ⟨NI.add N (by omega) (by omega) room b1 (fun s _ q => b2 _ _ (by omega)), ?_⟩
  have hg := hasG_eq (b2 1 5 (by omega)) (b2 1 6 (by omega)) (b2 1 7 (by omega))
  refine RW.grow W ?_ (by rw [b2 1 2 (by omega)]; exact Int.le_refl _) (by rw [b2 1 4 (by omega)]; exact Int.le_refl _) (fun i hi => Or.inl ⟨by rw [← b2 1 2 (by omega)]; exact hi, b2 _ _ (by omega), b2 _ _ (by omega)⟩) (fun i hi => Or.inl ⟨by rw [← b2 1 3 (by omega), ← b2 1 4 (by omega)]; exact hi, b2 _ _ (by omega), b2 _ _ (by omega), b2 _ _ (by omega), b2 _ _ (by omega)⟩) (fun g q => Or.inl ⟨(hg g).mp q, b2 _ _ (by omega), b2 _ _ (by omega), b2 _ _ (by omega), b2 _ _ (by omega), b2 _ _ (by omega)⟩) (fun g _ q => ⟨fun y => q ((hg g).mpr y), b2 _ _ (by omega), b2 _ _ (by omega), b2 _ _ (by omega)⟩) (fun i hi => Or.inl ⟨by rw [← b2 1 8 (by omega)]; exact hi, b2 _ _ (by omega), b2 _ _ (by omega), b2 _ _ (by omega)⟩) (fun i hi => Or.inl ⟨by rw [← b2 1 11 (by omega)]; exact hi, fun f _ => b2 _ _ (by omega)⟩)
  rcases hr with z | z <;> subst z
  · omega
  · rw [b2 1 0 (by omega)]; exact Int.le_refl _
