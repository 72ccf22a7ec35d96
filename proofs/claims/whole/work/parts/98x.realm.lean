/-! THE READER: behind each line the reference's realm stands beside the class's -/
/-- the reference's realm at B, as if at 80 -/
def sft (B : Nat) (iv : IV) : IV := fun k j => iv (B + (k - 80)) j
def MH (B : Nat) (R iv : IV) : Prop := RM R (sft B iv) ∧ ∀ g, 12 ≤ g → g < 16 → iv (B + 9) g = 0
theorem n_place {x : Nat} {R R' S S' : IV} (M : RM R S) (W : RW R) (cp : R 1 5 ≤ 6 ∧ R 1 6 ≤ 6 ∧ R 1 7 ≤ 4 ∧ 0 ≤ R 1 4) (room : 0 ≤ R 1 0 ∧ R 1 0 < roomL.getD 0 0) (hx : R 1 0 = (x : Nat))  (e : R' 1 0 = R 1 0 + 1) (e' : S' 80 0 = R 1 0 + 1) (o : ∀ k j, ¬ ((k = 1 ∧ j = 0)) → R' k j = R k j) (uo : ∀ k j, 80 ≤ k ∧ k ≤ 106 ∧ ¬ (k = 80 ∧ j = 12) ∧ ¬ ((k = 80 ∧ j = 0)) → S' k j = S k j)  : RM R' S' := by
  replace room : 0 ≤ R 1 0 ∧ R 1 0 < 8 := room
  obtain ⟨M1, ⟨M2a, M2b⟩, M3, M4, M5, M6, M7, M8⟩ := M
  have q1 := o 1 1 (by omega)
  have q2 := o 1 2 (by omega)
  have q3 := o 1 3 (by omega)
  have q4 := o 1 4 (by omega)
  have q5 := o 1 5 (by omega)
  have q6 := o 1 6 (by omega)
  have q7 := o 1 7 (by omega)
  have q8 := o 1 8 (by omega)
  have q9 := o 1 9 (by omega)
  have q10 := o 1 10 (by omega)
  have q11 := o 1 11 (by omega)
  have hgq := hasG_eq q5 q6 q7
  refine ⟨fun s hs => ?_, ⟨?_, fun g hg ng => ?_⟩, fun i hi => ?_, fun i hi => ?_, fun g hg => ?_, fun i hi => ?_, fun i hi => ?_, fun i hi f hf => ?_⟩
  · by_cases z : s = 0
    · subst z; rw [e', e]
    · rw [uo 80 s (by omega), o 1 s (by omega)]; exact M1 s hs
  · rw [uo 80 13 (by omega)]; omega
  · rw [uo 90 _ (by omega), uo 91 _ (by omega), uo 92 _ (by omega)]; exact M2b g hg (fun y => ng ((hgq g).mpr y))
  · rw [uo 81 _ (by omega), o 2 _ (by omega), uo 82 _ (by omega), o 3 _ (by omega)]; exact M3 i (by omega)
  · rw [uo 83 _ (by omega), o 4 _ (by omega), uo 84 _ (by omega), o 5 _ (by omega), uo 85 _ (by omega), o 6 _ (by omega), uo 86 _ (by omega), o 7 _ (by omega)]; exact M4 i (by omega)
  · rw [uo 87 _ (by omega), o 11 _ (by omega), uo 88 _ (by omega), o 12 _ (by omega), uo 89 _ (by omega), o 13 _ (by omega), uo 90 _ (by omega), o 8 _ (by omega), uo 91 _ (by omega), o 9 _ (by omega), uo 92 _ (by omega), o 10 _ (by omega)]; exact M5 g ((hgq g).mp hg)
  · rw [uo 93 _ (by omega), o 14 _ (by omega), uo 94 _ (by omega), o 15 _ (by omega), uo 95 _ (by omega), o 16 _ (by omega)]; exact M6 i (by omega)
  · rw [uo 96 _ (by omega), uo 97 _ (by omega), uo 98 _ (by omega), uo 99 _ (by omega), o 17 _ (by omega)]; exact M7 i (by omega)
  · rw [uo (100 + f) _ (by omega), o 18 _ (by omega)]; exact M8 i (by omega) f hf
theorem n_goods {x : Nat} {R R' S S' : IV} (M : RM R S) (W : RW R) (cp : R 1 5 ≤ 6 ∧ R 1 6 ≤ 6 ∧ R 1 7 ≤ 4 ∧ 0 ≤ R 1 4) (room : 0 ≤ R 1 1 ∧ R 1 1 < roomL.getD 1 0) (hx : R 1 1 = (x : Nat))  (e : R' 1 1 = R 1 1 + 1) (e' : S' 80 1 = R 1 1 + 1) (o : ∀ k j, ¬ ((k = 1 ∧ j = 1)) → R' k j = R k j) (uo : ∀ k j, 80 ≤ k ∧ k ≤ 106 ∧ ¬ (k = 80 ∧ j = 12) ∧ ¬ ((k = 80 ∧ j = 1)) → S' k j = S k j)  : RM R' S' := by
  replace room : 0 ≤ R 1 1 ∧ R 1 1 < 4 := room
  obtain ⟨M1, ⟨M2a, M2b⟩, M3, M4, M5, M6, M7, M8⟩ := M
  have q0 := o 1 0 (by omega)
  have q2 := o 1 2 (by omega)
  have q3 := o 1 3 (by omega)
  have q4 := o 1 4 (by omega)
  have q5 := o 1 5 (by omega)
  have q6 := o 1 6 (by omega)
  have q7 := o 1 7 (by omega)
  have q8 := o 1 8 (by omega)
  have q9 := o 1 9 (by omega)
  have q10 := o 1 10 (by omega)
  have q11 := o 1 11 (by omega)
  have hgq := hasG_eq q5 q6 q7
  refine ⟨fun s hs => ?_, ⟨?_, fun g hg ng => ?_⟩, fun i hi => ?_, fun i hi => ?_, fun g hg => ?_, fun i hi => ?_, fun i hi => ?_, fun i hi f hf => ?_⟩
  · by_cases z : s = 1
    · subst z; rw [e', e]
    · rw [uo 80 s (by omega), o 1 s (by omega)]; exact M1 s hs
  · rw [uo 80 13 (by omega)]; omega
  · rw [uo 90 _ (by omega), uo 91 _ (by omega), uo 92 _ (by omega)]; exact M2b g hg (fun y => ng ((hgq g).mpr y))
  · rw [uo 81 _ (by omega), o 2 _ (by omega), uo 82 _ (by omega), o 3 _ (by omega)]; exact M3 i (by omega)
  · rw [uo 83 _ (by omega), o 4 _ (by omega), uo 84 _ (by omega), o 5 _ (by omega), uo 85 _ (by omega), o 6 _ (by omega), uo 86 _ (by omega), o 7 _ (by omega)]; exact M4 i (by omega)
  · rw [uo 87 _ (by omega), o 11 _ (by omega), uo 88 _ (by omega), o 12 _ (by omega), uo 89 _ (by omega), o 13 _ (by omega), uo 90 _ (by omega), o 8 _ (by omega), uo 91 _ (by omega), o 9 _ (by omega), uo 92 _ (by omega), o 10 _ (by omega)]; exact M5 g ((hgq g).mp hg)
  · rw [uo 93 _ (by omega), o 14 _ (by omega), uo 94 _ (by omega), o 15 _ (by omega), uo 95 _ (by omega), o 16 _ (by omega)]; exact M6 i (by omega)
  · rw [uo 96 _ (by omega), uo 97 _ (by omega), uo 98 _ (by omega), uo 99 _ (by omega), o 17 _ (by omega)]; exact M7 i (by omega)
  · rw [uo (100 + f) _ (by omega), o 18 _ (by omega)]; exact M8 i (by omega) f hf
theorem n_man {x : Nat} {v2 v3 : Int} {R R' S S' : IV} (M : RM R S) (W : RW R) (cp : R 1 5 ≤ 6 ∧ R 1 6 ≤ 6 ∧ R 1 7 ≤ 4 ∧ 0 ≤ R 1 4) (room : 0 ≤ R 1 2 ∧ R 1 2 < roomL.getD 2 0) (hx : R 1 2 = (x : Nat))  (e : R' 1 2 = R 1 2 + 1) (e' : S' 80 2 = R 1 2 + 1) (o : ∀ k j, ¬ ((k = 1 ∧ j = 2) ∨ (k = 2 ∧ j = x) ∨ (k = 3 ∧ j = x)) → R' k j = R k j) (uo : ∀ k j, 80 ≤ k ∧ k ≤ 106 ∧ ¬ (k = 80 ∧ j = 12) ∧ ¬ ((k = 80 ∧ j = 2) ∨ (k = 81 ∧ j = x) ∨ (k = 82 ∧ j = x)) → S' k j = S k j) (n2 : R' 2 x = v2) (u81 : S' 81 x = v2) (n3 : R' 3 x = v3) (u82 : S' 82 x = v3) : RM R' S' := by
  replace room : 0 ≤ R 1 2 ∧ R 1 2 < 6 := room
  obtain ⟨M1, ⟨M2a, M2b⟩, M3, M4, M5, M6, M7, M8⟩ := M
  have q0 := o 1 0 (by omega)
  have q1 := o 1 1 (by omega)
  have q3 := o 1 3 (by omega)
  have q4 := o 1 4 (by omega)
  have q5 := o 1 5 (by omega)
  have q6 := o 1 6 (by omega)
  have q7 := o 1 7 (by omega)
  have q8 := o 1 8 (by omega)
  have q9 := o 1 9 (by omega)
  have q10 := o 1 10 (by omega)
  have q11 := o 1 11 (by omega)
  have hgq := hasG_eq q5 q6 q7
  refine ⟨fun s hs => ?_, ⟨?_, fun g hg ng => ?_⟩, fun i hi => ?_, fun i hi => ?_, fun g hg => ?_, fun i hi => ?_, fun i hi => ?_, fun i hi f hf => ?_⟩
  · by_cases z : s = 2
    · subst z; rw [e', e]
    · rw [uo 80 s (by omega), o 1 s (by omega)]; exact M1 s hs
  · rw [uo 80 13 (by omega)]; omega
  · rw [uo 90 _ (by omega), uo 91 _ (by omega), uo 92 _ (by omega)]; exact M2b g hg (fun y => ng ((hgq g).mpr y))
  · by_cases z : i = x
    · subst z; exact ⟨u81.trans n2.symm, u82.trans n3.symm⟩
    · rw [uo 81 _ (by omega), o 2 _ (by omega), uo 82 _ (by omega), o 3 _ (by omega)]; exact M3 i (by omega)
  · rw [uo 83 _ (by omega), o 4 _ (by omega), uo 84 _ (by omega), o 5 _ (by omega), uo 85 _ (by omega), o 6 _ (by omega), uo 86 _ (by omega), o 7 _ (by omega)]; exact M4 i (by omega)
  · rw [uo 87 _ (by omega), o 11 _ (by omega), uo 88 _ (by omega), o 12 _ (by omega), uo 89 _ (by omega), o 13 _ (by omega), uo 90 _ (by omega), o 8 _ (by omega), uo 91 _ (by omega), o 9 _ (by omega), uo 92 _ (by omega), o 10 _ (by omega)]; exact M5 g ((hgq g).mp hg)
  · rw [uo 93 _ (by omega), o 14 _ (by omega), uo 94 _ (by omega), o 15 _ (by omega), uo 95 _ (by omega), o 16 _ (by omega)]; exact M6 i (by omega)
  · rw [uo 96 _ (by omega), uo 97 _ (by omega), uo 98 _ (by omega), uo 99 _ (by omega), o 17 _ (by omega)]; exact M7 i (by omega)
  · rw [uo (100 + f) _ (by omega), o 18 _ (by omega)]; exact M8 i (by omega) f hf
theorem n_road {x l : Nat} {v4 v5 v6 v7 : Int} {R R' S S' : IV} (M : RM R S) (W : RW R) (cp : R 1 5 ≤ 6 ∧ R 1 6 ≤ 6 ∧ R 1 7 ≤ 4 ∧ 0 ≤ R 1 4) (room : 0 ≤ R 1 3 ∧ R 1 3 < roomL.getD 3 0) (hx : R 1 3 = (x : Nat)) (hl : R 1 3 + R 1 4 = (l : Nat)) (e13 : S' 80 13 = R 1 3 + R 1 4 + 1) (e : R' 1 3 = R 1 3 + 1) (e' : S' 80 3 = R 1 3 + 1) (o : ∀ k j, ¬ ((k = 1 ∧ j = 3) ∨ (k = 4 ∧ j = l) ∨ (k = 5 ∧ j = l) ∨ (k = 6 ∧ j = l) ∨ (k = 7 ∧ j = l)) → R' k j = R k j) (uo : ∀ k j, 80 ≤ k ∧ k ≤ 106 ∧ ¬ (k = 80 ∧ j = 12) ∧ ¬ ((k = 80 ∧ j = 3) ∨ (k = 80 ∧ j = 13) ∨ (k = 83 ∧ j = l) ∨ (k = 84 ∧ j = l) ∨ (k = 85 ∧ j = l) ∨ (k = 86 ∧ j = l)) → S' k j = S k j) (n4 : R' 4 l = v4) (u83 : S' 83 l = v4) (n5 : R' 5 l = v5) (u84 : S' 84 l = v5) (n6 : R' 6 l = v6) (u85 : S' 85 l = v6) (n7 : R' 7 l = v7) (u86 : S' 86 l = v7) : RM R' S' := by
  replace room : 0 ≤ R 1 3 ∧ R 1 3 < 12 := room
  obtain ⟨M1, ⟨M2a, M2b⟩, M3, M4, M5, M6, M7, M8⟩ := M
  have q0 := o 1 0 (by omega)
  have q1 := o 1 1 (by omega)
  have q2 := o 1 2 (by omega)
  have q4 := o 1 4 (by omega)
  have q5 := o 1 5 (by omega)
  have q6 := o 1 6 (by omega)
  have q7 := o 1 7 (by omega)
  have q8 := o 1 8 (by omega)
  have q9 := o 1 9 (by omega)
  have q10 := o 1 10 (by omega)
  have q11 := o 1 11 (by omega)
  have hgq := hasG_eq q5 q6 q7
  refine ⟨fun s hs => ?_, ⟨?_, fun g hg ng => ?_⟩, fun i hi => ?_, fun i hi => ?_, fun g hg => ?_, fun i hi => ?_, fun i hi => ?_, fun i hi f hf => ?_⟩
  · by_cases z : s = 3
    · subst z; rw [e', e]
    · rw [uo 80 s (by omega), o 1 s (by omega)]; exact M1 s hs
  · rw [e13]; omega
  · rw [uo 90 _ (by omega), uo 91 _ (by omega), uo 92 _ (by omega)]; exact M2b g hg (fun y => ng ((hgq g).mpr y))
  · rw [uo 81 _ (by omega), o 2 _ (by omega), uo 82 _ (by omega), o 3 _ (by omega)]; exact M3 i (by omega)
  · by_cases z : i = l
    · subst z; exact ⟨u83.trans n4.symm, u84.trans n5.symm, u85.trans n6.symm, u86.trans n7.symm⟩
    · rw [uo 83 _ (by omega), o 4 _ (by omega), uo 84 _ (by omega), o 5 _ (by omega), uo 85 _ (by omega), o 6 _ (by omega), uo 86 _ (by omega), o 7 _ (by omega)]; exact M4 i (by omega)
  · rw [uo 87 _ (by omega), o 11 _ (by omega), uo 88 _ (by omega), o 12 _ (by omega), uo 89 _ (by omega), o 13 _ (by omega), uo 90 _ (by omega), o 8 _ (by omega), uo 91 _ (by omega), o 9 _ (by omega), uo 92 _ (by omega), o 10 _ (by omega)]; exact M5 g ((hgq g).mp hg)
  · rw [uo 93 _ (by omega), o 14 _ (by omega), uo 94 _ (by omega), o 15 _ (by omega), uo 95 _ (by omega), o 16 _ (by omega)]; exact M6 i (by omega)
  · rw [uo 96 _ (by omega), uo 97 _ (by omega), uo 98 _ (by omega), uo 99 _ (by omega), o 17 _ (by omega)]; exact M7 i (by omega)
  · rw [uo (100 + f) _ (by omega), o 18 _ (by omega)]; exact M8 i (by omega) f hf
theorem n_bridge {x l : Nat} {v4 v5 v6 v7 : Int} {R R' S S' : IV} (M : RM R S) (W : RW R) (cp : R 1 5 ≤ 6 ∧ R 1 6 ≤ 6 ∧ R 1 7 ≤ 4 ∧ 0 ≤ R 1 4) (room : 0 ≤ R 1 4 ∧ R 1 4 < roomL.getD 4 0) (hx : R 1 4 = (x : Nat)) (hl : R 1 3 + R 1 4 = (l : Nat)) (e13 : S' 80 13 = R 1 3 + R 1 4 + 1) (e : R' 1 4 = R 1 4 + 1) (e' : S' 80 4 = R 1 4 + 1) (o : ∀ k j, ¬ ((k = 1 ∧ j = 4) ∨ (k = 4 ∧ j = l) ∨ (k = 5 ∧ j = l) ∨ (k = 6 ∧ j = l) ∨ (k = 7 ∧ j = l)) → R' k j = R k j) (uo : ∀ k j, 80 ≤ k ∧ k ≤ 106 ∧ ¬ (k = 80 ∧ j = 12) ∧ ¬ ((k = 80 ∧ j = 4) ∨ (k = 80 ∧ j = 13) ∨ (k = 83 ∧ j = l) ∨ (k = 84 ∧ j = l) ∨ (k = 85 ∧ j = l) ∨ (k = 86 ∧ j = l)) → S' k j = S k j) (n4 : R' 4 l = v4) (u83 : S' 83 l = v4) (n5 : R' 5 l = v5) (u84 : S' 84 l = v5) (n6 : R' 6 l = v6) (u85 : S' 85 l = v6) (n7 : R' 7 l = v7) (u86 : S' 86 l = v7) : RM R' S' := by
  replace room : 0 ≤ R 1 4 ∧ R 1 4 < 8 := room
  obtain ⟨M1, ⟨M2a, M2b⟩, M3, M4, M5, M6, M7, M8⟩ := M
  have q0 := o 1 0 (by omega)
  have q1 := o 1 1 (by omega)
  have q2 := o 1 2 (by omega)
  have q3 := o 1 3 (by omega)
  have q5 := o 1 5 (by omega)
  have q6 := o 1 6 (by omega)
  have q7 := o 1 7 (by omega)
  have q8 := o 1 8 (by omega)
  have q9 := o 1 9 (by omega)
  have q10 := o 1 10 (by omega)
  have q11 := o 1 11 (by omega)
  have hgq := hasG_eq q5 q6 q7
  refine ⟨fun s hs => ?_, ⟨?_, fun g hg ng => ?_⟩, fun i hi => ?_, fun i hi => ?_, fun g hg => ?_, fun i hi => ?_, fun i hi => ?_, fun i hi f hf => ?_⟩
  · by_cases z : s = 4
    · subst z; rw [e', e]
    · rw [uo 80 s (by omega), o 1 s (by omega)]; exact M1 s hs
  · rw [e13]; omega
  · rw [uo 90 _ (by omega), uo 91 _ (by omega), uo 92 _ (by omega)]; exact M2b g hg (fun y => ng ((hgq g).mpr y))
  · rw [uo 81 _ (by omega), o 2 _ (by omega), uo 82 _ (by omega), o 3 _ (by omega)]; exact M3 i (by omega)
  · by_cases z : i = l
    · subst z; exact ⟨u83.trans n4.symm, u84.trans n5.symm, u85.trans n6.symm, u86.trans n7.symm⟩
    · rw [uo 83 _ (by omega), o 4 _ (by omega), uo 84 _ (by omega), o 5 _ (by omega), uo 85 _ (by omega), o 6 _ (by omega), uo 86 _ (by omega), o 7 _ (by omega)]; exact M4 i (by omega)
  · rw [uo 87 _ (by omega), o 11 _ (by omega), uo 88 _ (by omega), o 12 _ (by omega), uo 89 _ (by omega), o 13 _ (by omega), uo 90 _ (by omega), o 8 _ (by omega), uo 91 _ (by omega), o 9 _ (by omega), uo 92 _ (by omega), o 10 _ (by omega)]; exact M5 g ((hgq g).mp hg)
  · rw [uo 93 _ (by omega), o 14 _ (by omega), uo 94 _ (by omega), o 15 _ (by omega), uo 95 _ (by omega), o 16 _ (by omega)]; exact M6 i (by omega)
  · rw [uo 96 _ (by omega), uo 97 _ (by omega), uo 98 _ (by omega), uo 99 _ (by omega), o 17 _ (by omega)]; exact M7 i (by omega)
  · rw [uo (100 + f) _ (by omega), o 18 _ (by omega)]; exact M8 i (by omega) f hf
theorem n_take {x : Nat} {v11 v12 v13 v8 v9 : Int} {R R' S S' : IV} (M : RM R S) (W : RW R) (cp : R 1 5 ≤ 6 ∧ R 1 6 ≤ 6 ∧ R 1 7 ≤ 4 ∧ 0 ≤ R 1 4) (room : 0 ≤ R 1 5 ∧ R 1 5 < roomL.getD 5 0) (hx : R 1 5 = (x : Nat))  (e : R' 1 5 = R 1 5 + 1) (e' : S' 80 5 = R 1 5 + 1) (o : ∀ k j, ¬ ((k = 1 ∧ j = 5) ∨ (k = 11 ∧ j = x) ∨ (k = 12 ∧ j = x) ∨ (k = 13 ∧ j = x) ∨ (k = 8 ∧ j = x) ∨ (k = 9 ∧ j = x)) → R' k j = R k j) (uo : ∀ k j, 80 ≤ k ∧ k ≤ 106 ∧ ¬ (k = 80 ∧ j = 12) ∧ ¬ ((k = 80 ∧ j = 5) ∨ (k = 87 ∧ j = x) ∨ (k = 88 ∧ j = x) ∨ (k = 89 ∧ j = x) ∨ (k = 90 ∧ j = x) ∨ (k = 91 ∧ j = x)) → S' k j = S k j) (n11 : R' 11 x = v11) (u87 : S' 87 x = v11) (n12 : R' 12 x = v12) (u88 : S' 88 x = v12) (n13 : R' 13 x = v13) (u89 : S' 89 x = v13) (n8 : R' 8 x = v8) (u90 : S' 90 x = v8) (n9 : R' 9 x = v9) (u91 : S' 91 x = v9) : RM R' S' := by
  replace room : 0 ≤ R 1 5 ∧ R 1 5 < 6 := room
  obtain ⟨M1, ⟨M2a, M2b⟩, M3, M4, M5, M6, M7, M8⟩ := M
  have q0 := o 1 0 (by omega)
  have q1 := o 1 1 (by omega)
  have q2 := o 1 2 (by omega)
  have q3 := o 1 3 (by omega)
  have q4 := o 1 4 (by omega)
  have q6 := o 1 6 (by omega)
  have q7 := o 1 7 (by omega)
  have q8 := o 1 8 (by omega)
  have q9 := o 1 9 (by omega)
  have q10 := o 1 10 (by omega)
  have q11 := o 1 11 (by omega)
  refine ⟨fun s hs => ?_, ⟨?_, fun g hg ng => ?_⟩, fun i hi => ?_, fun i hi => ?_, fun g hg => ?_, fun i hi => ?_, fun i hi => ?_, fun i hi f hf => ?_⟩
  · by_cases z : s = 5
    · subst z; rw [e', e]
    · rw [uo 80 s (by omega), o 1 s (by omega)]; exact M1 s hs
  · rw [uo 80 13 (by omega)]; omega
  · have z : g ≠ x := fun y => ng (by unfold hasG; omega)
    have ng' : ¬ hasG R g := fun y => ng (by unfold hasG at *; omega)
    rw [uo 90 _ (by omega), uo 91 _ (by omega), uo 92 _ (by omega)]; exact M2b g hg ng'
  · rw [uo 81 _ (by omega), o 2 _ (by omega), uo 82 _ (by omega), o 3 _ (by omega)]; exact M3 i (by omega)
  · rw [uo 83 _ (by omega), o 4 _ (by omega), uo 84 _ (by omega), o 5 _ (by omega), uo 85 _ (by omega), o 6 _ (by omega), uo 86 _ (by omega), o 7 _ (by omega)]; exact M4 i (by omega)
  · by_cases z : g = x
    · subst z
      have ng : ¬ hasG R g := fun y => by unfold hasG at y; omega
      have z1 := (M2b _ (by omega) ng).2.2
      have z2 := (W.2.2.2.2.1 _ (by omega) ng).2.2
      rw [uo 92 _ (by omega), o 10 _ (by omega), z1, z2]
      exact ⟨u87.trans n11.symm, u88.trans n12.symm, u89.trans n13.symm, u90.trans n8.symm, u91.trans n9.symm, rfl, by decide, by decide⟩
    · have hg' : hasG R g := by unfold hasG at *; omega
      rw [uo 87 _ (by omega), o 11 _ (by omega), uo 88 _ (by omega), o 12 _ (by omega), uo 89 _ (by omega), o 13 _ (by omega), uo 90 _ (by omega), o 8 _ (by omega), uo 91 _ (by omega), o 9 _ (by omega), uo 92 _ (by omega), o 10 _ (by omega)]; exact M5 g hg'
  · rw [uo 93 _ (by omega), o 14 _ (by omega), uo 94 _ (by omega), o 15 _ (by omega), uo 95 _ (by omega), o 16 _ (by omega)]; exact M6 i (by omega)
  · rw [uo 96 _ (by omega), uo 97 _ (by omega), uo 98 _ (by omega), uo 99 _ (by omega), o 17 _ (by omega)]; exact M7 i (by omega)
  · rw [uo (100 + f) _ (by omega), o 18 _ (by omega)]; exact M8 i (by omega) f hf
theorem n_free {x : Nat} {v11 v12 v13 v8 v9 : Int} {R R' S S' : IV} (M : RM R S) (W : RW R) (cp : R 1 5 ≤ 6 ∧ R 1 6 ≤ 6 ∧ R 1 7 ≤ 4 ∧ 0 ≤ R 1 4) (room : 0 ≤ R 1 6 ∧ R 1 6 < roomL.getD 6 0) (hx : R 1 6 = (x : Nat))  (e : R' 1 6 = R 1 6 + 1) (e' : S' 80 6 = R 1 6 + 1) (o : ∀ k j, ¬ ((k = 1 ∧ j = 6) ∨ (k = 11 ∧ j = (6 + x)) ∨ (k = 12 ∧ j = (6 + x)) ∨ (k = 13 ∧ j = (6 + x)) ∨ (k = 8 ∧ j = (6 + x)) ∨ (k = 9 ∧ j = (6 + x))) → R' k j = R k j) (uo : ∀ k j, 80 ≤ k ∧ k ≤ 106 ∧ ¬ (k = 80 ∧ j = 12) ∧ ¬ ((k = 80 ∧ j = 6) ∨ (k = 87 ∧ j = (6 + x)) ∨ (k = 88 ∧ j = (6 + x)) ∨ (k = 89 ∧ j = (6 + x)) ∨ (k = 90 ∧ j = (6 + x)) ∨ (k = 91 ∧ j = (6 + x))) → S' k j = S k j) (n11 : R' 11 (6 + x) = v11) (u87 : S' 87 (6 + x) = v11) (n12 : R' 12 (6 + x) = v12) (u88 : S' 88 (6 + x) = v12) (n13 : R' 13 (6 + x) = v13) (u89 : S' 89 (6 + x) = v13) (n8 : R' 8 (6 + x) = v8) (u90 : S' 90 (6 + x) = v8) (n9 : R' 9 (6 + x) = v9) (u91 : S' 91 (6 + x) = v9) : RM R' S' := by
  replace room : 0 ≤ R 1 6 ∧ R 1 6 < 6 := room
  obtain ⟨M1, ⟨M2a, M2b⟩, M3, M4, M5, M6, M7, M8⟩ := M
  have q0 := o 1 0 (by omega)
  have q1 := o 1 1 (by omega)
  have q2 := o 1 2 (by omega)
  have q3 := o 1 3 (by omega)
  have q4 := o 1 4 (by omega)
  have q5 := o 1 5 (by omega)
  have q7 := o 1 7 (by omega)
  have q8 := o 1 8 (by omega)
  have q9 := o 1 9 (by omega)
  have q10 := o 1 10 (by omega)
  have q11 := o 1 11 (by omega)
  refine ⟨fun s hs => ?_, ⟨?_, fun g hg ng => ?_⟩, fun i hi => ?_, fun i hi => ?_, fun g hg => ?_, fun i hi => ?_, fun i hi => ?_, fun i hi f hf => ?_⟩
  · by_cases z : s = 6
    · subst z; rw [e', e]
    · rw [uo 80 s (by omega), o 1 s (by omega)]; exact M1 s hs
  · rw [uo 80 13 (by omega)]; omega
  · have z : g ≠ (6 + x) := fun y => ng (by unfold hasG; omega)
    have ng' : ¬ hasG R g := fun y => ng (by unfold hasG at *; omega)
    rw [uo 90 _ (by omega), uo 91 _ (by omega), uo 92 _ (by omega)]; exact M2b g hg ng'
  · rw [uo 81 _ (by omega), o 2 _ (by omega), uo 82 _ (by omega), o 3 _ (by omega)]; exact M3 i (by omega)
  · rw [uo 83 _ (by omega), o 4 _ (by omega), uo 84 _ (by omega), o 5 _ (by omega), uo 85 _ (by omega), o 6 _ (by omega), uo 86 _ (by omega), o 7 _ (by omega)]; exact M4 i (by omega)
  · by_cases z : g = (6 + x)
    · subst z
      have ng : ¬ hasG R (6 + x) := fun y => by unfold hasG at y; omega
      have z1 := (M2b _ (by omega) ng).2.2
      have z2 := (W.2.2.2.2.1 _ (by omega) ng).2.2
      rw [uo 92 _ (by omega), o 10 _ (by omega), z1, z2]
      exact ⟨u87.trans n11.symm, u88.trans n12.symm, u89.trans n13.symm, u90.trans n8.symm, u91.trans n9.symm, rfl, by decide, by decide⟩
    · have hg' : hasG R g := by unfold hasG at *; omega
      rw [uo 87 _ (by omega), o 11 _ (by omega), uo 88 _ (by omega), o 12 _ (by omega), uo 89 _ (by omega), o 13 _ (by omega), uo 90 _ (by omega), o 8 _ (by omega), uo 91 _ (by omega), o 9 _ (by omega), uo 92 _ (by omega), o 10 _ (by omega)]; exact M5 g hg'
  · rw [uo 93 _ (by omega), o 14 _ (by omega), uo 94 _ (by omega), o 15 _ (by omega), uo 95 _ (by omega), o 16 _ (by omega)]; exact M6 i (by omega)
  · rw [uo 96 _ (by omega), uo 97 _ (by omega), uo 98 _ (by omega), uo 99 _ (by omega), o 17 _ (by omega)]; exact M7 i (by omega)
  · rw [uo (100 + f) _ (by omega), o 18 _ (by omega)]; exact M8 i (by omega) f hf
theorem n_as {x : Nat} {v11 v12 v13 v8 v9 : Int} {R R' S S' : IV} (M : RM R S) (W : RW R) (cp : R 1 5 ≤ 6 ∧ R 1 6 ≤ 6 ∧ R 1 7 ≤ 4 ∧ 0 ≤ R 1 4) (room : 0 ≤ R 1 7 ∧ R 1 7 < roomL.getD 7 0) (hx : R 1 7 = (x : Nat))  (e : R' 1 7 = R 1 7 + 1) (e' : S' 80 7 = R 1 7 + 1) (o : ∀ k j, ¬ ((k = 1 ∧ j = 7) ∨ (k = 11 ∧ j = (12 + x)) ∨ (k = 12 ∧ j = (12 + x)) ∨ (k = 13 ∧ j = (12 + x)) ∨ (k = 8 ∧ j = (12 + x)) ∨ (k = 9 ∧ j = (12 + x))) → R' k j = R k j) (uo : ∀ k j, 80 ≤ k ∧ k ≤ 106 ∧ ¬ (k = 80 ∧ j = 12) ∧ ¬ ((k = 80 ∧ j = 7) ∨ (k = 87 ∧ j = (12 + x)) ∨ (k = 88 ∧ j = (12 + x)) ∨ (k = 89 ∧ j = (12 + x)) ∨ (k = 90 ∧ j = (12 + x)) ∨ (k = 91 ∧ j = (12 + x))) → S' k j = S k j) (n11 : R' 11 (12 + x) = v11) (u87 : S' 87 (12 + x) = v11) (n12 : R' 12 (12 + x) = v12) (u88 : S' 88 (12 + x) = v12) (n13 : R' 13 (12 + x) = v13) (u89 : S' 89 (12 + x) = v13) (n8 : R' 8 (12 + x) = v8) (u90 : S' 90 (12 + x) = v8) (n9 : R' 9 (12 + x) = v9) (u91 : S' 91 (12 + x) = v9) : RM R' S' := by
  replace room : 0 ≤ R 1 7 ∧ R 1 7 < 4 := room
  obtain ⟨M1, ⟨M2a, M2b⟩, M3, M4, M5, M6, M7, M8⟩ := M
  have q0 := o 1 0 (by omega)
  have q1 := o 1 1 (by omega)
  have q2 := o 1 2 (by omega)
  have q3 := o 1 3 (by omega)
  have q4 := o 1 4 (by omega)
  have q5 := o 1 5 (by omega)
  have q6 := o 1 6 (by omega)
  have q8 := o 1 8 (by omega)
  have q9 := o 1 9 (by omega)
  have q10 := o 1 10 (by omega)
  have q11 := o 1 11 (by omega)
  refine ⟨fun s hs => ?_, ⟨?_, fun g hg ng => ?_⟩, fun i hi => ?_, fun i hi => ?_, fun g hg => ?_, fun i hi => ?_, fun i hi => ?_, fun i hi f hf => ?_⟩
  · by_cases z : s = 7
    · subst z; rw [e', e]
    · rw [uo 80 s (by omega), o 1 s (by omega)]; exact M1 s hs
  · rw [uo 80 13 (by omega)]; omega
  · have z : g ≠ (12 + x) := fun y => ng (by unfold hasG; omega)
    have ng' : ¬ hasG R g := fun y => ng (by unfold hasG at *; omega)
    rw [uo 90 _ (by omega), uo 91 _ (by omega), uo 92 _ (by omega)]; exact M2b g hg ng'
  · rw [uo 81 _ (by omega), o 2 _ (by omega), uo 82 _ (by omega), o 3 _ (by omega)]; exact M3 i (by omega)
  · rw [uo 83 _ (by omega), o 4 _ (by omega), uo 84 _ (by omega), o 5 _ (by omega), uo 85 _ (by omega), o 6 _ (by omega), uo 86 _ (by omega), o 7 _ (by omega)]; exact M4 i (by omega)
  · by_cases z : g = (12 + x)
    · subst z
      have ng : ¬ hasG R (12 + x) := fun y => by unfold hasG at y; omega
      have z1 := (M2b _ (by omega) ng).2.2
      have z2 := (W.2.2.2.2.1 _ (by omega) ng).2.2
      rw [uo 92 _ (by omega), o 10 _ (by omega), z1, z2]
      exact ⟨u87.trans n11.symm, u88.trans n12.symm, u89.trans n13.symm, u90.trans n8.symm, u91.trans n9.symm, rfl, by decide, by decide⟩
    · have hg' : hasG R g := by unfold hasG at *; omega
      rw [uo 87 _ (by omega), o 11 _ (by omega), uo 88 _ (by omega), o 12 _ (by omega), uo 89 _ (by omega), o 13 _ (by omega), uo 90 _ (by omega), o 8 _ (by omega), uo 91 _ (by omega), o 9 _ (by omega), uo 92 _ (by omega), o 10 _ (by omega)]; exact M5 g hg'
  · rw [uo 93 _ (by omega), o 14 _ (by omega), uo 94 _ (by omega), o 15 _ (by omega), uo 95 _ (by omega), o 16 _ (by omega)]; exact M6 i (by omega)
  · rw [uo 96 _ (by omega), uo 97 _ (by omega), uo 98 _ (by omega), uo 99 _ (by omega), o 17 _ (by omega)]; exact M7 i (by omega)
  · rw [uo (100 + f) _ (by omega), o 18 _ (by omega)]; exact M8 i (by omega) f hf
theorem n_renew {x : Nat} {v14 v15 v16 : Int} {R R' S S' : IV} (M : RM R S) (W : RW R) (cp : R 1 5 ≤ 6 ∧ R 1 6 ≤ 6 ∧ R 1 7 ≤ 4 ∧ 0 ≤ R 1 4) (room : 0 ≤ R 1 8 ∧ R 1 8 < roomL.getD 8 0) (hx : R 1 8 = (x : Nat))  (e : R' 1 8 = R 1 8 + 1) (e' : S' 80 8 = R 1 8 + 1) (o : ∀ k j, ¬ ((k = 1 ∧ j = 8) ∨ (k = 14 ∧ j = x) ∨ (k = 15 ∧ j = x) ∨ (k = 16 ∧ j = x)) → R' k j = R k j) (uo : ∀ k j, 80 ≤ k ∧ k ≤ 106 ∧ ¬ (k = 80 ∧ j = 12) ∧ ¬ ((k = 80 ∧ j = 8) ∨ (k = 93 ∧ j = x) ∨ (k = 94 ∧ j = x) ∨ (k = 95 ∧ j = x)) → S' k j = S k j) (n14 : R' 14 x = v14) (u93 : S' 93 x = v14) (n15 : R' 15 x = v15) (u94 : S' 94 x = v15) (n16 : R' 16 x = v16) (u95 : S' 95 x = v16) : RM R' S' := by
  replace room : 0 ≤ R 1 8 ∧ R 1 8 < 4 := room
  obtain ⟨M1, ⟨M2a, M2b⟩, M3, M4, M5, M6, M7, M8⟩ := M
  have q0 := o 1 0 (by omega)
  have q1 := o 1 1 (by omega)
  have q2 := o 1 2 (by omega)
  have q3 := o 1 3 (by omega)
  have q4 := o 1 4 (by omega)
  have q5 := o 1 5 (by omega)
  have q6 := o 1 6 (by omega)
  have q7 := o 1 7 (by omega)
  have q9 := o 1 9 (by omega)
  have q10 := o 1 10 (by omega)
  have q11 := o 1 11 (by omega)
  have hgq := hasG_eq q5 q6 q7
  refine ⟨fun s hs => ?_, ⟨?_, fun g hg ng => ?_⟩, fun i hi => ?_, fun i hi => ?_, fun g hg => ?_, fun i hi => ?_, fun i hi => ?_, fun i hi f hf => ?_⟩
  · by_cases z : s = 8
    · subst z; rw [e', e]
    · rw [uo 80 s (by omega), o 1 s (by omega)]; exact M1 s hs
  · rw [uo 80 13 (by omega)]; omega
  · rw [uo 90 _ (by omega), uo 91 _ (by omega), uo 92 _ (by omega)]; exact M2b g hg (fun y => ng ((hgq g).mpr y))
  · rw [uo 81 _ (by omega), o 2 _ (by omega), uo 82 _ (by omega), o 3 _ (by omega)]; exact M3 i (by omega)
  · rw [uo 83 _ (by omega), o 4 _ (by omega), uo 84 _ (by omega), o 5 _ (by omega), uo 85 _ (by omega), o 6 _ (by omega), uo 86 _ (by omega), o 7 _ (by omega)]; exact M4 i (by omega)
  · rw [uo 87 _ (by omega), o 11 _ (by omega), uo 88 _ (by omega), o 12 _ (by omega), uo 89 _ (by omega), o 13 _ (by omega), uo 90 _ (by omega), o 8 _ (by omega), uo 91 _ (by omega), o 9 _ (by omega), uo 92 _ (by omega), o 10 _ (by omega)]; exact M5 g ((hgq g).mp hg)
  · by_cases z : i = x
    · subst z; exact ⟨u93.trans n14.symm, u94.trans n15.symm, u95.trans n16.symm⟩
    · rw [uo 93 _ (by omega), o 14 _ (by omega), uo 94 _ (by omega), o 15 _ (by omega), uo 95 _ (by omega), o 16 _ (by omega)]; exact M6 i (by omega)
  · rw [uo 96 _ (by omega), uo 97 _ (by omega), uo 98 _ (by omega), uo 99 _ (by omega), o 17 _ (by omega)]; exact M7 i (by omega)
  · rw [uo (100 + f) _ (by omega), o 18 _ (by omega)]; exact M8 i (by omega) f hf
theorem n_lost {x : Nat} {v10 : Int} {R R' S S' : IV} (M : RM R S) (W : RW R) (cp : R 1 5 ≤ 6 ∧ R 1 6 ≤ 6 ∧ R 1 7 ≤ 4 ∧ 0 ≤ R 1 4) (room : 0 ≤ R 1 9 ∧ R 1 9 < roomL.getD 9 0)   (e : R' 1 9 = R 1 9 + 1) (e' : S' 80 9 = R 1 9 + 1) (o : ∀ k j, ¬ ((k = 1 ∧ j = 9) ∨ (k = 10 ∧ j = x)) → R' k j = R k j) (uo : ∀ k j, 80 ≤ k ∧ k ≤ 106 ∧ ¬ (k = 80 ∧ j = 12) ∧ ¬ ((k = 80 ∧ j = 9) ∨ (k = 92 ∧ j = x)) → S' k j = S k j) (n10 : R' 10 x = v10) (u92 : S' 92 x = v10) (hgx : hasG R x) (hv : v10 = 1 ∨ v10 = 2) : RM R' S' := by
  replace room : 0 ≤ R 1 9 ∧ R 1 9 < 4 := room
  obtain ⟨M1, ⟨M2a, M2b⟩, M3, M4, M5, M6, M7, M8⟩ := M
  have q0 := o 1 0 (by omega)
  have q1 := o 1 1 (by omega)
  have q2 := o 1 2 (by omega)
  have q3 := o 1 3 (by omega)
  have q4 := o 1 4 (by omega)
  have q5 := o 1 5 (by omega)
  have q6 := o 1 6 (by omega)
  have q7 := o 1 7 (by omega)
  have q8 := o 1 8 (by omega)
  have q10 := o 1 10 (by omega)
  have q11 := o 1 11 (by omega)
  have hgq := hasG_eq q5 q6 q7
  refine ⟨fun s hs => ?_, ⟨?_, fun g hg ng => ?_⟩, fun i hi => ?_, fun i hi => ?_, fun g hg => ?_, fun i hi => ?_, fun i hi => ?_, fun i hi f hf => ?_⟩
  · by_cases z : s = 9
    · subst z; rw [e', e]
    · rw [uo 80 s (by omega), o 1 s (by omega)]; exact M1 s hs
  · rw [uo 80 13 (by omega)]; omega
  · have z : g ≠ x := fun y => ng ((hgq g).mpr (by rw [y]; exact hgx))
    rw [uo 90 _ (by omega), uo 91 _ (by omega), uo 92 _ (by omega)]; exact M2b g hg (fun y => ng ((hgq g).mpr y))
  · rw [uo 81 _ (by omega), o 2 _ (by omega), uo 82 _ (by omega), o 3 _ (by omega)]; exact M3 i (by omega)
  · rw [uo 83 _ (by omega), o 4 _ (by omega), uo 84 _ (by omega), o 5 _ (by omega), uo 85 _ (by omega), o 6 _ (by omega), uo 86 _ (by omega), o 7 _ (by omega)]; exact M4 i (by omega)
  · have m5 := M5 g ((hgq g).mp hg)
    by_cases z : g = x
    · subst z
      rw [uo 87 _ (by omega), o 11 _ (by omega), uo 88 _ (by omega), o 12 _ (by omega), uo 89 _ (by omega), o 13 _ (by omega), uo 90 _ (by omega), o 8 _ (by omega), uo 91 _ (by omega), o 9 _ (by omega)]
      rw [u92, n10]
      exact ⟨m5.1, m5.2.1, m5.2.2.1, m5.2.2.2.1, m5.2.2.2.2.1, rfl, by omega, by omega⟩
    · rw [uo 87 _ (by omega), o 11 _ (by omega), uo 88 _ (by omega), o 12 _ (by omega), uo 89 _ (by omega), o 13 _ (by omega), uo 90 _ (by omega), o 8 _ (by omega), uo 91 _ (by omega), o 9 _ (by omega), uo 92 _ (by omega), o 10 _ (by omega)]; exact m5
  · rw [uo 93 _ (by omega), o 14 _ (by omega), uo 94 _ (by omega), o 15 _ (by omega), uo 95 _ (by omega), o 16 _ (by omega)]; exact M6 i (by omega)
  · rw [uo 96 _ (by omega), uo 97 _ (by omega), uo 98 _ (by omega), uo 99 _ (by omega), o 17 _ (by omega)]; exact M7 i (by omega)
  · rw [uo (100 + f) _ (by omega), o 18 _ (by omega)]; exact M8 i (by omega) f hf
theorem n_law {x : Nat} {R R' S S' : IV} (M : RM R S) (W : RW R) (cp : R 1 5 ≤ 6 ∧ R 1 6 ≤ 6 ∧ R 1 7 ≤ 4 ∧ 0 ≤ R 1 4) (room : 0 ≤ R 1 10 ∧ R 1 10 < roomL.getD 10 0) (hx : R 1 10 = (x : Nat))  (e : R' 1 10 = R 1 10 + 1) (e' : S' 80 10 = R 1 10 + 1) (o : ∀ k j, ¬ ((k = 1 ∧ j = 10) ∨ (k = 17 ∧ j = x)) → R' k j = R k j) (uo : ∀ k j, 80 ≤ k ∧ k ≤ 106 ∧ ¬ (k = 80 ∧ j = 12) ∧ ¬ ((k = 80 ∧ j = 10) ∨ (96 ≤ k ∧ k ≤ 99 ∧ j = x)) → S' k j = S k j) (ul : (S' 96 x = 0 ∨ S' 96 x = 1) ∧ (S' 97 x = 0 ∨ S' 97 x = 1) ∧ (S' 98 x = 0 ∨ S' 98 x = 1) ∧ (S' 99 x = 0 ∨ S' 99 x = 1) ∧ R' 17 x = S' 96 x + 2 * S' 97 x + 4 * (1 - S' 98 x) + 8 * (1 - S' 99 x)) : RM R' S' := by
  replace room : 0 ≤ R 1 10 ∧ R 1 10 < 3 := room
  obtain ⟨M1, ⟨M2a, M2b⟩, M3, M4, M5, M6, M7, M8⟩ := M
  have q0 := o 1 0 (by omega)
  have q1 := o 1 1 (by omega)
  have q2 := o 1 2 (by omega)
  have q3 := o 1 3 (by omega)
  have q4 := o 1 4 (by omega)
  have q5 := o 1 5 (by omega)
  have q6 := o 1 6 (by omega)
  have q7 := o 1 7 (by omega)
  have q8 := o 1 8 (by omega)
  have q9 := o 1 9 (by omega)
  have q11 := o 1 11 (by omega)
  have hgq := hasG_eq q5 q6 q7
  refine ⟨fun s hs => ?_, ⟨?_, fun g hg ng => ?_⟩, fun i hi => ?_, fun i hi => ?_, fun g hg => ?_, fun i hi => ?_, fun i hi => ?_, fun i hi f hf => ?_⟩
  · by_cases z : s = 10
    · subst z; rw [e', e]
    · rw [uo 80 s (by omega), o 1 s (by omega)]; exact M1 s hs
  · rw [uo 80 13 (by omega)]; omega
  · rw [uo 90 _ (by omega), uo 91 _ (by omega), uo 92 _ (by omega)]; exact M2b g hg (fun y => ng ((hgq g).mpr y))
  · rw [uo 81 _ (by omega), o 2 _ (by omega), uo 82 _ (by omega), o 3 _ (by omega)]; exact M3 i (by omega)
  · rw [uo 83 _ (by omega), o 4 _ (by omega), uo 84 _ (by omega), o 5 _ (by omega), uo 85 _ (by omega), o 6 _ (by omega), uo 86 _ (by omega), o 7 _ (by omega)]; exact M4 i (by omega)
  · rw [uo 87 _ (by omega), o 11 _ (by omega), uo 88 _ (by omega), o 12 _ (by omega), uo 89 _ (by omega), o 13 _ (by omega), uo 90 _ (by omega), o 8 _ (by omega), uo 91 _ (by omega), o 9 _ (by omega), uo 92 _ (by omega), o 10 _ (by omega)]; exact M5 g ((hgq g).mp hg)
  · rw [uo 93 _ (by omega), o 14 _ (by omega), uo 94 _ (by omega), o 15 _ (by omega), uo 95 _ (by omega), o 16 _ (by omega)]; exact M6 i (by omega)
  · by_cases z : i = x
    · subst z; exact ul
    · rw [uo 96 _ (by omega), uo 97 _ (by omega), uo 98 _ (by omega), uo 99 _ (by omega), o 17 _ (by omega)]; exact M7 i (by omega)
  · rw [uo (100 + f) _ (by omega), o 18 _ (by omega)]; exact M8 i (by omega) f hf
theorem n_cart {x : Nat} {R R' S S' : IV} (M : RM R S) (W : RW R) (cp : R 1 5 ≤ 6 ∧ R 1 6 ≤ 6 ∧ R 1 7 ≤ 4 ∧ 0 ≤ R 1 4) (room : 0 ≤ R 1 11 ∧ R 1 11 < roomL.getD 11 0) (hx : R 1 11 = (x : Nat))  (e : R' 1 11 = R 1 11 + 1) (e' : S' 80 11 = R 1 11 + 1) (o : ∀ k j, ¬ ((k = 1 ∧ j = 11) ∨ (k = 18 ∧ x * 7 ≤ j ∧ j < x * 7 + 7)) → R' k j = R k j) (uo : ∀ k j, 80 ≤ k ∧ k ≤ 106 ∧ ¬ (k = 80 ∧ j = 12) ∧ ¬ ((k = 80 ∧ j = 11) ∨ (100 ≤ k ∧ k ≤ 106 ∧ j = x)) → S' k j = S k j) (uc : ∀ f, f < 7 → S' (100 + f) x = R' 18 (7 * x + f)) : RM R' S' := by
  replace room : 0 ≤ R 1 11 ∧ R 1 11 < 6 := room
  obtain ⟨M1, ⟨M2a, M2b⟩, M3, M4, M5, M6, M7, M8⟩ := M
  have q0 := o 1 0 (by omega)
  have q1 := o 1 1 (by omega)
  have q2 := o 1 2 (by omega)
  have q3 := o 1 3 (by omega)
  have q4 := o 1 4 (by omega)
  have q5 := o 1 5 (by omega)
  have q6 := o 1 6 (by omega)
  have q7 := o 1 7 (by omega)
  have q8 := o 1 8 (by omega)
  have q9 := o 1 9 (by omega)
  have q10 := o 1 10 (by omega)
  have hgq := hasG_eq q5 q6 q7
  refine ⟨fun s hs => ?_, ⟨?_, fun g hg ng => ?_⟩, fun i hi => ?_, fun i hi => ?_, fun g hg => ?_, fun i hi => ?_, fun i hi => ?_, fun i hi f hf => ?_⟩
  · by_cases z : s = 11
    · subst z; rw [e', e]
    · rw [uo 80 s (by omega), o 1 s (by omega)]; exact M1 s hs
  · rw [uo 80 13 (by omega)]; omega
  · rw [uo 90 _ (by omega), uo 91 _ (by omega), uo 92 _ (by omega)]; exact M2b g hg (fun y => ng ((hgq g).mpr y))
  · rw [uo 81 _ (by omega), o 2 _ (by omega), uo 82 _ (by omega), o 3 _ (by omega)]; exact M3 i (by omega)
  · rw [uo 83 _ (by omega), o 4 _ (by omega), uo 84 _ (by omega), o 5 _ (by omega), uo 85 _ (by omega), o 6 _ (by omega), uo 86 _ (by omega), o 7 _ (by omega)]; exact M4 i (by omega)
  · rw [uo 87 _ (by omega), o 11 _ (by omega), uo 88 _ (by omega), o 12 _ (by omega), uo 89 _ (by omega), o 13 _ (by omega), uo 90 _ (by omega), o 8 _ (by omega), uo 91 _ (by omega), o 9 _ (by omega), uo 92 _ (by omega), o 10 _ (by omega)]; exact M5 g ((hgq g).mp hg)
  · rw [uo 93 _ (by omega), o 14 _ (by omega), uo 94 _ (by omega), o 15 _ (by omega), uo 95 _ (by omega), o 16 _ (by omega)]; exact M6 i (by omega)
  · rw [uo 96 _ (by omega), uo 97 _ (by omega), uo 98 _ (by omega), uo 99 _ (by omega), o 17 _ (by omega)]; exact M7 i (by omega)
  · by_cases z : i = x
    · subst z; exact uc f hf
    · rw [uo (100 + f) _ (by omega), o 18 _ (by omega)]; exact M8 i (by omega) f hf
