/-! LINKS that stay, and small helpers of the certificates -/
def lnkL : List (Nat × Nat × Nat) := [(0, 0, 1), (0, 4, 40), (0, 5, 47), (0, 6, 63), (2, 0, 3), (2, 1, 4), (2, 2, 5), (2, 3, 6), (2, 4, 7), (2, 5, 8), (2, 6, 9), (2, 7, 10), (2, 8, 11), (2, 9, 12), (2, 10, 13), (2, 11, 14), (2, 12, 15), (2, 13, 16), (2, 14, 17), (2, 15, 18), (2, 16, 19), (2, 17, 20), (21, 0, 22), (21, 1, 23), (21, 2, 24), (21, 3, 25), (21, 4, 26), (21, 5, 27), (21, 6, 28), (21, 7, 29), (21, 8, 30), (21, 9, 31), (21, 10, 32), (21, 11, 33), (21, 12, 34), (21, 13, 35), (21, 14, 36), (21, 15, 37), (21, 16, 38), (21, 17, 39), (40, 0, 46), (40, 1, 41), (40, 2, 45), (41, 0, 42), (41, 1, 43), (41, 2, 44), (46, 0, 1), (47, 0, 51), (47, 1, 48), (47, 2, 58), (48, 0, 49), (48, 1, 50), (51, 0, 52), (51, 1, 53), (51, 2, 54), (51, 3, 55), (51, 4, 56), (51, 5, 57), (58, 0, 59), (58, 1, 62), (58, 2, 51), (59, 0, 60), (59, 1, 61), (63, 0, 64), (63, 1, 65), (66, 5, 67), (66, 15, 68), (66, 16, 69), (66, 23, 70), (66, 24, 71), (66, 25, 72), (66, 30, 73), (66, 31, 74), (66, 32, 75), (66, 33, 76), (66, 34, 77), (66, 35, 78)]
def lnkA : List (Nat × Nat × Nat) := [(80, 14, 81), (80, 15, 82), (80, 16, 83), (80, 17, 84), (80, 18, 85), (80, 19, 86), (80, 20, 87), (80, 21, 88), (80, 22, 89), (80, 23, 90), (80, 24, 91), (80, 25, 92), (80, 26, 93), (80, 27, 94), (80, 28, 95), (80, 29, 96), (80, 30, 97), (80, 31, 98), (80, 32, 99), (80, 33, 100), (80, 34, 101), (80, 35, 102), (80, 36, 103), (80, 37, 104), (80, 38, 105), (80, 39, 106), (80, 40, 107), (80, 41, 108), (80, 42, 109)]
def lnkB : List (Nat × Nat × Nat) := [(110, 14, 111), (110, 15, 112), (110, 16, 113), (110, 17, 114), (110, 18, 115), (110, 19, 116), (110, 20, 117), (110, 21, 118), (110, 22, 119), (110, 23, 120), (110, 24, 121), (110, 25, 122), (110, 26, 123), (110, 27, 124), (110, 28, 125), (110, 29, 126), (110, 30, 127), (110, 31, 128), (110, 32, 129), (110, 33, 130), (110, 34, 131), (110, 35, 132), (110, 36, 133), (110, 37, 134), (110, 38, 135), (110, 39, 136), (110, 40, 137), (110, 41, 138), (110, 42, 139)]
def isR (b : Nat) : Prop := b = 2 ∨ b = 21
def isM (b : Nat) : Prop := b = 80 ∨ b = 110
def gR (rv : RV) (k j : Nat) : Nat := (rv k j).getD 0
def hR5 (rv : RV) (k j : Nat) : Prop := rv k j = some (gR rv k j) ∧ isR (gR rv k j)
def hMm (rv : RV) (k j : Nat) : Prop := rv k j = some (gR rv k j) ∧ isM (gR rv k j)
/-- the references that stay, and of which kind those are that change -/
def Lk (n : Nat) (rv : RV) : Prop := 80 ≤ n ∧ n ≤ 1000 ∧ (∀ q ∈ lnkL, rv q.1 q.2.1 = some q.2.2) ∧ (110 ≤ n → ∀ q ∈ lnkA, rv q.1 q.2.1 = some q.2.2) ∧ (140 ≤ n → ∀ q ∈ lnkB, rv q.1 q.2.1 = some q.2.2) ∧
  (hR5 rv 0 2 ∧ hR5 rv 0 3 ∧ hR5 rv 40 5 ∧ hR5 rv 47 3 ∧ hR5 rv 51 6) ∧ (∀ b, rv 66 3 = some b → isM b → b + 30 ≤ n) ∧ (∀ b, rv 66 4 = some b → isM b → b + 30 ≤ n)
theorem Lk.n {n : Nat} {rv : RV} (h : Lk n rv) {k : Nat} (hk : k < 80) : k < n := Nat.lt_of_lt_of_le hk h.1
theorem gR_of {rv : RV} {k j b : Nat} (h : rv k j = some b) : gR rv k j = b := by unfold gR; rw [h]; rfl
theorem lt2000 {b c : Nat} (h : b < 2000) : ∀ z, some b = some z → z < 2000 := fun z hz => by cases hz; exact h
theorem lk_0_0 {n : Nat} {rv : RV} (h : Lk n rv) : rv 0 0 = some 1 := h.2.2.1 (0, 0, 1) (by decide)
theorem lk_0_4 {n : Nat} {rv : RV} (h : Lk n rv) : rv 0 4 = some 40 := h.2.2.1 (0, 4, 40) (by decide)
theorem lk_0_5 {n : Nat} {rv : RV} (h : Lk n rv) : rv 0 5 = some 47 := h.2.2.1 (0, 5, 47) (by decide)
theorem lk_0_6 {n : Nat} {rv : RV} (h : Lk n rv) : rv 0 6 = some 63 := h.2.2.1 (0, 6, 63) (by decide)
theorem lk_40_0 {n : Nat} {rv : RV} (h : Lk n rv) : rv 40 0 = some 46 := h.2.2.1 (40, 0, 46) (by decide)
theorem lk_40_1 {n : Nat} {rv : RV} (h : Lk n rv) : rv 40 1 = some 41 := h.2.2.1 (40, 1, 41) (by decide)
theorem lk_40_2 {n : Nat} {rv : RV} (h : Lk n rv) : rv 40 2 = some 45 := h.2.2.1 (40, 2, 45) (by decide)
theorem lk_41_0 {n : Nat} {rv : RV} (h : Lk n rv) : rv 41 0 = some 42 := h.2.2.1 (41, 0, 42) (by decide)
theorem lk_41_1 {n : Nat} {rv : RV} (h : Lk n rv) : rv 41 1 = some 43 := h.2.2.1 (41, 1, 43) (by decide)
theorem lk_41_2 {n : Nat} {rv : RV} (h : Lk n rv) : rv 41 2 = some 44 := h.2.2.1 (41, 2, 44) (by decide)
theorem lk_46_0 {n : Nat} {rv : RV} (h : Lk n rv) : rv 46 0 = some 1 := h.2.2.1 (46, 0, 1) (by decide)
theorem lk_47_0 {n : Nat} {rv : RV} (h : Lk n rv) : rv 47 0 = some 51 := h.2.2.1 (47, 0, 51) (by decide)
theorem lk_47_1 {n : Nat} {rv : RV} (h : Lk n rv) : rv 47 1 = some 48 := h.2.2.1 (47, 1, 48) (by decide)
theorem lk_47_2 {n : Nat} {rv : RV} (h : Lk n rv) : rv 47 2 = some 58 := h.2.2.1 (47, 2, 58) (by decide)
theorem lk_48_0 {n : Nat} {rv : RV} (h : Lk n rv) : rv 48 0 = some 49 := h.2.2.1 (48, 0, 49) (by decide)
theorem lk_48_1 {n : Nat} {rv : RV} (h : Lk n rv) : rv 48 1 = some 50 := h.2.2.1 (48, 1, 50) (by decide)
theorem lk_51_0 {n : Nat} {rv : RV} (h : Lk n rv) : rv 51 0 = some 52 := h.2.2.1 (51, 0, 52) (by decide)
theorem lk_51_1 {n : Nat} {rv : RV} (h : Lk n rv) : rv 51 1 = some 53 := h.2.2.1 (51, 1, 53) (by decide)
theorem lk_51_2 {n : Nat} {rv : RV} (h : Lk n rv) : rv 51 2 = some 54 := h.2.2.1 (51, 2, 54) (by decide)
theorem lk_51_3 {n : Nat} {rv : RV} (h : Lk n rv) : rv 51 3 = some 55 := h.2.2.1 (51, 3, 55) (by decide)
theorem lk_51_4 {n : Nat} {rv : RV} (h : Lk n rv) : rv 51 4 = some 56 := h.2.2.1 (51, 4, 56) (by decide)
theorem lk_51_5 {n : Nat} {rv : RV} (h : Lk n rv) : rv 51 5 = some 57 := h.2.2.1 (51, 5, 57) (by decide)
theorem lk_58_0 {n : Nat} {rv : RV} (h : Lk n rv) : rv 58 0 = some 59 := h.2.2.1 (58, 0, 59) (by decide)
theorem lk_58_1 {n : Nat} {rv : RV} (h : Lk n rv) : rv 58 1 = some 62 := h.2.2.1 (58, 1, 62) (by decide)
theorem lk_58_2 {n : Nat} {rv : RV} (h : Lk n rv) : rv 58 2 = some 51 := h.2.2.1 (58, 2, 51) (by decide)
theorem lk_59_0 {n : Nat} {rv : RV} (h : Lk n rv) : rv 59 0 = some 60 := h.2.2.1 (59, 0, 60) (by decide)
theorem lk_59_1 {n : Nat} {rv : RV} (h : Lk n rv) : rv 59 1 = some 61 := h.2.2.1 (59, 1, 61) (by decide)
theorem lk_63_0 {n : Nat} {rv : RV} (h : Lk n rv) : rv 63 0 = some 64 := h.2.2.1 (63, 0, 64) (by decide)
theorem lk_63_1 {n : Nat} {rv : RV} (h : Lk n rv) : rv 63 1 = some 65 := h.2.2.1 (63, 1, 65) (by decide)
theorem lk_66_5 {n : Nat} {rv : RV} (h : Lk n rv) : rv 66 5 = some 67 := h.2.2.1 (66, 5, 67) (by decide)
theorem lk_66_15 {n : Nat} {rv : RV} (h : Lk n rv) : rv 66 15 = some 68 := h.2.2.1 (66, 15, 68) (by decide)
theorem lk_66_16 {n : Nat} {rv : RV} (h : Lk n rv) : rv 66 16 = some 69 := h.2.2.1 (66, 16, 69) (by decide)
theorem lk_66_23 {n : Nat} {rv : RV} (h : Lk n rv) : rv 66 23 = some 70 := h.2.2.1 (66, 23, 70) (by decide)
theorem lk_66_24 {n : Nat} {rv : RV} (h : Lk n rv) : rv 66 24 = some 71 := h.2.2.1 (66, 24, 71) (by decide)
theorem lk_66_25 {n : Nat} {rv : RV} (h : Lk n rv) : rv 66 25 = some 72 := h.2.2.1 (66, 25, 72) (by decide)
theorem lk_66_30 {n : Nat} {rv : RV} (h : Lk n rv) : rv 66 30 = some 73 := h.2.2.1 (66, 30, 73) (by decide)
theorem lk_66_31 {n : Nat} {rv : RV} (h : Lk n rv) : rv 66 31 = some 74 := h.2.2.1 (66, 31, 74) (by decide)
theorem lk_66_32 {n : Nat} {rv : RV} (h : Lk n rv) : rv 66 32 = some 75 := h.2.2.1 (66, 32, 75) (by decide)
theorem lk_66_33 {n : Nat} {rv : RV} (h : Lk n rv) : rv 66 33 = some 76 := h.2.2.1 (66, 33, 76) (by decide)
theorem lk_66_34 {n : Nat} {rv : RV} (h : Lk n rv) : rv 66 34 = some 77 := h.2.2.1 (66, 34, 77) (by decide)
theorem lk_66_35 {n : Nat} {rv : RV} (h : Lk n rv) : rv 66 35 = some 78 := h.2.2.1 (66, 35, 78) (by decide)
theorem lkR_0 {n b : Nat} {rv : RV} (h : Lk n rv) (hb : isR b) : rv b 0 = some (b + 1) := by
  rcases hb with rfl | rfl
  · exact h.2.2.1 (2, 0, 3) (by decide)
  · exact h.2.2.1 (21, 0, 22) (by decide)
theorem lkR_1 {n b : Nat} {rv : RV} (h : Lk n rv) (hb : isR b) : rv b 1 = some (b + 2) := by
  rcases hb with rfl | rfl
  · exact h.2.2.1 (2, 1, 4) (by decide)
  · exact h.2.2.1 (21, 1, 23) (by decide)
theorem lkR_2 {n b : Nat} {rv : RV} (h : Lk n rv) (hb : isR b) : rv b 2 = some (b + 3) := by
  rcases hb with rfl | rfl
  · exact h.2.2.1 (2, 2, 5) (by decide)
  · exact h.2.2.1 (21, 2, 24) (by decide)
theorem lkR_3 {n b : Nat} {rv : RV} (h : Lk n rv) (hb : isR b) : rv b 3 = some (b + 4) := by
  rcases hb with rfl | rfl
  · exact h.2.2.1 (2, 3, 6) (by decide)
  · exact h.2.2.1 (21, 3, 25) (by decide)
theorem lkR_4 {n b : Nat} {rv : RV} (h : Lk n rv) (hb : isR b) : rv b 4 = some (b + 5) := by
  rcases hb with rfl | rfl
  · exact h.2.2.1 (2, 4, 7) (by decide)
  · exact h.2.2.1 (21, 4, 26) (by decide)
theorem lkR_5 {n b : Nat} {rv : RV} (h : Lk n rv) (hb : isR b) : rv b 5 = some (b + 6) := by
  rcases hb with rfl | rfl
  · exact h.2.2.1 (2, 5, 8) (by decide)
  · exact h.2.2.1 (21, 5, 27) (by decide)
theorem lkR_6 {n b : Nat} {rv : RV} (h : Lk n rv) (hb : isR b) : rv b 6 = some (b + 7) := by
  rcases hb with rfl | rfl
  · exact h.2.2.1 (2, 6, 9) (by decide)
  · exact h.2.2.1 (21, 6, 28) (by decide)
theorem lkR_7 {n b : Nat} {rv : RV} (h : Lk n rv) (hb : isR b) : rv b 7 = some (b + 8) := by
  rcases hb with rfl | rfl
  · exact h.2.2.1 (2, 7, 10) (by decide)
  · exact h.2.2.1 (21, 7, 29) (by decide)
theorem lkR_8 {n b : Nat} {rv : RV} (h : Lk n rv) (hb : isR b) : rv b 8 = some (b + 9) := by
  rcases hb with rfl | rfl
  · exact h.2.2.1 (2, 8, 11) (by decide)
  · exact h.2.2.1 (21, 8, 30) (by decide)
theorem lkR_9 {n b : Nat} {rv : RV} (h : Lk n rv) (hb : isR b) : rv b 9 = some (b + 10) := by
  rcases hb with rfl | rfl
  · exact h.2.2.1 (2, 9, 12) (by decide)
  · exact h.2.2.1 (21, 9, 31) (by decide)
theorem lkR_10 {n b : Nat} {rv : RV} (h : Lk n rv) (hb : isR b) : rv b 10 = some (b + 11) := by
  rcases hb with rfl | rfl
  · exact h.2.2.1 (2, 10, 13) (by decide)
  · exact h.2.2.1 (21, 10, 32) (by decide)
theorem lkR_11 {n b : Nat} {rv : RV} (h : Lk n rv) (hb : isR b) : rv b 11 = some (b + 12) := by
  rcases hb with rfl | rfl
  · exact h.2.2.1 (2, 11, 14) (by decide)
  · exact h.2.2.1 (21, 11, 33) (by decide)
theorem lkR_12 {n b : Nat} {rv : RV} (h : Lk n rv) (hb : isR b) : rv b 12 = some (b + 13) := by
  rcases hb with rfl | rfl
  · exact h.2.2.1 (2, 12, 15) (by decide)
  · exact h.2.2.1 (21, 12, 34) (by decide)
theorem lkR_13 {n b : Nat} {rv : RV} (h : Lk n rv) (hb : isR b) : rv b 13 = some (b + 14) := by
  rcases hb with rfl | rfl
  · exact h.2.2.1 (2, 13, 16) (by decide)
  · exact h.2.2.1 (21, 13, 35) (by decide)
theorem lkR_14 {n b : Nat} {rv : RV} (h : Lk n rv) (hb : isR b) : rv b 14 = some (b + 15) := by
  rcases hb with rfl | rfl
  · exact h.2.2.1 (2, 14, 17) (by decide)
  · exact h.2.2.1 (21, 14, 36) (by decide)
theorem lkR_15 {n b : Nat} {rv : RV} (h : Lk n rv) (hb : isR b) : rv b 15 = some (b + 16) := by
  rcases hb with rfl | rfl
  · exact h.2.2.1 (2, 15, 18) (by decide)
  · exact h.2.2.1 (21, 15, 37) (by decide)
theorem lkR_16 {n b : Nat} {rv : RV} (h : Lk n rv) (hb : isR b) : rv b 16 = some (b + 17) := by
  rcases hb with rfl | rfl
  · exact h.2.2.1 (2, 16, 19) (by decide)
  · exact h.2.2.1 (21, 16, 38) (by decide)
theorem lkR_17 {n b : Nat} {rv : RV} (h : Lk n rv) (hb : isR b) : rv b 17 = some (b + 18) := by
  rcases hb with rfl | rfl
  · exact h.2.2.1 (2, 17, 20) (by decide)
  · exact h.2.2.1 (21, 17, 39) (by decide)
theorem lkM_14 {n b : Nat} {rv : RV} (h : Lk n rv) (hb : isM b) (hn : b + 30 ≤ n) : rv b 14 = some (b + 1) := by
  rcases hb with rfl | rfl
  · exact h.2.2.2.1 hn (80, 14, 81) (by decide)
  · exact h.2.2.2.2.1 hn (110, 14, 111) (by decide)
theorem lkM_15 {n b : Nat} {rv : RV} (h : Lk n rv) (hb : isM b) (hn : b + 30 ≤ n) : rv b 15 = some (b + 2) := by
  rcases hb with rfl | rfl
  · exact h.2.2.2.1 hn (80, 15, 82) (by decide)
  · exact h.2.2.2.2.1 hn (110, 15, 112) (by decide)
theorem lkM_16 {n b : Nat} {rv : RV} (h : Lk n rv) (hb : isM b) (hn : b + 30 ≤ n) : rv b 16 = some (b + 3) := by
  rcases hb with rfl | rfl
  · exact h.2.2.2.1 hn (80, 16, 83) (by decide)
  · exact h.2.2.2.2.1 hn (110, 16, 113) (by decide)
theorem lkM_17 {n b : Nat} {rv : RV} (h : Lk n rv) (hb : isM b) (hn : b + 30 ≤ n) : rv b 17 = some (b + 4) := by
  rcases hb with rfl | rfl
  · exact h.2.2.2.1 hn (80, 17, 84) (by decide)
  · exact h.2.2.2.2.1 hn (110, 17, 114) (by decide)
theorem lkM_18 {n b : Nat} {rv : RV} (h : Lk n rv) (hb : isM b) (hn : b + 30 ≤ n) : rv b 18 = some (b + 5) := by
  rcases hb with rfl | rfl
  · exact h.2.2.2.1 hn (80, 18, 85) (by decide)
  · exact h.2.2.2.2.1 hn (110, 18, 115) (by decide)
theorem lkM_19 {n b : Nat} {rv : RV} (h : Lk n rv) (hb : isM b) (hn : b + 30 ≤ n) : rv b 19 = some (b + 6) := by
  rcases hb with rfl | rfl
  · exact h.2.2.2.1 hn (80, 19, 86) (by decide)
  · exact h.2.2.2.2.1 hn (110, 19, 116) (by decide)
theorem lkM_20 {n b : Nat} {rv : RV} (h : Lk n rv) (hb : isM b) (hn : b + 30 ≤ n) : rv b 20 = some (b + 7) := by
  rcases hb with rfl | rfl
  · exact h.2.2.2.1 hn (80, 20, 87) (by decide)
  · exact h.2.2.2.2.1 hn (110, 20, 117) (by decide)
theorem lkM_21 {n b : Nat} {rv : RV} (h : Lk n rv) (hb : isM b) (hn : b + 30 ≤ n) : rv b 21 = some (b + 8) := by
  rcases hb with rfl | rfl
  · exact h.2.2.2.1 hn (80, 21, 88) (by decide)
  · exact h.2.2.2.2.1 hn (110, 21, 118) (by decide)
theorem lkM_22 {n b : Nat} {rv : RV} (h : Lk n rv) (hb : isM b) (hn : b + 30 ≤ n) : rv b 22 = some (b + 9) := by
  rcases hb with rfl | rfl
  · exact h.2.2.2.1 hn (80, 22, 89) (by decide)
  · exact h.2.2.2.2.1 hn (110, 22, 119) (by decide)
theorem lkM_23 {n b : Nat} {rv : RV} (h : Lk n rv) (hb : isM b) (hn : b + 30 ≤ n) : rv b 23 = some (b + 10) := by
  rcases hb with rfl | rfl
  · exact h.2.2.2.1 hn (80, 23, 90) (by decide)
  · exact h.2.2.2.2.1 hn (110, 23, 120) (by decide)
theorem lkM_24 {n b : Nat} {rv : RV} (h : Lk n rv) (hb : isM b) (hn : b + 30 ≤ n) : rv b 24 = some (b + 11) := by
  rcases hb with rfl | rfl
  · exact h.2.2.2.1 hn (80, 24, 91) (by decide)
  · exact h.2.2.2.2.1 hn (110, 24, 121) (by decide)
theorem lkM_25 {n b : Nat} {rv : RV} (h : Lk n rv) (hb : isM b) (hn : b + 30 ≤ n) : rv b 25 = some (b + 12) := by
  rcases hb with rfl | rfl
  · exact h.2.2.2.1 hn (80, 25, 92) (by decide)
  · exact h.2.2.2.2.1 hn (110, 25, 122) (by decide)
theorem lkM_26 {n b : Nat} {rv : RV} (h : Lk n rv) (hb : isM b) (hn : b + 30 ≤ n) : rv b 26 = some (b + 13) := by
  rcases hb with rfl | rfl
  · exact h.2.2.2.1 hn (80, 26, 93) (by decide)
  · exact h.2.2.2.2.1 hn (110, 26, 123) (by decide)
theorem lkM_27 {n b : Nat} {rv : RV} (h : Lk n rv) (hb : isM b) (hn : b + 30 ≤ n) : rv b 27 = some (b + 14) := by
  rcases hb with rfl | rfl
  · exact h.2.2.2.1 hn (80, 27, 94) (by decide)
  · exact h.2.2.2.2.1 hn (110, 27, 124) (by decide)
theorem lkM_28 {n b : Nat} {rv : RV} (h : Lk n rv) (hb : isM b) (hn : b + 30 ≤ n) : rv b 28 = some (b + 15) := by
  rcases hb with rfl | rfl
  · exact h.2.2.2.1 hn (80, 28, 95) (by decide)
  · exact h.2.2.2.2.1 hn (110, 28, 125) (by decide)
theorem lkM_29 {n b : Nat} {rv : RV} (h : Lk n rv) (hb : isM b) (hn : b + 30 ≤ n) : rv b 29 = some (b + 16) := by
  rcases hb with rfl | rfl
  · exact h.2.2.2.1 hn (80, 29, 96) (by decide)
  · exact h.2.2.2.2.1 hn (110, 29, 126) (by decide)
theorem lkM_30 {n b : Nat} {rv : RV} (h : Lk n rv) (hb : isM b) (hn : b + 30 ≤ n) : rv b 30 = some (b + 17) := by
  rcases hb with rfl | rfl
  · exact h.2.2.2.1 hn (80, 30, 97) (by decide)
  · exact h.2.2.2.2.1 hn (110, 30, 127) (by decide)
theorem lkM_31 {n b : Nat} {rv : RV} (h : Lk n rv) (hb : isM b) (hn : b + 30 ≤ n) : rv b 31 = some (b + 18) := by
  rcases hb with rfl | rfl
  · exact h.2.2.2.1 hn (80, 31, 98) (by decide)
  · exact h.2.2.2.2.1 hn (110, 31, 128) (by decide)
theorem lkM_32 {n b : Nat} {rv : RV} (h : Lk n rv) (hb : isM b) (hn : b + 30 ≤ n) : rv b 32 = some (b + 19) := by
  rcases hb with rfl | rfl
  · exact h.2.2.2.1 hn (80, 32, 99) (by decide)
  · exact h.2.2.2.2.1 hn (110, 32, 129) (by decide)
theorem lkM_33 {n b : Nat} {rv : RV} (h : Lk n rv) (hb : isM b) (hn : b + 30 ≤ n) : rv b 33 = some (b + 20) := by
  rcases hb with rfl | rfl
  · exact h.2.2.2.1 hn (80, 33, 100) (by decide)
  · exact h.2.2.2.2.1 hn (110, 33, 130) (by decide)
theorem lkM_34 {n b : Nat} {rv : RV} (h : Lk n rv) (hb : isM b) (hn : b + 30 ≤ n) : rv b 34 = some (b + 21) := by
  rcases hb with rfl | rfl
  · exact h.2.2.2.1 hn (80, 34, 101) (by decide)
  · exact h.2.2.2.2.1 hn (110, 34, 131) (by decide)
theorem lkM_35 {n b : Nat} {rv : RV} (h : Lk n rv) (hb : isM b) (hn : b + 30 ≤ n) : rv b 35 = some (b + 22) := by
  rcases hb with rfl | rfl
  · exact h.2.2.2.1 hn (80, 35, 102) (by decide)
  · exact h.2.2.2.2.1 hn (110, 35, 132) (by decide)
theorem lkM_36 {n b : Nat} {rv : RV} (h : Lk n rv) (hb : isM b) (hn : b + 30 ≤ n) : rv b 36 = some (b + 23) := by
  rcases hb with rfl | rfl
  · exact h.2.2.2.1 hn (80, 36, 103) (by decide)
  · exact h.2.2.2.2.1 hn (110, 36, 133) (by decide)
theorem lkM_37 {n b : Nat} {rv : RV} (h : Lk n rv) (hb : isM b) (hn : b + 30 ≤ n) : rv b 37 = some (b + 24) := by
  rcases hb with rfl | rfl
  · exact h.2.2.2.1 hn (80, 37, 104) (by decide)
  · exact h.2.2.2.2.1 hn (110, 37, 134) (by decide)
theorem lkM_38 {n b : Nat} {rv : RV} (h : Lk n rv) (hb : isM b) (hn : b + 30 ≤ n) : rv b 38 = some (b + 25) := by
  rcases hb with rfl | rfl
  · exact h.2.2.2.1 hn (80, 38, 105) (by decide)
  · exact h.2.2.2.2.1 hn (110, 38, 135) (by decide)
theorem lkM_39 {n b : Nat} {rv : RV} (h : Lk n rv) (hb : isM b) (hn : b + 30 ≤ n) : rv b 39 = some (b + 26) := by
  rcases hb with rfl | rfl
  · exact h.2.2.2.1 hn (80, 39, 106) (by decide)
  · exact h.2.2.2.2.1 hn (110, 39, 136) (by decide)
theorem lkM_40 {n b : Nat} {rv : RV} (h : Lk n rv) (hb : isM b) (hn : b + 30 ≤ n) : rv b 40 = some (b + 27) := by
  rcases hb with rfl | rfl
  · exact h.2.2.2.1 hn (80, 40, 107) (by decide)
  · exact h.2.2.2.2.1 hn (110, 40, 137) (by decide)
theorem lkM_41 {n b : Nat} {rv : RV} (h : Lk n rv) (hb : isM b) (hn : b + 30 ≤ n) : rv b 41 = some (b + 28) := by
  rcases hb with rfl | rfl
  · exact h.2.2.2.1 hn (80, 41, 108) (by decide)
  · exact h.2.2.2.2.1 hn (110, 41, 138) (by decide)
theorem lkM_42 {n b : Nat} {rv : RV} (h : Lk n rv) (hb : isM b) (hn : b + 30 ≤ n) : rv b 42 = some (b + 29) := by
  rcases hb with rfl | rfl
  · exact h.2.2.2.1 hn (80, 42, 109) (by decide)
  · exact h.2.2.2.2.1 hn (110, 42, 139) (by decide)
theorem shR_0 {b : Nat} (hb : isR b) : sh b = .inl 5 := by rcases hb with rfl | rfl <;> rfl
theorem shM_0 {b : Nat} (hb : isM b) : sh b = .inl 11 := by rcases hb with rfl | rfl <;> rfl
theorem shR_1 {b : Nat} (hb : isR b) : sh (b + 1) = .inr (.int, 12) := by rcases hb with rfl | rfl <;> rfl
theorem shR_2 {b : Nat} (hb : isR b) : sh (b + 2) = .inr (.int, 6) := by rcases hb with rfl | rfl <;> rfl
theorem shR_3 {b : Nat} (hb : isR b) : sh (b + 3) = .inr (.int, 6) := by rcases hb with rfl | rfl <;> rfl
theorem shR_4 {b : Nat} (hb : isR b) : sh (b + 4) = .inr (.int, 20) := by rcases hb with rfl | rfl <;> rfl
theorem shR_5 {b : Nat} (hb : isR b) : sh (b + 5) = .inr (.int, 20) := by rcases hb with rfl | rfl <;> rfl
theorem shR_6 {b : Nat} (hb : isR b) : sh (b + 6) = .inr (.int, 20) := by rcases hb with rfl | rfl <;> rfl
theorem shR_7 {b : Nat} (hb : isR b) : sh (b + 7) = .inr (.int, 20) := by rcases hb with rfl | rfl <;> rfl
theorem shR_8 {b : Nat} (hb : isR b) : sh (b + 8) = .inr (.int, 16) := by rcases hb with rfl | rfl <;> rfl
theorem shR_9 {b : Nat} (hb : isR b) : sh (b + 9) = .inr (.int, 16) := by rcases hb with rfl | rfl <;> rfl
theorem shR_10 {b : Nat} (hb : isR b) : sh (b + 10) = .inr (.int, 16) := by rcases hb with rfl | rfl <;> rfl
theorem shR_11 {b : Nat} (hb : isR b) : sh (b + 11) = .inr (.int, 16) := by rcases hb with rfl | rfl <;> rfl
theorem shR_12 {b : Nat} (hb : isR b) : sh (b + 12) = .inr (.int, 16) := by rcases hb with rfl | rfl <;> rfl
theorem shR_13 {b : Nat} (hb : isR b) : sh (b + 13) = .inr (.int, 16) := by rcases hb with rfl | rfl <;> rfl
theorem shR_14 {b : Nat} (hb : isR b) : sh (b + 14) = .inr (.int, 4) := by rcases hb with rfl | rfl <;> rfl
theorem shR_15 {b : Nat} (hb : isR b) : sh (b + 15) = .inr (.int, 4) := by rcases hb with rfl | rfl <;> rfl
theorem shR_16 {b : Nat} (hb : isR b) : sh (b + 16) = .inr (.int, 4) := by rcases hb with rfl | rfl <;> rfl
theorem shR_17 {b : Nat} (hb : isR b) : sh (b + 17) = .inr (.int, 3) := by rcases hb with rfl | rfl <;> rfl
theorem shR_18 {b : Nat} (hb : isR b) : sh (b + 18) = .inr (.int, 42) := by rcases hb with rfl | rfl <;> rfl
theorem shM_1 {b : Nat} (hb : isM b) : sh (b + 1) = .inr (.int, 6) := by rcases hb with rfl | rfl <;> rfl
theorem shM_2 {b : Nat} (hb : isM b) : sh (b + 2) = .inr (.int, 6) := by rcases hb with rfl | rfl <;> rfl
theorem shM_3 {b : Nat} (hb : isM b) : sh (b + 3) = .inr (.int, 20) := by rcases hb with rfl | rfl <;> rfl
theorem shM_4 {b : Nat} (hb : isM b) : sh (b + 4) = .inr (.int, 20) := by rcases hb with rfl | rfl <;> rfl
theorem shM_5 {b : Nat} (hb : isM b) : sh (b + 5) = .inr (.int, 20) := by rcases hb with rfl | rfl <;> rfl
theorem shM_6 {b : Nat} (hb : isM b) : sh (b + 6) = .inr (.int, 20) := by rcases hb with rfl | rfl <;> rfl
theorem shM_7 {b : Nat} (hb : isM b) : sh (b + 7) = .inr (.int, 16) := by rcases hb with rfl | rfl <;> rfl
theorem shM_8 {b : Nat} (hb : isM b) : sh (b + 8) = .inr (.int, 16) := by rcases hb with rfl | rfl <;> rfl
theorem shM_9 {b : Nat} (hb : isM b) : sh (b + 9) = .inr (.int, 16) := by rcases hb with rfl | rfl <;> rfl
theorem shM_10 {b : Nat} (hb : isM b) : sh (b + 10) = .inr (.int, 16) := by rcases hb with rfl | rfl <;> rfl
theorem shM_11 {b : Nat} (hb : isM b) : sh (b + 11) = .inr (.int, 16) := by rcases hb with rfl | rfl <;> rfl
theorem shM_12 {b : Nat} (hb : isM b) : sh (b + 12) = .inr (.int, 16) := by rcases hb with rfl | rfl <;> rfl
theorem shM_13 {b : Nat} (hb : isM b) : sh (b + 13) = .inr (.int, 4) := by rcases hb with rfl | rfl <;> rfl
theorem shM_14 {b : Nat} (hb : isM b) : sh (b + 14) = .inr (.int, 4) := by rcases hb with rfl | rfl <;> rfl
theorem shM_15 {b : Nat} (hb : isM b) : sh (b + 15) = .inr (.int, 4) := by rcases hb with rfl | rfl <;> rfl
theorem shM_16 {b : Nat} (hb : isM b) : sh (b + 16) = .inr (.boolean, 3) := by rcases hb with rfl | rfl <;> rfl
theorem shM_17 {b : Nat} (hb : isM b) : sh (b + 17) = .inr (.boolean, 3) := by rcases hb with rfl | rfl <;> rfl
theorem shM_18 {b : Nat} (hb : isM b) : sh (b + 18) = .inr (.boolean, 3) := by rcases hb with rfl | rfl <;> rfl
theorem shM_19 {b : Nat} (hb : isM b) : sh (b + 19) = .inr (.boolean, 3) := by rcases hb with rfl | rfl <;> rfl
theorem shM_20 {b : Nat} (hb : isM b) : sh (b + 20) = .inr (.int, 6) := by rcases hb with rfl | rfl <;> rfl
theorem shM_21 {b : Nat} (hb : isM b) : sh (b + 21) = .inr (.int, 6) := by rcases hb with rfl | rfl <;> rfl
theorem shM_22 {b : Nat} (hb : isM b) : sh (b + 22) = .inr (.int, 6) := by rcases hb with rfl | rfl <;> rfl
theorem shM_23 {b : Nat} (hb : isM b) : sh (b + 23) = .inr (.int, 6) := by rcases hb with rfl | rfl <;> rfl
theorem shM_24 {b : Nat} (hb : isM b) : sh (b + 24) = .inr (.int, 6) := by rcases hb with rfl | rfl <;> rfl
theorem shM_25 {b : Nat} (hb : isM b) : sh (b + 25) = .inr (.int, 6) := by rcases hb with rfl | rfl <;> rfl
theorem shM_26 {b : Nat} (hb : isM b) : sh (b + 26) = .inr (.int, 6) := by rcases hb with rfl | rfl <;> rfl
theorem shM_27 {b : Nat} (hb : isM b) : sh (b + 27) = .inr (.long, 51) := by rcases hb with rfl | rfl <;> rfl
theorem shM_28 {b : Nat} (hb : isM b) : sh (b + 28) = .inr (.int, 51) := by rcases hb with rfl | rfl <;> rfl
theorem shM_29 {b : Nat} (hb : isM b) : sh (b + 29) = .inr (.int, 51) := by rcases hb with rfl | rfl <;> rfl
theorem isR_n {n b i : Nat} {rv : RV} (h : Lk n rv) (hb : isR b) (hi : i < 19) : b + i < n := by have := h.1; unfold isR at hb; omega
theorem isR_n0 {n b : Nat} {rv : RV} (h : Lk n rv) (hb : isR b) : b < n := by have := h.1; unfold isR at hb; omega
theorem isR_lt {b : Nat} (hb : isR b) {i : Nat} (hi : i < 19) : b + i < 2000 := by unfold isR at hb; omega
theorem isR_lt0 {b : Nat} (hb : isR b) : b < 2000 := by unfold isR at hb; omega
theorem isM_n {n b i : Nat} (hn : b + 30 ≤ n) (hi : i < 30) : b + i < n := by omega
theorem isM_n0 {n b : Nat} (hn : b + 30 ≤ n) : b < n := by omega
theorem isM_lt {b : Nat} (hb : isM b) {i : Nat} (hi : i < 30) : b + i < 2000 := by unfold isM at hb; omega
theorem isM_lt0 {b : Nat} (hb : isM b) : b < 2000 := by unfold isM at hb; omega
/-- the locals kept: each the same or forgotten -/
def subL : List AV → List AV → Prop
  | [], [] => True
  | a :: l, b :: m => (a = aJ ∨ a = b) ∧ subL l m
  | _, _ => False
theorem subL_at : ∀ (l m : List AV), subL l m → ∀ (i : Nat) (a : AV), l[i]? = some a → nj a → m[i]? = some a
  | [], [], _, i, a, h, _ => by simp at h
  | a :: l, b :: m, hs, i, x, h, hj => by
    cases i with
    | zero =>
      rcases hs.1 with rfl | rfl
      · cases h; exact hj.elim
      · exact h
    | succ i => exact subL_at l m hs.2 i x h hj
  | [], b :: m, hs, _, _, _, _ => hs.elim
  | a :: l, [], hs, _, _, _, _ => hs.elim
theorem g_sub {Γ : GX} {nL pc : Nat} {L S : List AV} {n : Nat} {iv : IV} {rv : RV} {u v : Nat} {L' : List AV} (hs : subL L' L) (k : G Γ nL pc L' S n iv rv u v) : G Γ nL pc L S n iv rv u v := by
  obtain ⟨p, l, e, R, s, m, args, below, meth, c, D, cA, sa, bs, ad0, n0, Q⟩ := Γ
  intro ad H locs ls h1 h2 h3 h4 h5 h6 h7
  refine k ad H locs ls h1 h2 (fun a ha => ?_) h4 h5 h6 (h7.sub (subL_at L' L hs))
  obtain ⟨i, hi⟩ := List.getElem?_of_mem ha
  rcases a with x | x | r | w
  · exact okL_at h3 (subL_at L' L hs i _ hi trivial)
  · exact okL_at h3 (subL_at L' L hs i _ hi trivial)
  · exact okL_at h3 (subL_at L' L hs i _ hi trivial)
  · exact trivial
theorem g_nmM {Γ : GX} {nL pc : Nat} {L S : List AV} {n : Nat} {iv : IV} {rv : RV} {u v : Nat} (k : ∀ y, y = iv → G Γ nL pc L S n y rv u v) : G Γ nL pc L S n iv rv u v := k iv rfl
theorem g_nmR {Γ : GX} {nL pc : Nat} {L S : List AV} {n : Nat} {iv : IV} {rv : RV} {u v : Nat} (k : ∀ y, y = rv → G Γ nL pc L S n iv y u v) : G Γ nL pc L S n iv rv u v := k rv rfl
def njL : List AV → Prop
  | [] => True
  | a :: l => nj a ∧ njL l
theorem njL_use : ∀ (l : List AV), njL l → ∀ a ∈ l, nj a
  | [], _, a, ha => by cases ha
  | b :: l, h, a, ha => by
    rcases List.mem_cons.mp ha with rfl | ha
    · exact h.1
    · exact njL_use l h.2 a ha
/-- how methods end: 0 nothing is written, 1 numbers are, 2 references too -/
def fI0 (n : Nat) (iv : IV) (rv : RV) (K : Int → Prop) : Option AV → Nat → IV → RV → Prop := fun r n' iv' rv' => n' = n ∧ iv' = iv ∧ rv' = rv ∧ ∃ x, r = some (aI x) ∧ K x
def fI1 (n : Nat) (rv : RV) (K : Int → IV → Prop) : Option AV → Nat → IV → RV → Prop := fun r n' iv' rv' => n' = n ∧ rv' = rv ∧ ∃ x, r = some (aI x) ∧ K x iv'
def fI2 (n : Nat) (K : Int → IV → RV → Prop) : Option AV → Nat → IV → RV → Prop := fun r n' iv' rv' => n' = n ∧ Lk n rv' ∧ ∃ x, r = some (aI x) ∧ K x iv' rv'
def fB0 (n : Nat) (iv : IV) (rv : RV) (K : Int → Prop) : Option AV → Nat → IV → RV → Prop := fun r n' iv' rv' => n' = n ∧ iv' = iv ∧ rv' = rv ∧ ∃ x, r = some (aI x) ∧ (x = 0 ∨ x = 1) ∧ K x
def fB1 (n : Nat) (rv : RV) (K : Int → IV → Prop) : Option AV → Nat → IV → RV → Prop := fun r n' iv' rv' => n' = n ∧ rv' = rv ∧ ∃ x, r = some (aI x) ∧ (x = 0 ∨ x = 1) ∧ K x iv'
def fB2 (n : Nat) (K : Int → IV → RV → Prop) : Option AV → Nat → IV → RV → Prop := fun r n' iv' rv' => n' = n ∧ Lk n rv' ∧ ∃ x, r = some (aI x) ∧ (x = 0 ∨ x = 1) ∧ K x iv' rv'
def fL0 (n : Nat) (iv : IV) (rv : RV) (K : Int → Prop) : Option AV → Nat → IV → RV → Prop := fun r n' iv' rv' => n' = n ∧ iv' = iv ∧ rv' = rv ∧ ∃ x, r = some (aL x) ∧ K x
def fV0 (n : Nat) (iv : IV) (rv : RV) (K : Prop) : Option AV → Nat → IV → RV → Prop := fun r n' iv' rv' => n' = n ∧ iv' = iv ∧ rv' = rv ∧ r = none ∧ K
def fV1 (n : Nat) (rv : RV) (K : IV → Prop) : Option AV → Nat → IV → RV → Prop := fun r n' iv' rv' => n' = n ∧ rv' = rv ∧ r = none ∧ K iv'
def fV2 (n : Nat) (K : IV → RV → Prop) : Option AV → Nat → IV → RV → Prop := fun r n' iv' rv' => n' = n ∧ Lk n rv' ∧ r = none ∧ K iv' rv'
def fR1 (q n : Nat) (rv : RV) (K : IV → Prop) : Option AV → Nat → IV → RV → Prop := fun r n' iv' rv' => n' = n ∧ rv' = rv ∧ r = some (aR (some q)) ∧ K iv'
theorem nar_B {x : Int} (h : x = 0 ∨ x = 1) : narrow .boolean (.int (Int32.ofInt x)) = .int (Int32.ofInt x) := by rcases h with rfl | rfl <;> decide
theorem iN (k : Nat) (h : k ≤ 2147483647) : inI (k : Int) := ⟨by omega, by omega⟩
theorem b01 {x : Int} (h : x = 0) : x = 0 ∨ x = 1 := Or.inl h
def lkV (own : String) (idx : Nat) (y : MethodName) (cc : ByteArray) (maxL : Nat) (ret : Option FieldType) (np : Nat) : Bool := lkM own idx y cc maxL ret np && (isW (.instanceMethod y) && isW (.selects y.cls y y))
def lkS (own : String) (idx : Nat) (y : MethodName) (cc : ByteArray) (maxL : Nat) (ret : Option FieldType) (np : Nat) : Bool := lkM own idx y cc maxL ret np && isW (.static y)
theorem lkV_1 {own : String} {idx : Nat} {y : MethodName} {cc : ByteArray} {maxL : Nat} {ret : Option FieldType} {np : Nat} (h : lkV own idx y cc maxL ret np = true) : lkM own idx y cc maxL ret np = true ∧ isW (.instanceMethod y) = true ∧ isW (.selects y.cls y y) = true := by simpa [lkV] using h
theorem lkS_1 {own : String} {idx : Nat} {y : MethodName} {cc : ByteArray} {maxL : Nat} {ret : Option FieldType} {np : Nat} (h : lkS own idx y cc maxL ret np = true) : lkM own idx y cc maxL ret np = true ∧ isW (.static y) = true := by simpa [lkS] using h
theorem g_cv {Γ : GX} {own : String} {cc : ByteArray} {nL d pc q : Nat} {L S : List AV} {n : Nat} {iv : IV} {rv : RV} {idx np d' : Nat} {y : MethodName} {c9 : ByteArray} {maxL : Nat} {ret : Option FieldType} {Φ : Option AV → Nat → IV → RV → Prop} {S0 : List AV} (as : List AV) {k : Nat} (ci : Nat) (X : Cx Γ own cc nL d) (hC : Call d' 0 0 y c9 maxL ret (aR (some k) :: as) n iv rv Φ) (hl : lkV own idx y c9 maxL ret np = true) (hy : y.cls = cR ci) (hci : ci < 13) (hs : sh k = .inl ci) (hk : k < n) (hnp : as.length = np) (hst : S0 = as.reverse ++ aR (some k) :: S) (hS : S.length ≤ 4) (hdd : d' + 1 ≤ d) (hd : decode cc pc = .ok (.invokevirtual idx, 3)) (hq : pc + 3 = q)
    (kk : ∀ (r : Option AV) (n' : Nat) (iv' : IV) (rv' : RV), Φ r n' iv' rv' → G Γ nL q L (r.toList ++ S) n' iv' rv' 0 0) : G Γ nL pc L S0 n iv rv 0 0 :=
  g_callV as ci X hC (lkV_1 hl).1 (lkV_1 hl).2.1 (by rw [← hy]; exact (lkV_1 hl).2.2) hci hs hk hnp hst hS hdd Cap0 hd hq (fun r n' iv' rv' h _ => kk r n' iv' rv' h)
theorem g_cs {Γ : GX} {own : String} {cc : ByteArray} {nL d pc q : Nat} {L S : List AV} {n : Nat} {iv : IV} {rv : RV} {idx np d' : Nat} {y : MethodName} {c9 : ByteArray} {maxL : Nat} {ret : Option FieldType} {Φ : Option AV → Nat → IV → RV → Prop} {S0 : List AV} (as : List AV) (X : Cx Γ own cc nL d) (hC : Call d' 0 0 y c9 maxL ret as n iv rv Φ) (hl : lkS own idx y c9 maxL ret np = true) (hnp : as.length = np) (hst : S0 = as.reverse ++ S) (hS : S.length ≤ 4) (hdd : d' + 1 ≤ d) (hd : decode cc pc = .ok (.invokestatic idx, 3)) (hq : pc + 3 = q)
    (kk : ∀ (r : Option AV) (n' : Nat) (iv' : IV) (rv' : RV), Φ r n' iv' rv' → G Γ nL q L (r.toList ++ S) n' iv' rv' 0 0) : G Γ nL pc L S0 n iv rv 0 0 :=
  g_callS as X hC (lkS_1 hl).1 (lkS_1 hl).2 hnp hst hS hdd Cap0 hd hq (fun r n' iv' rv' h _ => kk r n' iv' rv' h)
theorem Call.by {d : Nat} {y : MethodName} {own : String} {cc : ByteArray} {maxL : Nat} {ret : Option FieldType} {as : List AV} {n : Nat} {iv : IV} {rv : RV} {Φ : Option AV → Nat → IV → RV → Prop} {L : List AV} (hy : plainName y.cls = true) (hyo : y.cls = own) (hnj : njL as) (hL : lArgs as ++ List.replicate (maxL - (lArgs as).length) aJ = L) (hlen : (lArgs as).length ≤ maxL)
    (body : ∀ Γ : GX, Cx Γ own cc maxL d → Rt Γ ret 0 0 Φ → G Γ maxL 0 L [] n iv rv 0 0) : Call d 0 0 y cc maxL ret as n iv rv Φ :=
  Call.of hy hyo (njL_use as hnj) hL hlen (fun Γ X hR _ _ => body Γ X hR)
/-- a write to a reference that may change keeps the links -/
theorem Lk.w5 {n b : Nat} {rv : RV} (h : Lk n rv) (hb : isR b) {k j : Nat} (hkj : (k = 0 ∧ j = 2) ∨ (k = 0 ∧ j = 3) ∨ (k = 40 ∧ j = 5) ∨ (k = 47 ∧ j = 3) ∨ (k = 51 ∧ j = 6)) : Lk n (r2 rv k j (some b)) := by
  have hl : ∀ q ∈ lnkL, ¬ (q.1 = k ∧ q.2.1 = j) := by
    rcases hkj with ⟨rfl, rfl⟩ | ⟨rfl, rfl⟩ | ⟨rfl, rfl⟩ | ⟨rfl, rfl⟩ | ⟨rfl, rfl⟩ <;> decide
  have h5 : ∀ a c, hR5 rv a c → hR5 (r2 rv k j (some b)) a c := by
    intro a c hac
    by_cases he : a = k ∧ c = j
    · obtain ⟨rfl, rfl⟩ := he
      have e1 : r2 rv a c (some b) a c = some b := r2_eq
      exact ⟨by rw [gR_of e1]; exact e1, by rw [gR_of e1]; exact hb⟩
    · have e1 : r2 rv k j (some b) a c = rv a c := r2_ne he
      have e2 : gR (r2 rv k j (some b)) a c = gR rv a c := by unfold gR; rw [e1]
      exact ⟨by rw [e1, e2]; exact hac.1, by rw [e2]; exact hac.2⟩
  have hk66 : k ≠ 66 ∧ k ≠ 80 ∧ k ≠ 110 := by omega
  have hA : ∀ q ∈ lnkA, q.1 = 80 := by decide
  have hB : ∀ q ∈ lnkB, q.1 = 110 := by decide
  refine ⟨h.1, h.2.1, fun q hq => ?_, fun hn q hq => ?_, fun hn q hq => ?_, ⟨h5 _ _ h.2.2.2.2.2.1.1, h5 _ _ h.2.2.2.2.2.1.2.1, h5 _ _ h.2.2.2.2.2.1.2.2.1, h5 _ _ h.2.2.2.2.2.1.2.2.2.1, h5 _ _ h.2.2.2.2.2.1.2.2.2.2⟩, fun b' hb' => ?_, fun b' hb' => ?_⟩
  · rw [r2_ne (hl q hq)]; exact h.2.2.1 q hq
  · rw [r2_ne (fun z => hk66.2.1 (by rw [← z.1]; exact hA q hq))]; exact h.2.2.2.1 hn q hq
  · rw [r2_ne (fun z => hk66.2.2 (by rw [← z.1]; exact hB q hq))]; exact h.2.2.2.2.1 hn q hq
  · rw [r2_ne (fun z => hk66.1 z.1.symm)] at hb'; exact h.2.2.2.2.2.2.1 b' hb'
  · rw [r2_ne (fun z => hk66.1 z.1.symm)] at hb'; exact h.2.2.2.2.2.2.2 b' hb' 
/-- a stretch of a row of numbers copied -/
def cpy (iv : IV) (k0 k1 sp dp m : Nat) : IV := fun a b => if a = k1 ∧ dp ≤ b ∧ b < dp + m then iv k0 (sp + (b - dp)) else iv a b
theorem cpy_row {iv : IV} {k0 k1 sp dp m a : Nat} (h : a ≠ k1) : cpy iv k0 k1 sp dp m a = iv a := funext fun _ => if_neg fun z => h z.1
theorem g_copy {Γ : GX} {own : String} {cc : ByteArray} {nL d pc q : Nat} {L S : List AV} {n : Nat} {iv : IV} {rv : RV} {idx k0 k1 n0 n1 : Nat} {sp dp m : Int} {u v : Nat} (X : Cx Γ own cc nL d) (hw : isW (.methodLink own idx arraycopyName) = true) (hw1 : isW (.native arraycopyName) = true) (hw2 : isW (.static arraycopyName) = true) (hw3 : isW (.initialized "java/lang/System") = true) (hs0 : sh k0 = .inr (.int, n0)) (hs1 : sh k1 = .inr (.int, n1)) (hk0 : k0 < n) (hk1 : k1 < n) (hb0 : 0 ≤ sp ∧ 0 ≤ dp ∧ 0 ≤ m ∧ sp + m ≤ n0 ∧ dp + m ≤ n1) (hd1 : 1 ≤ d) (hS : S.length ≤ 4) (hd : decode cc pc = .ok (.invokestatic idx, 3)) (hq : pc + 3 = q)
    (kk : G Γ nL q L S n (cpy iv k0 k1 sp.toNat dp.toNat m.toNat) rv u v) : G Γ nL pc L (aI m :: aI dp :: aR (some k1) :: aI sp :: aR (some k0) :: S) n iv rv u v := by
  obtain ⟨p, l, e, R, s, m', args, below, meth, c, D, cA, sa, bs, ad0, n0', Q⟩ := Γ
  obtain ⟨hx, hb, hml, hown, hlk, hT, hK, hF, hbs, hfr, hlo⟩ := X
  intro ad H locs ls h1 h2 h3 h4 h5 h6 h7
  subst hq
  have h4a := okL_cons.mp h4
  have h4b := okL_cons.mp h4a.2
  have h4c := okL_cons.mp h4b.2
  have h4d := okL_cons.mp h4c.2
  have h4e := okL_cons.mp h4d.2
  have im : inI m := h4a.1
  have idp : inI dp := h4b.1
  have isp : inI sp := h4d.1
  have hn := h5.1
  have hsum := sum_cat (sa := sa) (ad := ad) S
  have he0 := wl_at (cA := cA) (sa := sa) (ad := ad) (iv := iv) (rv := rv) hk0
  have he1 := wl_at (cA := cA) (sa := sa) (ad := ad) (iv := iv) (rv := rv) hk1
  rw [cell_a hs0] at he0
  rw [cell_a hs1] at he1
  rw [List.map_cons, List.map_cons, List.map_cons, List.map_cons, List.map_cons, tv_R (by omega), tv_R (by omega)]
  have nw : nativeFrameWords "java/lang/System" "arraycopy" 5 + 11 ≤ 28 := by decide +kernel
  refine va_copyi hx hb (by rw [hml]; exact h7.1.symm) hown (hT.at hw args) (hT.at hw1 args) (hT.at hw2 args) (hT.at hw3 args) hK h5.2.2.2.1 h5.2.2.2.2 h6 k0 k1 1 1 he0 he1 rfl rfl rfl (sp := Int32.ofInt sp) (dp := Int32.ofInt dp) (n := Int32.ofInt m) (fun h => by have := (of_lt isp i0).mp h; omega) (fun h => by have := (of_lt idp i0).mp h; omega) (fun h => by have := (of_lt im i0).mp h; omega) (by rw [of_clamp isp, of_clamp im]; omega) (by rw [of_clamp idp, of_clamp im]; omega) (fun i _ => rfl) (by omega) (by omega) hd (fun H1 locs1 hP1 hD1 hS1 => ?_)
  rw [of_clamp isp, of_clamp idp, of_clamp im] at hP1 hD1
  have e9 : va_cpy (fun j => Int32.ofInt (iv k0 j)) (fun j => Int32.ofInt (iv k1 j)) sp.toNat dp.toNat m.toNat = fun j => Int32.ofInt (cpy iv k0 k1 sp.toNat dp.toNat m.toNat k1 j) := by
    funext j
    unfold va_cpy cpy
    by_cases hj : dp.toNat ≤ j ∧ j < dp.toNat + m.toNat
    · rw [if_pos hj, if_pos ⟨rfl, hj⟩]
    · rw [if_neg hj, if_neg (fun z => hj z.2)]
  rw [e9] at hP1 hD1
  refine kk ad H1 locs1 ls h1 h2 h3 h4e.2 (Rel.puta h5 hs1 hk1 ?_ (fun a ha => cpy_row ha) hP1 hD1) hS1 h7
  intro a b
  by_cases hab : a = k1 ∧ dp.toNat ≤ b ∧ b < dp.toNat + m.toNat
  · have e8 : cpy iv k0 k1 sp.toNat dp.toNat m.toNat a b = iv k0 (sp.toNat + (b - dp.toNat)) := if_pos hab
    rw [e8, hab.1, isL_a hs1]
    have := h5.2.1 k0 (sp.toNat + (b - dp.toNat))
    rw [isL_a hs0] at this
    exact this
  · have e8 : cpy iv k0 k1 sp.toNat dp.toNat m.toNat a b = iv a b := if_neg hab
    rw [e8]
    exact h5.2.1 a b
