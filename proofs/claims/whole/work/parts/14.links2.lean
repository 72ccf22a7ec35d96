theorem kf_X12_405 : LF RX12 405 11 11 := Or.inr ⟨"TollBarsModel", isW_of 5 232 rfl rfl⟩
theorem kf_X12_414 : LF RX12 414 11 33 := Or.inr ⟨"TollBarsModel", isW_of 6 35 rfl rfl⟩
theorem kf_X12_417 : LF RX12 417 11 34 := Or.inr ⟨"TollBarsModel", isW_of 6 37 rfl rfl⟩
theorem kf_X12_420 : LF RX12 420 11 35 := Or.inr ⟨"TollBarsModel", isW_of 6 39 rfl rfl⟩
theorem kf_X12_423 : LF RX12 423 11 36 := Or.inr ⟨"TollBarsModel", isW_of 6 41 rfl rfl⟩
theorem kf_X12_426 : LF RX12 426 11 37 := Or.inr ⟨"TollBarsModel", isW_of 6 43 rfl rfl⟩
theorem kf_X12_429 : LF RX12 429 11 38 := Or.inr ⟨"TollBarsModel", isW_of 6 45 rfl rfl⟩
theorem kf_X12_432 : LF RX12 432 11 39 := Or.inr ⟨"TollBarsModel", isW_of 6 47 rfl rfl⟩
theorem kf_X12_435 : LF RX12 435 12 6 := Or.inl (isW_of 5 84 rfl rfl)
theorem kf_X12_442 : LF RX12 442 12 3 := Or.inl (isW_of 5 81 rfl rfl)
theorem kf_X12_445 : LF RX12 445 12 27 := Or.inl (isW_of 5 105 rfl rfl)
theorem kf_X12_448 : LF RX12 448 12 29 := Or.inl (isW_of 5 107 rfl rfl)
theorem kf_X12_451 : LF RX12 451 12 20 := Or.inl (isW_of 5 98 rfl rfl)
theorem kf_X12_454 : LF RX12 454 12 17 := Or.inl (isW_of 5 95 rfl rfl)
theorem kf_X12_457 : LF RX12 457 12 21 := Or.inl (isW_of 5 99 rfl rfl)
theorem kf_X12_460 : LF RX12 460 12 22 := Or.inl (isW_of 5 100 rfl rfl)
theorem kf_X12_463 : LF RX12 463 12 19 := Or.inl (isW_of 5 97 rfl rfl)
theorem kf_X12_466 : LF RX12 466 12 18 := Or.inl (isW_of 5 96 rfl rfl)
theorem kf_X12_475 : LF RX12 475 12 26 := Or.inl (isW_of 5 104 rfl rfl)
theorem kf_X12_536 : LF RX12 536 12 36 := Or.inl (isW_of 5 114 rfl rfl)
theorem kf_X12_539 : LF RX12 539 12 37 := Or.inl (isW_of 5 115 rfl rfl)
theorem kf_X12_542 : LF RX12 542 12 38 := Or.inl (isW_of 5 116 rfl rfl)
theorem kf_X2_9 : LF RX2 9 2 0 := Or.inl (isW_of 1 160 rfl rfl)
theorem kf_X2_15 : LF RX2 15 2 1 := Or.inl (isW_of 1 161 rfl rfl)
theorem kf_X2_19 : LF RX2 19 2 2 := Or.inl (isW_of 1 162 rfl rfl)
theorem kf_X2_22 : LF RX2 22 2 3 := Or.inl (isW_of 1 163 rfl rfl)
theorem kf_X3_9 : LF RX3 9 3 0 := Or.inl (isW_of 2 89 rfl rfl)
theorem kf_X3_15 : LF RX3 15 3 1 := Or.inl (isW_of 2 91 rfl rfl)
theorem kf_X3_18 : LF RX3 18 6 6 := Or.inl (isW_of 2 31 rfl rfl)
theorem kf_X3_30 : LF RX3 30 3 2 := Or.inl (isW_of 2 93 rfl rfl)
theorem kf_X3_34 : LF RX3 34 5 0 := Or.inl (isW_of 1 42 rfl rfl)
theorem kf_X3_39 : LF RX3 39 5 11 := Or.inl (isW_of 1 87 rfl rfl)
theorem kf_X3_42 : LF RX3 42 6 2 := Or.inl (isW_of 2 22 rfl rfl)
theorem kf_X3_46 : LF RX3 46 5 10 := Or.inl (isW_of 1 82 rfl rfl)
theorem kf_X4_12 : LF RX4 12 4 1 := Or.inl (isW_of 1 203 rfl rfl)
theorem kf_X4_18 : LF RX4 18 4 2 := Or.inl (isW_of 1 204 rfl rfl)
theorem kf_X4_22 : LF RX4 22 4 7 := Or.inl (isW_of 1 210 rfl rfl)
theorem kf_X4_31 : LF RX4 31 4 0 := Or.inl (isW_of 1 202 rfl rfl)
theorem kf_X4_35 : LF RX4 35 4 5 := Or.inl (isW_of 1 207 rfl rfl)
theorem kf_X4_45 : LF RX4 45 4 6 := Or.inl (isW_of 1 208 rfl rfl)
theorem kf_X4_56 : LF RX4 56 7 3 := Or.inl (isW_of 1 183 rfl rfl)
theorem kf_X4_62 : LF RX4 62 5 0 := Or.inl (isW_of 1 44 rfl rfl)
theorem kf_X4_69 : LF RX4 69 7 4 := Or.inl (isW_of 1 185 rfl rfl)
theorem kf_X4_88 : LF RX4 88 4 3 := Or.inl (isW_of 1 205 rfl rfl)
theorem kf_X4_188 : LF RX4 188 5 1 := Or.inl (isW_of 1 50 rfl rfl)
theorem kf_X4_191 : LF RX4 191 5 2 := Or.inl (isW_of 1 53 rfl rfl)
theorem kf_X4_198 : LF RX4 198 5 3 := Or.inl (isW_of 1 56 rfl rfl)
theorem kf_X4_201 : LF RX4 201 5 4 := Or.inl (isW_of 1 59 rfl rfl)
theorem kf_X4_204 : LF RX4 204 5 5 := Or.inl (isW_of 1 62 rfl rfl)
theorem kf_X4_207 : LF RX4 207 5 6 := Or.inl (isW_of 1 66 rfl rfl)
theorem kf_X4_210 : LF RX4 210 5 10 := Or.inl (isW_of 1 84 rfl rfl)
theorem kf_X4_213 : LF RX4 213 5 11 := Or.inl (isW_of 1 89 rfl rfl)
theorem kf_X4_216 : LF RX4 216 5 12 := Or.inl (isW_of 1 93 rfl rfl)
theorem kf_X4_219 : LF RX4 219 5 7 := Or.inl (isW_of 1 69 rfl rfl)
theorem kf_X4_222 : LF RX4 222 5 8 := Or.inl (isW_of 1 74 rfl rfl)
theorem kf_X4_225 : LF RX4 225 5 13 := Or.inl (isW_of 1 97 rfl rfl)
theorem kf_X4_228 : LF RX4 228 5 14 := Or.inl (isW_of 1 100 rfl rfl)
theorem kf_X4_231 : LF RX4 231 5 15 := Or.inl (isW_of 1 103 rfl rfl)
theorem kf_X4_234 : LF RX4 234 5 9 := Or.inl (isW_of 1 79 rfl rfl)
theorem kf_X4_237 : LF RX4 237 4 4 := Or.inl (isW_of 1 206 rfl rfl)
theorem kf_X4_242 : LF RX4 242 5 16 := Or.inl (isW_of 1 106 rfl rfl)
theorem kf_X4_245 : LF RX4 245 5 17 := Or.inl (isW_of 1 108 rfl rfl)
theorem kf_X4_255 : LF RX4 255 7 5 := Or.inl (isW_of 1 188 rfl rfl)
theorem kf_X5_13 : LF RX5 13 5 0 := Or.inl (isW_of 1 41 rfl rfl)
theorem kf_X5_36 : LF RX5 36 5 7 := Or.inl (isW_of 1 67 rfl rfl)
theorem kf_X5_39 : LF RX5 39 5 8 := Or.inl (isW_of 1 72 rfl rfl)
theorem kf_X5_42 : LF RX5 42 5 9 := Or.inl (isW_of 1 77 rfl rfl)
theorem kf_X5_54 : LF RX5 54 5 13 := Or.inl (isW_of 1 95 rfl rfl)
theorem kf_X5_66 : LF RX5 66 5 17 := Or.inl (isW_of 1 107 rfl rfl)
theorem kf_X6_9 : LF RX6 9 6 0 := Or.inl (isW_of 2 16 rfl rfl)
theorem kf_X6_15 : LF RX6 15 6 1 := Or.inl (isW_of 2 18 rfl rfl)
theorem kf_X6_18 : LF RX6 18 6 2 := Or.inl (isW_of 2 20 rfl rfl)
theorem kf_X6_22 : LF RX6 22 6 3 := Or.inl (isW_of 2 24 rfl rfl)
theorem kf_X6_25 : LF RX6 25 6 4 := Or.inl (isW_of 2 26 rfl rfl)
theorem kf_X6_28 : LF RX6 28 6 5 := Or.inl (isW_of 2 28 rfl rfl)
theorem kf_X6_31 : LF RX6 31 6 6 := Or.inl (isW_of 2 30 rfl rfl)
theorem kf_X6_35 : LF RX6 35 5 16 := Or.inl (isW_of 1 105 rfl rfl)
theorem kf_X6_40 : LF RX6 40 6 7 := Or.inl (isW_of 2 33 rfl rfl)
theorem kf_X6_44 : LF RX6 44 6 8 := Or.inl (isW_of 2 35 rfl rfl)
theorem kf_X6_47 : LF RX6 47 6 9 := Or.inl (isW_of 2 37 rfl rfl)
theorem kf_X6_50 : LF RX6 50 6 10 := Or.inl (isW_of 2 39 rfl rfl)
theorem kf_X6_53 : LF RX6 53 6 12 := Or.inl (isW_of 2 42 rfl rfl)
theorem kf_X6_57 : LF RX6 57 5 7 := Or.inl (isW_of 1 68 rfl rfl)
theorem kf_X6_66 : LF RX6 66 5 9 := Or.inl (isW_of 1 78 rfl rfl)
theorem kf_X6_67 : LF RX6 67 6 13 := Or.inl (isW_of 2 43 rfl rfl)
theorem kf_X6_70 : LF RX6 70 6 14 := Or.inl (isW_of 2 44 rfl rfl)
theorem kf_X6_73 : LF RX6 73 6 11 := Or.inl (isW_of 2 41 rfl rfl)
theorem kf_X6_84 : LF RX6 84 5 11 := Or.inl (isW_of 1 88 rfl rfl)
theorem kf_X6_85 : LF RX6 85 5 12 := Or.inl (isW_of 1 92 rfl rfl)
theorem kf_X6_86 : LF RX6 86 5 0 := Or.inl (isW_of 1 46 rfl rfl)
theorem kf_X6_89 : LF RX6 89 5 13 := Or.inl (isW_of 1 96 rfl rfl)
theorem kf_X6_92 : LF RX6 92 5 15 := Or.inl (isW_of 1 102 rfl rfl)
theorem kf_X6_95 : LF RX6 95 5 14 := Or.inl (isW_of 1 99 rfl rfl)
theorem kf_X6_102 : LF RX6 102 5 8 := Or.inl (isW_of 1 73 rfl rfl)
theorem kf_X7_9 : LF RX7 9 7 0 := Or.inl (isW_of 1 180 rfl rfl)
theorem kf_X7_21 : LF RX7 21 7 1 := Or.inl (isW_of 1 181 rfl rfl)
theorem kf_X7_25 : LF RX7 25 7 2 := Or.inl (isW_of 1 182 rfl rfl)
theorem kf_X7_31 : LF RX7 31 7 4 := Or.inl (isW_of 1 186 rfl rfl)
theorem kf_X7_34 : LF RX7 34 7 5 := Or.inl (isW_of 1 187 rfl rfl)
theorem kf_X7_42 : LF RX7 42 7 3 := Or.inl (isW_of 1 184 rfl rfl)
theorem kf_X8_9 : LF RX8 9 8 0 := Or.inl (isW_of 2 1 rfl rfl)
theorem kf_X8_15 : LF RX8 15 8 1 := Or.inl (isW_of 2 2 rfl rfl)
theorem kf_X8_24 : LF RX8 24 5 6 := Or.inl (isW_of 1 64 rfl rfl)
theorem kf_X8_33 : LF RX8 33 5 5 := Or.inl (isW_of 1 61 rfl rfl)
theorem kf_X8_43 : LF RX8 43 5 3 := Or.inl (isW_of 1 55 rfl rfl)
theorem kf_X8_46 : LF RX8 46 5 4 := Or.inl (isW_of 1 58 rfl rfl)
theorem kf_X9_9 : LF RX9 9 9 0 := Or.inl (isW_of 2 140 rfl rfl)
theorem kf_X9_15 : LF RX9 15 9 1 := Or.inl (isW_of 2 142 rfl rfl)
theorem kf_X9_18 : LF RX9 18 9 2 := Or.inl (isW_of 2 144 rfl rfl)
theorem kf_X9_22 : LF RX9 22 9 3 := Or.inl (isW_of 2 146 rfl rfl)
theorem kf_X9_25 : LF RX9 25 9 4 := Or.inl (isW_of 2 148 rfl rfl)
theorem kf_X9_31 : LF RX9 31 8 1 := Or.inl (isW_of 2 3 rfl rfl)
theorem kf_X9_40 : LF RX9 40 5 6 := Or.inl (isW_of 1 65 rfl rfl)
theorem kA_X4_248 : isW (.methodLink RX4 248 arraycopyName) = true := isW_of 3 178 rfl rfl
theorem kA_X6_60 : isW (.methodLink RX6 60 arraycopyName) = true := isW_of 3 221 rfl rfl
theorem kQ_X12_71 : lkV RX12 71 yJ0_length_8abf5 cJ0_length_8abf5 1 (some .int) 0 = true := lkV_of 3 0 3 1 (lkM_of 6 172 3 2 1 15 rfl rfl rfl (by decide +kernel) (by decide +kernel) (by decide)) rfl rfl
theorem kQ_X12_79 : lkV RX12 79 yJ0_charAt_5068e cJ0_charAt_5068e 2 (some .char) 1 = true := lkV_of 3 10 3 11 (lkM_of 6 173 3 12 1 15 rfl rfl rfl (by decide +kernel) (by decide +kernel) (by decide)) rfl rfl
theorem kQ_X7_45 : lkV RX7 45 yJ0_length_8abf5 cJ0_length_8abf5 1 (some .int) 0 = true := lkV_of 3 0 3 1 (lkM_of 2 239 3 2 1 15 rfl rfl rfl (by decide +kernel) (by decide +kernel) (by decide)) rfl rfl
theorem kQ_X7_51 : lkV RX7 51 yJ0_charAt_5068e cJ0_charAt_5068e 2 (some .char) 1 = true := lkV_of 3 10 3 11 (lkM_of 3 9 3 12 1 15 rfl rfl rfl (by decide +kernel) (by decide +kernel) (by decide)) rfl rfl
theorem kS_X0_88 : lkS RX0 88 yJ9_max_7cf53 cJ9_max_7cf53 2 (some .int) 2 = true := lkS_of 4 34 (lkM_of 4 33 4 35 1 14 rfl rfl rfl (by decide +kernel) (by decide +kernel) (by decide)) rfl
theorem kS_X1_92 : lkS RX1 92 yJ9_max_7cf53 cJ9_max_7cf53 2 (some .int) 2 = true := lkS_of 4 34 (lkM_of 4 74 4 35 1 14 rfl rfl rfl (by decide +kernel) (by decide +kernel) (by decide)) rfl
theorem kS_X1_97 : lkS RX1 97 yJ9_min_7cf53 cJ9_min_7cf53 2 (some .int) 2 = true := lkS_of 2 222 (lkM_of 4 75 2 223 1 14 rfl rfl rfl (by decide +kernel) (by decide +kernel) (by decide)) rfl
theorem kS_X12_103 : lkS RX12 103 yX12_isDigit cX12_isDigit 1 (some .boolean) 1 = true := lkS_of 6 154 (lkM_of 6 153 6 155 1 12 rfl rfl rfl (by decide +kernel) (by decide +kernel) (by decide)) rfl
theorem kS_X12_115 : lkS RX12 115 yX12_wordOf cX12_wordOf 4 (some .long) 1 = true := lkS_of 6 170 (lkM_of 6 169 6 171 1 12 rfl rfl rfl (by decide +kernel) (by decide +kernel) (by decide)) rfl
theorem kS_X12_130 : lkS RX12 130 yX12_in cX12_in 3 (some .boolean) 3 = true := lkS_of 6 239 (lkM_of 6 238 7 0 1 12 rfl rfl rfl (by decide +kernel) (by decide +kernel) (by decide)) rfl
theorem kS_X12_95 : lkS RX12 95 yX12_isLetter cX12_isLetter 1 (some .boolean) 1 = true := lkS_of 6 150 (lkM_of 6 149 6 151 1 12 rfl rfl rfl (by decide +kernel) (by decide +kernel) (by decide)) rfl
theorem kS_X3_24 : lkS RX3 24 yJ7_fill_53178 cJ7_fill_53178 4 none 2 = true := lkS_of 2 211 (lkM_of 4 20 2 212 1 13 rfl rfl rfl (by decide +kernel) (by decide +kernel) (by decide)) rfl
theorem kS_X5_69 : lkS RX5 69 yJ7_fill_53178 cJ7_fill_53178 4 none 2 = true := lkS_of 2 211 (lkM_of 2 210 2 212 1 13 rfl rfl rfl (by decide +kernel) (by decide +kernel) (by decide)) rfl
theorem kS_X7_15 : lkS RX7 15 yJ9_min_7cf53 cJ9_min_7cf53 2 (some .int) 2 = true := lkS_of 2 222 (lkM_of 2 221 2 223 1 14 rfl rfl rfl (by decide +kernel) (by decide +kernel) (by decide)) rfl
theorem kS_X8_37 : lkS RX8 37 yJ7_fill_53178 cJ7_fill_53178 4 none 2 = true := lkS_of 2 211 (lkM_of 4 119 2 212 1 13 rfl rfl rfl (by decide +kernel) (by decide +kernel) (by decide)) rfl
theorem kV_X0_32 : lkV RX0 32 yX5_ofCart cX5_ofCart 3 (some .int) 2 = true := lkV_of 4 8 4 9 (lkM_of 4 15 4 10 1 2 rfl rfl rfl (by decide +kernel) (by decide +kernel) (by decide)) rfl rfl
theorem kV_X0_45 : lkV RX0 45 yX3_from cX3_from 9 none 2 = true := lkV_of 4 17 4 18 (lkM_of 4 16 4 19 1 10 rfl rfl rfl (by decide +kernel) (by decide +kernel) (by decide)) rfl rfl
theorem kV_X0_56 : lkV RX0 56 yX0_isOn cX0_isOn 2 (some .boolean) 1 = true := lkV_of 4 23 0 30 (lkM_of 4 21 4 24 1 9 rfl rfl rfl (by decide +kernel) (by decide +kernel) (by decide)) rfl rfl
theorem kV_X0_69 : lkV RX0 69 yX3_has cX3_has 2 (some .boolean) 1 = true := lkV_of 4 26 4 27 (lkM_of 4 25 4 28 1 10 rfl rfl rfl (by decide +kernel) (by decide +kernel) (by decide)) rfl rfl
theorem kV_X0_72 : lkV RX0 72 yX0_dayOfFreedom cX0_dayOfFreedom 4 (some .int) 1 = true := lkV_of 4 31 0 31 (lkM_of 4 29 4 32 1 9 rfl rfl rfl (by decide +kernel) (by decide +kernel) (by decide)) rfl rfl
theorem kV_X0_99 : lkV RX0 99 yX0_winner cX0_winner 8 (some .int) 1 = true := lkV_of 4 41 4 42 (lkM_of 4 40 4 43 1 9 rfl rfl rfl (by decide +kernel) (by decide +kernel) (by decide)) rfl rfl
theorem kV_X1_100 : lkV RX1 100 yX8_measure cX8_measure 10 none 3 = true := lkV_of 4 113 4 114 (lkM_of 4 112 4 115 1 7 rfl rfl rfl (by decide +kernel) (by decide +kernel) (by decide)) rfl rfl
theorem kV_X1_108 : lkV RX1 108 yX1_owedOnWay cX1_owedOnWay 5 (some .int) 3 = true := lkV_of 4 109 4 110 (lkM_of 4 108 4 111 1 6 rfl rfl rfl (by decide +kernel) (by decide +kernel) (by decide)) rfl rfl
theorem kV_X1_111 : lkV RX1 111 yX1_owedByOwner cX1_owedByOwner 3 (some .int) 1 = true := lkV_of 4 105 4 106 (lkM_of 4 152 4 107 1 6 rfl rfl rfl (by decide +kernel) (by decide +kernel) (by decide)) rfl rfl
theorem kV_X1_120 : lkV RX1 120 yX1_allCoin cX1_allCoin 4 (some .int) 0 = true := lkV_of 4 164 4 165 (lkM_of 4 183 4 166 1 6 rfl rfl rfl (by decide +kernel) (by decide +kernel) (by decide)) rfl rfl
theorem kV_X1_130 : lkV RX1 130 yX1_moved cX1_moved 7 (some .int) 1 = true := lkV_of 4 180 4 181 (lkM_of 4 179 4 182 1 6 rfl rfl rfl (by decide +kernel) (by decide +kernel) (by decide)) rfl rfl
theorem kV_X1_40 : lkV RX1 40 yX6_open cX6_open 4 none 2 = true := lkV_of 3 218 3 219 (lkM_of 3 217 3 220 1 8 rfl rfl rfl (by decide +kernel) (by decide +kernel) (by decide)) rfl rfl
theorem kV_X1_44 : lkV RX1 44 yX6_sit cX6_sit 3 none 1 = true := lkV_of 3 227 3 228 (lkM_of 3 226 3 229 1 8 rfl rfl rfl (by decide +kernel) (by decide +kernel) (by decide)) rfl rfl
theorem kV_X1_52 : lkV RX1 52 yX3_from cX3_from 9 none 2 = true := lkV_of 4 17 4 18 (lkM_of 4 90 4 19 1 10 rfl rfl rfl (by decide +kernel) (by decide +kernel) (by decide)) rfl rfl
theorem kV_X1_58 : lkV RX1 58 yX5_ofCart cX5_ofCart 3 (some .int) 2 = true := lkV_of 4 8 4 9 (lkM_of 4 7 4 10 1 2 rfl rfl rfl (by decide +kernel) (by decide +kernel) (by decide)) rfl rfl
theorem kV_X1_71 : lkV RX1 71 yX0_hear cX0_hear 10 none 3 = true := lkV_of 4 12 4 13 (lkM_of 4 11 4 14 1 9 rfl rfl rfl (by decide +kernel) (by decide +kernel) (by decide)) rfl rfl
theorem kV_X1_75 : lkV RX1 75 yX1_hearOwner cX1_hearOwner 3 none 1 = true := lkV_of 4 5 0 29 (lkM_of 4 3 4 6 1 6 rfl rfl rfl (by decide +kernel) (by decide +kernel) (by decide)) rfl rfl
theorem kV_X1_78 : lkV RX1 78 yX0_owedAt cX0_owedAt 4 (some .int) 1 = true := lkV_of 4 37 4 38 (lkM_of 4 36 4 39 1 9 rfl rfl rfl (by decide +kernel) (by decide +kernel) (by decide)) rfl rfl
theorem kV_X1_82 : lkV RX1 82 yX0_winner cX0_winner 8 (some .int) 1 = true := lkV_of 4 41 4 42 (lkM_of 4 52 4 43 1 9 rfl rfl rfl (by decide +kernel) (by decide +kernel) (by decide)) rfl rfl
theorem kV_X1_85 : lkV RX1 85 yX1_owedAt cX1_owedAt 4 (some .int) 3 = true := lkV_of 3 223 3 224 (lkM_of 4 69 3 225 1 6 rfl rfl rfl (by decide +kernel) (by decide +kernel) (by decide)) rfl rfl
theorem kV_X1_88 : lkV RX1 88 yX6_nextChoice cX6_nextChoice 3 (some .boolean) 0 = true := lkV_of 4 71 4 72 (lkM_of 4 70 4 73 1 8 rfl rfl rfl (by decide +kernel) (by decide +kernel) (by decide)) rfl rfl
theorem kV_X10_100 : lkV RX10 100 yX1_winner cX1_winner 4 (some .int) 3 = true := lkV_of 4 49 4 50 (lkM_of 4 48 4 51 1 6 rfl rfl rfl (by decide +kernel) (by decide +kernel) (by decide)) rfl rfl
theorem kV_X10_103 : lkV RX10 103 yX5_choices cX5_choices 3 (some .int) 0 = true := lkV_of 4 62 4 63 (lkM_of 4 61 4 64 1 2 rfl rfl rfl (by decide +kernel) (by decide +kernel) (by decide)) rfl rfl
theorem kV_X10_107 : lkV RX10 107 yX1_extreme cX1_extreme 8 (some .int) 4 = true := lkV_of 4 66 4 67 (lkM_of 4 65 4 68 1 6 rfl rfl rfl (by decide +kernel) (by decide +kernel) (by decide)) rfl rfl
theorem kV_X10_111 : lkV RX10 111 yX5_hasGrant cX5_hasGrant 2 (some .boolean) 1 = true := lkV_of 3 231 3 232 (lkM_of 4 80 3 233 1 2 rfl rfl rfl (by decide +kernel) (by decide +kernel) (by decide)) rfl rfl
theorem kV_X10_119 : lkV RX10 119 yX6_sit cX6_sit 3 none 1 = true := lkV_of 3 227 3 228 (lkM_of 4 81 3 229 1 8 rfl rfl rfl (by decide +kernel) (by decide +kernel) (by decide)) rfl rfl
theorem kV_X10_128 : lkV RX10 128 yX1_reachFrom cX1_reachFrom 3 (some (.object "TollBars$Reach")) 2 = true := lkV_of 4 87 4 88 (lkM_of 4 86 4 89 1 6 rfl rfl rfl (by decide +kernel) (by decide +kernel) (by decide)) rfl rfl
theorem kV_X10_140 : lkV RX10 140 yX3_leadsBack cX3_leadsBack 6 (some .boolean) 2 = true := lkV_of 4 96 4 97 (lkM_of 4 95 4 98 1 10 rfl rfl rfl (by decide +kernel) (by decide +kernel) (by decide)) rfl rfl
theorem kV_X10_144 : lkV RX10 144 yX1_owedByOwner cX1_owedByOwner 3 (some .int) 1 = true := lkV_of 4 105 4 106 (lkM_of 4 104 4 107 1 6 rfl rfl rfl (by decide +kernel) (by decide +kernel) (by decide)) rfl rfl
theorem kV_X10_151 : lkV RX10 151 yX5_ofCart cX5_ofCart 3 (some .int) 2 = true := lkV_of 4 8 4 9 (lkM_of 4 121 4 10 1 2 rfl rfl rfl (by decide +kernel) (by decide +kernel) (by decide)) rfl rfl
theorem kV_X10_155 : lkV RX10 155 yX9_trace cX9_trace 7 none 4 = true := lkV_of 4 123 4 124 (lkM_of 4 122 4 125 1 11 rfl rfl rfl (by decide +kernel) (by decide +kernel) (by decide)) rfl rfl
theorem kV_X10_168 : lkV RX10 168 yX1_cheapestMan cX1_cheapestMan 6 (some .int) 1 = true := lkV_of 4 149 4 150 (lkM_of 4 148 4 151 1 6 rfl rfl rfl (by decide +kernel) (by decide +kernel) (by decide)) rfl rfl
theorem kV_X10_172 : lkV RX10 172 yX1_owedOnWay cX1_owedOnWay 5 (some .int) 3 = true := lkV_of 4 109 4 110 (lkM_of 4 158 4 111 1 6 rfl rfl rfl (by decide +kernel) (by decide +kernel) (by decide)) rfl rfl
theorem kV_X10_175 : lkV RX10 175 yX1_allCoin cX1_allCoin 4 (some .int) 0 = true := lkV_of 4 164 4 165 (lkM_of 4 163 4 166 1 6 rfl rfl rfl (by decide +kernel) (by decide +kernel) (by decide)) rfl rfl
theorem kV_X10_181 : lkV RX10 181 yX1_greatestMover cX1_greatestMover 5 (some .int) 0 = true := lkV_of 4 176 4 177 (lkM_of 4 175 4 178 1 6 rfl rfl rfl (by decide +kernel) (by decide +kernel) (by decide)) rfl rfl
theorem kV_X10_184 : lkV RX10 184 yX1_moved cX1_moved 7 (some .int) 1 = true := lkV_of 4 180 4 181 (lkM_of 4 188 4 182 1 6 rfl rfl rfl (by decide +kernel) (by decide +kernel) (by decide)) rfl rfl
theorem kV_X10_187 : lkV RX10 187 yX6_suppose cX6_suppose 4 none 3 = true := lkV_of 4 194 4 195 (lkM_of 4 193 4 196 1 8 rfl rfl rfl (by decide +kernel) (by decide +kernel) (by decide)) rfl rfl
theorem kV_X10_191 : lkV RX10 191 yX10_firstUnlikeBridge cX10_firstUnlikeBridge 7 (some .int) 3 = true := lkV_of 4 203 0 32 (lkM_of 4 201 4 204 1 1 rfl rfl rfl (by decide +kernel) (by decide +kernel) (by decide)) rfl rfl
theorem kV_X10_210 : lkV RX10 210 yX5_renewalsOf cX5_renewalsOf 4 (some .int) 1 = true := lkV_of 4 222 4 223 (lkM_of 4 221 4 224 1 2 rfl rfl rfl (by decide +kernel) (by decide +kernel) (by decide)) rfl rfl
theorem kV_X10_52 : lkV RX10 52 yX10_putBytes cX10_putBytes 3 none 1 = true := lkV_of 2 192 0 0 (lkM_of 2 190 2 193 1 1 rfl rfl rfl (by decide +kernel) (by decide +kernel) (by decide)) rfl rfl
theorem kV_X10_56 : lkV RX10 56 yX10_refused cX10_refused 2 (some .int) 1 = true := lkV_of 2 200 0 1 (lkM_of 2 198 2 201 1 1 rfl rfl rfl (by decide +kernel) (by decide +kernel) (by decide)) rfl rfl
theorem kV_X10_60 : lkV RX10 60 yX4_read cX4_read 5 (some .boolean) 2 = true := lkV_of 2 203 2 204 (lkM_of 2 202 2 205 1 3 rfl rfl rfl (by decide +kernel) (by decide +kernel) (by decide)) rfl rfl
theorem kV_X10_64 : lkV RX10 64 yX9_forget cX9_forget 1 none 0 = true := lkV_of 3 186 3 187 (lkM_of 3 185 3 188 1 11 rfl rfl rfl (by decide +kernel) (by decide +kernel) (by decide)) rfl rfl
theorem kV_X10_80 : lkV RX10 80 yX10_knownCase cX10_knownCase 4 (some .boolean) 3 = true := lkV_of 3 203 0 26 (lkM_of 3 201 3 204 1 1 rfl rfl rfl (by decide +kernel) (by decide +kernel) (by decide)) rfl rfl
theorem kV_X10_84 : lkV RX10 84 yX10_admitted cX10_admitted 3 (some .boolean) 2 = true := lkV_of 3 211 0 27 (lkM_of 3 209 3 212 1 1 rfl rfl rfl (by decide +kernel) (by decide +kernel) (by decide)) rfl rfl
theorem kV_X10_88 : lkV RX10 88 yX1_open cX1_open 3 none 2 = true := lkV_of 3 214 3 215 (lkM_of 3 213 3 216 1 6 rfl rfl rfl (by decide +kernel) (by decide +kernel) (by decide)) rfl rfl
theorem kV_X10_92 : lkV RX10 92 yX1_owedAt cX1_owedAt 4 (some .int) 3 = true := lkV_of 3 223 3 224 (lkM_of 3 222 3 225 1 6 rfl rfl rfl (by decide +kernel) (by decide +kernel) (by decide)) rfl rfl
theorem kV_X10_96 : lkV RX10 96 yX5_has cX5_has 3 (some .boolean) 2 = true := lkV_of 3 206 3 207 (lkM_of 3 205 3 208 1 2 rfl rfl rfl (by decide +kernel) (by decide +kernel) (by decide)) rfl rfl
theorem kV_X12_119 : lkV RX12 119 yX12_isWord cX12_isWord 2 (some .boolean) 1 = true := lkV_of 6 167 0 39 (lkM_of 6 165 6 168 1 12 rfl rfl rfl (by decide +kernel) (by decide +kernel) (by decide)) rfl rfl
theorem kV_X12_123 : lkV RX12 123 yX12_goesOn cX12_goesOn 3 none 0 = true := lkV_of 6 143 0 35 (lkM_of 6 141 6 144 1 12 rfl rfl rfl (by decide +kernel) (by decide +kernel) (by decide)) rfl rfl
theorem kV_X12_126 : lkV RX12 126 yX12_wrong cX12_wrong 2 none 1 = true := lkV_of 6 184 0 42 (lkM_of 6 182 6 185 1 12 rfl rfl rfl (by decide +kernel) (by decide +kernel) (by decide)) rfl rfl
theorem kV_X12_163 : lkV RX12 163 yX12_isName cX12_isName 1 (some .boolean) 0 = true := lkV_of 6 192 0 44 (lkM_of 6 190 6 193 1 12 rfl rfl rfl (by decide +kernel) (by decide +kernel) (by decide)) rfl rfl
