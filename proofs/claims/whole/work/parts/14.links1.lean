/-! WORDS of the tables by their places -/
def tb (k : Nat) : List Cond := match k with
  | 0 => k2_sels lw_privs
  | 1 => tables_1_1
  | 2 => tables_1_2
  | 3 => tables_1_3
  | 4 => tables_1_4
  | 5 => tables_1_5
  | 6 => tables_1_6
  | 7 => tables_1_7
  | 8 => tables_1_8
  | _ => []
theorem tb_in {k i : Nat} {w : Cond} (h : (tb k)[i]? = some w) : w ∈ lw_tbl := by
  have h1 := List.mem_of_getElem? h
  unfold lw_tbl tables_1
  simp only [List.mem_append]
  match k, h1 with
  | 0, h1 => exact Or.inl h1
  | 1, h1 => exact Or.inr (Or.inl h1)
  | 2, h1 => exact Or.inr (Or.inr (Or.inl h1))
  | 3, h1 => exact Or.inr (Or.inr (Or.inr (Or.inl h1)))
  | 4, h1 => exact Or.inr (Or.inr (Or.inr (Or.inr (Or.inl h1))))
  | 5, h1 => exact Or.inr (Or.inr (Or.inr (Or.inr (Or.inr (Or.inl h1)))))
  | 6, h1 => exact Or.inr (Or.inr (Or.inr (Or.inr (Or.inr (Or.inr (Or.inl h1))))))
  | 7, h1 => exact Or.inr (Or.inr (Or.inr (Or.inr (Or.inr (Or.inr (Or.inr (Or.inl h1)))))))
  | 8, h1 => exact Or.inr (Or.inr (Or.inr (Or.inr (Or.inr (Or.inr (Or.inr (Or.inr h1)))))))
  | k + 9, h1 => exact absurd h1 List.not_mem_nil
theorem isW_of {w : Cond} (k i : Nat) (h : (tb k)[i]? = some w) (ho : okw w = true) : isW w = true := by
  unfold isW
  rw [Bool.and_eq_true, decide_eq_true_eq]
  exact ⟨tb_in h, ho⟩
theorem lkM_of {own : String} {idx : Nat} {y : MethodName} {cc : ByteArray} {maxL : Nat} {ret : Option FieldType} {np : Nat} (k1 i1 k2 i2 k3 i3 : Nat) (h1 : (tb k1)[i1]? = some (.methodLink own idx y)) (h2 : (tb k2)[i2]? = some (.code y cc maxL ret)) (h3 : (tb k3)[i3]? = some (.initialized y.cls)) (h4 : (y.cls ≠ "java/lang/invoke/MethodHandle" ∧ y.cls ≠ "java/lang/invoke/VarHandle")) (h5 : (parseMethodDescriptor y.desc).map (fun d => d.parameters.length) = some np) (h6 : maxL ≤ 17) : lkM own idx y cc maxL ret np = true := by
  simp only [lkM, Bool.and_eq_true, decide_eq_true_eq]
  exact ⟨isW_of k1 i1 h1 rfl, isW_of k2 i2 h2 rfl, isW_of k3 i3 h3 rfl, h4, h5, h6⟩
theorem lkV_of {own : String} {idx : Nat} {y : MethodName} {cc : ByteArray} {maxL : Nat} {ret : Option FieldType} {np : Nat} (k4 i4 k5 i5 : Nat) (h : lkM own idx y cc maxL ret np = true) (h4 : (tb k4)[i4]? = some (.instanceMethod y)) (h5 : (tb k5)[i5]? = some (.selects y.cls y y)) : lkV own idx y cc maxL ret np = true := by
  unfold lkV
  rw [h, isW_of k4 i4 h4 rfl, isW_of k5 i5 h5 rfl]
  rfl
theorem lkS_of {own : String} {idx : Nat} {y : MethodName} {cc : ByteArray} {maxL : Nat} {ret : Option FieldType} {np : Nat} (k4 i4 : Nat) (h : lkM own idx y cc maxL ret np = true) (h4 : (tb k4)[i4]? = some (.static y)) : lkS own idx y cc maxL ret np = true := by
  unfold lkS
  rw [h, isW_of k4 i4 h4 rfl]
  rfl
theorem ic_m1000000 : inI (-1000000) := by unfold inI; omega
theorem ic_m2 : inI (-2) := by unfold inI; omega
theorem ic_m1 : inI (-1) := by unfold inI; omega
theorem ic_0 : inI 0 := by unfold inI; omega
theorem ic_1 : inI 1 := by unfold inI; omega
theorem ic_2 : inI 2 := by unfold inI; omega
theorem ic_3 : inI 3 := by unfold inI; omega
theorem ic_4 : inI 4 := by unfold inI; omega
theorem ic_5 : inI 5 := by unfold inI; omega
theorem ic_6 : inI 6 := by unfold inI; omega
theorem ic_7 : inI 7 := by unfold inI; omega
theorem ic_8 : inI 8 := by unfold inI; omega
theorem ic_10 : inI 10 := by unfold inI; omega
theorem ic_11 : inI 11 := by unfold inI; omega
theorem ic_12 : inI 12 := by unfold inI; omega
theorem ic_16 : inI 16 := by unfold inI; omega
theorem ic_20 : inI 20 := by unfold inI; omega
theorem ic_24 : inI 24 := by unfold inI; omega
theorem ic_32 : inI 32 := by unfold inI; omega
theorem ic_48 : inI 48 := by unfold inI; omega
theorem ic_51 : inI 51 := by unfold inI; omega
theorem ic_57 : inI 57 := by unfold inI; omega
theorem ic_59 : inI 59 := by unfold inI; omega
theorem ic_64 : inI 64 := by unfold inI; omega
theorem ic_97 : inI 97 := by unfold inI; omega
theorem ic_99 : inI 99 := by unfold inI; omega
theorem ic_122 : inI 122 := by unfold inI; omega
theorem ic_255 : inI 255 := by unfold inI; omega
theorem ic_880 : inI 880 := by unfold inI; omega
theorem ic_900 : inI 900 := by unfold inI; omega
theorem ic_999 : inI 999 := by unfold inI; omega
theorem ic_1000 : inI 1000 := by unfold inI; omega
theorem ic_2000 : inI 2000 := by unfold inI; omega
theorem ic_2001 : inI 2001 := by unfold inI; omega
theorem ic_1000000000 : inI 1000000000 := by unfold inI; omega
theorem bc_m2 : (Int8.ofInt (-2)).toInt32 = Int32.ofInt (-2) := by decide
theorem bc_6 : (Int8.ofInt 6).toInt32 = Int32.ofInt 6 := by decide
theorem bc_7 : (Int8.ofInt 7).toInt32 = Int32.ofInt 7 := by decide
theorem bc_8 : (Int8.ofInt 8).toInt32 = Int32.ofInt 8 := by decide
theorem bc_10 : (Int8.ofInt 10).toInt32 = Int32.ofInt 10 := by decide
theorem bc_11 : (Int8.ofInt 11).toInt32 = Int32.ofInt 11 := by decide
theorem bc_12 : (Int8.ofInt 12).toInt32 = Int32.ofInt 12 := by decide
theorem bc_16 : (Int8.ofInt 16).toInt32 = Int32.ofInt 16 := by decide
theorem bc_20 : (Int8.ofInt 20).toInt32 = Int32.ofInt 20 := by decide
theorem bc_24 : (Int8.ofInt 24).toInt32 = Int32.ofInt 24 := by decide
theorem bc_32 : (Int8.ofInt 32).toInt32 = Int32.ofInt 32 := by decide
theorem bc_48 : (Int8.ofInt 48).toInt32 = Int32.ofInt 48 := by decide
theorem bc_51 : (Int8.ofInt 51).toInt32 = Int32.ofInt 51 := by decide
theorem bc_57 : (Int8.ofInt 57).toInt32 = Int32.ofInt 57 := by decide
theorem bc_59 : (Int8.ofInt 59).toInt32 = Int32.ofInt 59 := by decide
theorem bc_64 : (Int8.ofInt 64).toInt32 = Int32.ofInt 64 := by decide
theorem bc_97 : (Int8.ofInt 97).toInt32 = Int32.ofInt 97 := by decide
theorem bc_99 : (Int8.ofInt 99).toInt32 = Int32.ofInt 99 := by decide
theorem bc_122 : (Int8.ofInt 122).toInt32 = Int32.ofInt 122 := by decide
theorem sc_255 : (Int16.ofInt 255).toInt32 = Int32.ofInt 255 := by decide
theorem sc_880 : (Int16.ofInt 880).toInt32 = Int32.ofInt 880 := by decide
theorem sc_900 : (Int16.ofInt 900).toInt32 = Int32.ofInt 900 := by decide
theorem sc_999 : (Int16.ofInt 999).toInt32 = Int32.ofInt 999 := by decide
theorem sc_1000 : (Int16.ofInt 1000).toInt32 = Int32.ofInt 1000 := by decide
theorem sc_2000 : (Int16.ofInt 2000).toInt32 = Int32.ofInt 2000 := by decide
theorem sc_2001 : (Int16.ofInt 2001).toInt32 = Int32.ofInt 2001 := by decide
theorem kf_X0_12 : LF RX0 12 0 0 := Or.inl (isW_of 2 102 rfl rfl)
theorem kf_X0_18 : LF RX0 18 0 1 := Or.inl (isW_of 2 104 rfl rfl)
theorem kf_X0_22 : LF RX0 22 0 2 := Or.inl (isW_of 2 105 rfl rfl)
theorem kf_X0_26 : LF RX0 26 6 6 := Or.inl (isW_of 2 32 rfl rfl)
theorem kf_X0_38 : LF RX0 38 0 3 := Or.inl (isW_of 2 106 rfl rfl)
theorem kf_X0_42 : LF RX0 42 0 4 := Or.inl (isW_of 2 107 rfl rfl)
theorem kf_X0_49 : LF RX0 49 5 0 := Or.inl (isW_of 1 43 rfl rfl)
theorem kf_X0_52 : LF RX0 52 6 2 := Or.inl (isW_of 2 21 rfl rfl)
theorem kf_X0_60 : LF RX0 60 6 5 := Or.inl (isW_of 2 29 rfl rfl)
theorem kf_X0_63 : LF RX0 63 6 11 := Or.inl (isW_of 2 40 rfl rfl)
theorem kf_X0_66 : LF RX0 66 5 10 := Or.inl (isW_of 1 83 rfl rfl)
theorem kf_X0_76 : LF RX0 76 6 4 := Or.inl (isW_of 2 27 rfl rfl)
theorem kf_X0_78 : LF RX0 78 3 1 := Or.inl (isW_of 2 92 rfl rfl)
theorem kf_X0_81 : LF RX0 81 6 3 := Or.inl (isW_of 2 25 rfl rfl)
theorem kf_X0_84 : LF RX0 84 6 8 := Or.inl (isW_of 2 36 rfl rfl)
theorem kf_X0_93 : LF RX0 93 6 9 := Or.inl (isW_of 2 38 rfl rfl)
theorem kf_X0_96 : LF RX0 96 6 7 := Or.inl (isW_of 2 34 rfl rfl)
theorem kf_X1_12 : LF RX1 12 1 1 := Or.inl (isW_of 2 121 rfl rfl)
theorem kf_X1_18 : LF RX1 18 1 3 := Or.inl (isW_of 2 124 rfl rfl)
theorem kf_X1_27 : LF RX1 27 1 0 := Or.inl (isW_of 2 119 rfl rfl)
theorem kf_X1_36 : LF RX1 36 1 2 := Or.inl (isW_of 2 123 rfl rfl)
theorem kf_X1_48 : LF RX1 48 0 0 := Or.inl (isW_of 2 103 rfl rfl)
theorem kf_X1_64 : LF RX1 64 5 1 := Or.inl (isW_of 1 49 rfl rfl)
theorem kf_X1_68 : LF RX1 68 5 2 := Or.inl (isW_of 1 52 rfl rfl)
theorem kf_X1_104 : LF RX1 104 8 1 := Or.inl (isW_of 2 4 rfl rfl)
theorem kf_X1_114 : LF RX1 114 5 0 := Or.inl (isW_of 1 47 rfl rfl)
theorem kf_X1_117 : LF RX1 117 5 7 := Or.inl (isW_of 1 70 rfl rfl)
theorem kf_X1_124 : LF RX1 124 5 8 := Or.inl (isW_of 1 75 rfl rfl)
theorem kf_X1_127 : LF RX1 127 6 0 := Or.inl (isW_of 2 17 rfl rfl)
theorem kf_X10_9 : LF RX10 9 10 0 := Or.inl (isW_of 2 161 rfl rfl)
theorem kf_X10_16 : LF RX10 16 10 2 := Or.inl (isW_of 2 163 rfl rfl)
theorem kf_X10_20 : LF RX10 20 10 3 := Or.inl (isW_of 2 164 rfl rfl)
theorem kf_X10_28 : LF RX10 28 10 4 := Or.inl (isW_of 2 165 rfl rfl)
theorem kf_X10_37 : LF RX10 37 10 5 := Or.inl (isW_of 2 166 rfl rfl)
theorem kf_X10_44 : LF RX10 44 10 6 := Or.inl (isW_of 2 167 rfl rfl)
theorem kf_X10_48 : LF RX10 48 10 1 := Or.inl (isW_of 2 162 rfl rfl)
theorem kf_X10_67 : LF RX10 67 10 7 := Or.inl (isW_of 2 168 rfl rfl)
theorem kf_X10_70 : LF RX10 70 5 0 := Or.inl (isW_of 1 45 rfl rfl)
theorem kf_X10_74 : LF RX10 74 4 6 := Or.inl (isW_of 1 209 rfl rfl)
theorem kf_X10_77 : LF RX10 77 4 7 := Or.inl (isW_of 1 211 rfl rfl)
theorem kf_X10_115 : LF RX10 115 1 0 := Or.inl (isW_of 2 120 rfl rfl)
theorem kf_X10_124 : LF RX10 124 6 2 := Or.inl (isW_of 2 23 rfl rfl)
theorem kf_X10_132 : LF RX10 132 3 2 := Or.inl (isW_of 2 94 rfl rfl)
theorem kf_X10_137 : LF RX10 137 3 0 := Or.inl (isW_of 2 90 rfl rfl)
theorem kf_X10_147 : LF RX10 147 1 1 := Or.inl (isW_of 2 122 rfl rfl)
theorem kf_X10_159 : LF RX10 159 9 2 := Or.inl (isW_of 2 145 rfl rfl)
theorem kf_X10_162 : LF RX10 162 9 0 := Or.inl (isW_of 2 141 rfl rfl)
theorem kf_X10_165 : LF RX10 165 9 4 := Or.inl (isW_of 2 149 rfl rfl)
theorem kf_X10_178 : LF RX10 178 6 1 := Or.inl (isW_of 2 19 rfl rfl)
theorem kf_X10_194 : LF RX10 194 5 9 := Or.inl (isW_of 1 80 rfl rfl)
theorem kf_X10_195 : LF RX10 195 5 7 := Or.inl (isW_of 1 71 rfl rfl)
theorem kf_X10_198 : LF RX10 198 5 8 := Or.inl (isW_of 1 76 rfl rfl)
theorem kf_X10_201 : LF RX10 201 5 10 := Or.inl (isW_of 1 85 rfl rfl)
theorem kf_X10_204 : LF RX10 204 5 11 := Or.inl (isW_of 1 90 rfl rfl)
theorem kf_X10_207 : LF RX10 207 5 12 := Or.inl (isW_of 1 94 rfl rfl)
theorem kf_X11_91 : LF RX11 91 11 40 := Or.inl (isW_of 6 48 rfl rfl)
theorem kf_X11_101 : LF RX11 101 11 12 := Or.inl (isW_of 5 233 rfl rfl)
theorem kf_X11_105 : LF RX11 105 11 5 := Or.inl (isW_of 5 223 rfl rfl)
theorem kf_X11_108 : LF RX11 108 11 6 := Or.inl (isW_of 5 225 rfl rfl)
theorem kf_X11_111 : LF RX11 111 11 7 := Or.inl (isW_of 5 227 rfl rfl)
theorem kf_X12_9 : LF RX12 9 12 2 := Or.inl (isW_of 5 80 rfl rfl)
theorem kf_X12_13 : LF RX12 13 12 5 := Or.inl (isW_of 5 83 rfl rfl)
theorem kf_X12_17 : LF RX12 17 12 15 := Or.inl (isW_of 5 93 rfl rfl)
theorem kf_X12_21 : LF RX12 21 12 16 := Or.inl (isW_of 5 94 rfl rfl)
theorem kf_X12_24 : LF RX12 24 12 23 := Or.inl (isW_of 5 101 rfl rfl)
theorem kf_X12_27 : LF RX12 27 12 24 := Or.inl (isW_of 5 102 rfl rfl)
theorem kf_X12_30 : LF RX12 30 12 25 := Or.inl (isW_of 5 103 rfl rfl)
theorem kf_X12_33 : LF RX12 33 12 28 := Or.inl (isW_of 5 106 rfl rfl)
theorem kf_X12_36 : LF RX12 36 12 30 := Or.inl (isW_of 5 108 rfl rfl)
theorem kf_X12_39 : LF RX12 39 12 31 := Or.inl (isW_of 5 109 rfl rfl)
theorem kf_X12_42 : LF RX12 42 12 32 := Or.inl (isW_of 5 110 rfl rfl)
theorem kf_X12_45 : LF RX12 45 12 33 := Or.inl (isW_of 5 111 rfl rfl)
theorem kf_X12_48 : LF RX12 48 12 34 := Or.inl (isW_of 5 112 rfl rfl)
theorem kf_X12_51 : LF RX12 51 12 35 := Or.inl (isW_of 5 113 rfl rfl)
theorem kf_X12_54 : LF RX12 54 12 0 := Or.inl (isW_of 5 78 rfl rfl)
theorem kf_X12_57 : LF RX12 57 12 1 := Or.inl (isW_of 5 79 rfl rfl)
theorem kf_X12_68 : LF RX12 68 12 7 := Or.inl (isW_of 5 85 rfl rfl)
theorem kf_X12_83 : LF RX12 83 12 9 := Or.inl (isW_of 5 87 rfl rfl)
theorem kf_X12_86 : LF RX12 86 12 8 := Or.inl (isW_of 5 86 rfl rfl)
theorem kf_X12_92 : LF RX12 92 12 10 := Or.inl (isW_of 5 88 rfl rfl)
theorem kf_X12_99 : LF RX12 99 12 14 := Or.inl (isW_of 5 92 rfl rfl)
theorem kf_X12_106 : LF RX12 106 12 11 := Or.inl (isW_of 5 89 rfl rfl)
theorem kf_X12_109 : LF RX12 109 12 12 := Or.inl (isW_of 5 90 rfl rfl)
theorem kf_X12_112 : LF RX12 112 12 13 := Or.inl (isW_of 5 91 rfl rfl)
theorem kf_X12_167 : LF RX12 167 12 4 := Or.inl (isW_of 5 82 rfl rfl)
theorem kf_X12_177 : LF RX12 177 11 40 := Or.inr ⟨"TollBarsModel", isW_of 6 49 rfl rfl⟩
theorem kf_X12_181 : LF RX12 181 11 12 := Or.inr ⟨"TollBarsModel", isW_of 5 234 rfl rfl⟩
theorem kf_X12_184 : LF RX12 184 11 41 := Or.inr ⟨"TollBarsModel", isW_of 6 51 rfl rfl⟩
theorem kf_X12_187 : LF RX12 187 11 42 := Or.inr ⟨"TollBarsModel", isW_of 6 53 rfl rfl⟩
theorem kf_X12_196 : LF RX12 196 11 0 := Or.inr ⟨"TollBarsModel", isW_of 5 218 rfl rfl⟩
theorem kf_X12_199 : LF RX12 199 11 10 := Or.inr ⟨"TollBarsModel", isW_of 5 231 rfl rfl⟩
theorem kf_X12_245 : LF RX12 245 11 1 := Or.inr ⟨"TollBarsModel", isW_of 5 219 rfl rfl⟩
theorem kf_X12_247 : LF RX12 247 11 2 := Or.inr ⟨"TollBarsModel", isW_of 5 220 rfl rfl⟩
theorem kf_X12_265 : LF RX12 265 11 14 := Or.inr ⟨"TollBarsModel", isW_of 5 237 rfl rfl⟩
theorem kf_X12_268 : LF RX12 268 11 15 := Or.inr ⟨"TollBarsModel", isW_of 5 239 rfl rfl⟩
theorem kf_X12_276 : LF RX12 276 11 16 := Or.inr ⟨"TollBarsModel", isW_of 6 1 rfl rfl⟩
theorem kf_X12_279 : LF RX12 279 11 13 := Or.inr ⟨"TollBarsModel", isW_of 5 235 rfl rfl⟩
theorem kf_X12_282 : LF RX12 282 11 17 := Or.inr ⟨"TollBarsModel", isW_of 6 3 rfl rfl⟩
theorem kf_X12_285 : LF RX12 285 11 18 := Or.inr ⟨"TollBarsModel", isW_of 6 5 rfl rfl⟩
theorem kf_X12_288 : LF RX12 288 11 19 := Or.inr ⟨"TollBarsModel", isW_of 6 7 rfl rfl⟩
theorem kf_X12_291 : LF RX12 291 11 3 := Or.inr ⟨"TollBarsModel", isW_of 5 221 rfl rfl⟩
theorem kf_X12_297 : LF RX12 297 11 4 := Or.inr ⟨"TollBarsModel", isW_of 5 222 rfl rfl⟩
theorem kf_X12_307 : LF RX12 307 11 23 := Or.inr ⟨"TollBarsModel", isW_of 6 15 rfl rfl⟩
theorem kf_X12_310 : LF RX12 310 11 24 := Or.inr ⟨"TollBarsModel", isW_of 6 17 rfl rfl⟩
theorem kf_X12_313 : LF RX12 313 11 5 := Or.inr ⟨"TollBarsModel", isW_of 5 224 rfl rfl⟩
theorem kf_X12_327 : LF RX12 327 11 20 := Or.inr ⟨"TollBarsModel", isW_of 6 9 rfl rfl⟩
theorem kf_X12_329 : LF RX12 329 11 21 := Or.inr ⟨"TollBarsModel", isW_of 6 11 rfl rfl⟩
theorem kf_X12_331 : LF RX12 331 11 22 := Or.inr ⟨"TollBarsModel", isW_of 6 13 rfl rfl⟩
theorem kf_X12_334 : LF RX12 334 11 6 := Or.inr ⟨"TollBarsModel", isW_of 5 226 rfl rfl⟩
theorem kf_X12_345 : LF RX12 345 11 7 := Or.inr ⟨"TollBarsModel", isW_of 5 228 rfl rfl⟩
theorem kf_X12_350 : LF RX12 350 11 8 := Or.inr ⟨"TollBarsModel", isW_of 5 229 rfl rfl⟩
theorem kf_X12_359 : LF RX12 359 11 26 := Or.inr ⟨"TollBarsModel", isW_of 6 21 rfl rfl⟩
theorem kf_X12_362 : LF RX12 362 11 27 := Or.inr ⟨"TollBarsModel", isW_of 6 23 rfl rfl⟩
theorem kf_X12_365 : LF RX12 365 11 28 := Or.inr ⟨"TollBarsModel", isW_of 6 25 rfl rfl⟩
theorem kf_X12_368 : LF RX12 368 11 9 := Or.inr ⟨"TollBarsModel", isW_of 5 230 rfl rfl⟩
theorem kf_X12_371 : LF RX12 371 11 25 := Or.inr ⟨"TollBarsModel", isW_of 6 19 rfl rfl⟩
theorem kf_X12_392 : LF RX12 392 11 29 := Or.inr ⟨"TollBarsModel", isW_of 6 27 rfl rfl⟩
theorem kf_X12_396 : LF RX12 396 11 30 := Or.inr ⟨"TollBarsModel", isW_of 6 29 rfl rfl⟩
theorem kf_X12_399 : LF RX12 399 11 31 := Or.inr ⟨"TollBarsModel", isW_of 6 31 rfl rfl⟩
theorem kf_X12_402 : LF RX12 402 11 32 := Or.inr ⟨"TollBarsModel", isW_of 6 33 rfl rfl⟩
