/-! WORDS of the tables by their places -/
theorem isW_of {w : Cond} (i : Nat) (h : lw_tbl[i]? = some w) (ho : okw w = true) : isW w = true := by
  unfold isW
  rw [Bool.and_eq_true, decide_eq_true_eq]
  exact ⟨List.mem_of_getElem? h, ho⟩
theorem lkM_of {own : String} {idx : Nat} {y : MethodName} {cc : ByteArray} {maxL : Nat} {ret : Option FieldType} {np : Nat} (i1 i2 i3 : Nat) (h1 : lw_tbl[i1]? = some (.methodLink own idx y)) (h2 : lw_tbl[i2]? = some (.code y cc maxL ret)) (h3 : lw_tbl[i3]? = some (.initialized y.cls)) (h4 : (y.cls ≠ "java/lang/invoke/MethodHandle" ∧ y.cls ≠ "java/lang/invoke/VarHandle")) (h5 : (parseMethodDescriptor y.desc).map (fun d => d.parameters.length) = some np) (h6 : maxL ≤ 17) : lkM own idx y cc maxL ret np = true := by
  simp only [lkM, Bool.and_eq_true, decide_eq_true_eq]
  exact ⟨isW_of i1 h1 rfl, isW_of i2 h2 rfl, isW_of i3 h3 rfl, h4, h5, h6⟩
theorem lkV_of {own : String} {idx : Nat} {y : MethodName} {cc : ByteArray} {maxL : Nat} {ret : Option FieldType} {np : Nat} (i4 i5 : Nat) (h : lkM own idx y cc maxL ret np = true) (h4 : lw_tbl[i4]? = some (.instanceMethod y)) (h5 : lw_tbl[i5]? = some (.selects y.cls y y)) : lkV own idx y cc maxL ret np = true := by
  unfold lkV
  rw [h, isW_of i4 h4 rfl, isW_of i5 h5 rfl]
  rfl
theorem lkS_of {own : String} {idx : Nat} {y : MethodName} {cc : ByteArray} {maxL : Nat} {ret : Option FieldType} {np : Nat} (i4 : Nat) (h : lkM own idx y cc maxL ret np = true) (h4 : lw_tbl[i4]? = some (.static y)) : lkS own idx y cc maxL ret np = true := by
  unfold lkS
  rw [h, isW_of i4 h4 rfl]
  rfl
theorem ic_m1000000 : inI (-1000000) := by unfold inI; omega
theorem ic_m2 : inI (-2) := by unfold inI; omega
theorem ic_m1 : inI (-1) := by unfold inI; omega
theorem ic_0 : inI 0 := by unfold inI; omega
theorem ic_1 : inI 1 := by unfold inI; omega
theorem ic_2 : inI 2 := by unfold inI; omega
theorem ic_3 : inI 3 := by unfold inI; omega
theorem ic_4 : inI 4 := by unfold inI; omega
theorem ic_5 : inI 5 := by unfold inI; omega
theorem ic_6 : inI 6 := by unfold inI; omega
theorem ic_7 : inI 7 := by unfold inI; omega
theorem ic_8 : inI 8 := by unfold inI; omega
theorem ic_10 : inI 10 := by unfold inI; omega
theorem ic_11 : inI 11 := by unfold inI; omega
theorem ic_12 : inI 12 := by unfold inI; omega
theorem ic_16 : inI 16 := by unfold inI; omega
theorem ic_20 : inI 20 := by unfold inI; omega
theorem ic_24 : inI 24 := by unfold inI; omega
theorem ic_32 : inI 32 := by unfold inI; omega
theorem ic_48 : inI 48 := by unfold inI; omega
theorem ic_51 : inI 51 := by unfold inI; omega
theorem ic_57 : inI 57 := by unfold inI; omega
theorem ic_59 : inI 59 := by unfold inI; omega
theorem ic_64 : inI 64 := by unfold inI; omega
theorem ic_97 : inI 97 := by unfold inI; omega
theorem ic_99 : inI 99 := by unfold inI; omega
theorem ic_122 : inI 122 := by unfold inI; omega
theorem ic_255 : inI 255 := by unfold inI; omega
theorem ic_880 : inI 880 := by unfold inI; omega
theorem ic_900 : inI 900 := by unfold inI; omega
theorem ic_999 : inI 999 := by unfold inI; omega
theorem ic_1000 : inI 1000 := by unfold inI; omega
theorem ic_2000 : inI 2000 := by unfold inI; omega
theorem ic_2001 : inI 2001 := by unfold inI; omega
theorem ic_1000000000 : inI 1000000000 := by unfold inI; omega
theorem bc_m2 : (Int8.ofInt (-2)).toInt32 = Int32.ofInt (-2) := by decide
theorem bc_6 : (Int8.ofInt 6).toInt32 = Int32.ofInt 6 := by decide
theorem bc_7 : (Int8.ofInt 7).toInt32 = Int32.ofInt 7 := by decide
theorem bc_8 : (Int8.ofInt 8).toInt32 = Int32.ofInt 8 := by decide
theorem bc_10 : (Int8.ofInt 10).toInt32 = Int32.ofInt 10 := by decide
theorem bc_11 : (Int8.ofInt 11).toInt32 = Int32.ofInt 11 := by decide
theorem bc_12 : (Int8.ofInt 12).toInt32 = Int32.ofInt 12 := by decide
theorem bc_16 : (Int8.ofInt 16).toInt32 = Int32.ofInt 16 := by decide
theorem bc_20 : (Int8.ofInt 20).toInt32 = Int32.ofInt 20 := by decide
theorem bc_24 : (Int8.ofInt 24).toInt32 = Int32.ofInt 24 := by decide
theorem bc_32 : (Int8.ofInt 32).toInt32 = Int32.ofInt 32 := by decide
theorem bc_48 : (Int8.ofInt 48).toInt32 = Int32.ofInt 48 := by decide
theorem bc_51 : (Int8.ofInt 51).toInt32 = Int32.ofInt 51 := by decide
theorem bc_57 : (Int8.ofInt 57).toInt32 = Int32.ofInt 57 := by decide
theorem bc_59 : (Int8.ofInt 59).toInt32 = Int32.ofInt 59 := by decide
theorem bc_64 : (Int8.ofInt 64).toInt32 = Int32.ofInt 64 := by decide
theorem bc_97 : (Int8.ofInt 97).toInt32 = Int32.ofInt 97 := by decide
theorem bc_99 : (Int8.ofInt 99).toInt32 = Int32.ofInt 99 := by decide
theorem bc_122 : (Int8.ofInt 122).toInt32 = Int32.ofInt 122 := by decide
theorem sc_255 : (Int16.ofInt 255).toInt32 = Int32.ofInt 255 := by decide
theorem sc_880 : (Int16.ofInt 880).toInt32 = Int32.ofInt 880 := by decide
theorem sc_900 : (Int16.ofInt 900).toInt32 = Int32.ofInt 900 := by decide
theorem sc_999 : (Int16.ofInt 999).toInt32 = Int32.ofInt 999 := by decide
theorem sc_1000 : (Int16.ofInt 1000).toInt32 = Int32.ofInt 1000 := by decide
theorem sc_2000 : (Int16.ofInt 2000).toInt32 = Int32.ofInt 2000 := by decide
theorem sc_2001 : (Int16.ofInt 2001).toInt32 = Int32.ofInt 2001 := by decide
theorem kf_X0_12 : LF RX0 12 0 0 := Or.inl (isW_of 438 (by decide +kernel) rfl)
theorem kf_X0_18 : LF RX0 18 0 1 := Or.inl (isW_of 440 (by decide +kernel) rfl)
theorem kf_X0_22 : LF RX0 22 0 2 := Or.inl (isW_of 441 (by decide +kernel) rfl)
theorem kf_X0_26 : LF RX0 26 6 6 := Or.inl (isW_of 368 (by decide +kernel) rfl)
theorem kf_X0_38 : LF RX0 38 0 3 := Or.inl (isW_of 442 (by decide +kernel) rfl)
theorem kf_X0_42 : LF RX0 42 0 4 := Or.inl (isW_of 443 (by decide +kernel) rfl)
theorem kf_X0_49 : LF RX0 49 5 0 := Or.inl (isW_of 139 (by decide +kernel) rfl)
theorem kf_X0_52 : LF RX0 52 6 2 := Or.inl (isW_of 357 (by decide +kernel) rfl)
theorem kf_X0_60 : LF RX0 60 6 5 := Or.inl (isW_of 365 (by decide +kernel) rfl)
theorem kf_X0_63 : LF RX0 63 6 11 := Or.inl (isW_of 376 (by decide +kernel) rfl)
theorem kf_X0_66 : LF RX0 66 5 10 := Or.inl (isW_of 179 (by decide +kernel) rfl)
theorem kf_X0_76 : LF RX0 76 6 4 := Or.inl (isW_of 363 (by decide +kernel) rfl)
theorem kf_X0_78 : LF RX0 78 3 1 := Or.inl (isW_of 428 (by decide +kernel) rfl)
theorem kf_X0_81 : LF RX0 81 6 3 := Or.inl (isW_of 361 (by decide +kernel) rfl)
theorem kf_X0_84 : LF RX0 84 6 8 := Or.inl (isW_of 372 (by decide +kernel) rfl)
theorem kf_X0_93 : LF RX0 93 6 9 := Or.inl (isW_of 374 (by decide +kernel) rfl)
theorem kf_X0_96 : LF RX0 96 6 7 := Or.inl (isW_of 370 (by decide +kernel) rfl)
theorem kf_X1_12 : LF RX1 12 1 1 := Or.inl (isW_of 457 (by decide +kernel) rfl)
theorem kf_X1_18 : LF RX1 18 1 3 := Or.inl (isW_of 460 (by decide +kernel) rfl)
theorem kf_X1_27 : LF RX1 27 1 0 := Or.inl (isW_of 455 (by decide +kernel) rfl)
theorem kf_X1_36 : LF RX1 36 1 2 := Or.inl (isW_of 459 (by decide +kernel) rfl)
theorem kf_X1_48 : LF RX1 48 0 0 := Or.inl (isW_of 439 (by decide +kernel) rfl)
theorem kf_X1_64 : LF RX1 64 5 1 := Or.inl (isW_of 145 (by decide +kernel) rfl)
theorem kf_X1_68 : LF RX1 68 5 2 := Or.inl (isW_of 148 (by decide +kernel) rfl)
theorem kf_X1_104 : LF RX1 104 8 1 := Or.inl (isW_of 340 (by decide +kernel) rfl)
theorem kf_X1_114 : LF RX1 114 5 0 := Or.inl (isW_of 143 (by decide +kernel) rfl)
theorem kf_X1_117 : LF RX1 117 5 7 := Or.inl (isW_of 166 (by decide +kernel) rfl)
theorem kf_X1_124 : LF RX1 124 5 8 := Or.inl (isW_of 171 (by decide +kernel) rfl)
theorem kf_X1_127 : LF RX1 127 6 0 := Or.inl (isW_of 353 (by decide +kernel) rfl)
theorem kf_X10_9 : LF RX10 9 10 0 := Or.inl (isW_of 497 (by decide +kernel) rfl)
theorem kf_X10_16 : LF RX10 16 10 2 := Or.inl (isW_of 499 (by decide +kernel) rfl)
theorem kf_X10_20 : LF RX10 20 10 3 := Or.inl (isW_of 500 (by decide +kernel) rfl)
theorem kf_X10_28 : LF RX10 28 10 4 := Or.inl (isW_of 501 (by decide +kernel) rfl)
theorem kf_X10_37 : LF RX10 37 10 5 := Or.inl (isW_of 502 (by decide +kernel) rfl)
theorem kf_X10_44 : LF RX10 44 10 6 := Or.inl (isW_of 503 (by decide +kernel) rfl)
theorem kf_X10_48 : LF RX10 48 10 1 := Or.inl (isW_of 498 (by decide +kernel) rfl)
theorem kf_X10_67 : LF RX10 67 10 7 := Or.inl (isW_of 504 (by decide +kernel) rfl)
theorem kf_X10_70 : LF RX10 70 5 0 := Or.inl (isW_of 141 (by decide +kernel) rfl)
theorem kf_X10_74 : LF RX10 74 4 6 := Or.inl (isW_of 305 (by decide +kernel) rfl)
theorem kf_X10_77 : LF RX10 77 4 7 := Or.inl (isW_of 307 (by decide +kernel) rfl)
theorem kf_X10_115 : LF RX10 115 1 0 := Or.inl (isW_of 456 (by decide +kernel) rfl)
theorem kf_X10_124 : LF RX10 124 6 2 := Or.inl (isW_of 359 (by decide +kernel) rfl)
theorem kf_X10_132 : LF RX10 132 3 2 := Or.inl (isW_of 430 (by decide +kernel) rfl)
theorem kf_X10_137 : LF RX10 137 3 0 := Or.inl (isW_of 426 (by decide +kernel) rfl)
theorem kf_X10_147 : LF RX10 147 1 1 := Or.inl (isW_of 458 (by decide +kernel) rfl)
theorem kf_X10_159 : LF RX10 159 9 2 := Or.inl (isW_of 481 (by decide +kernel) rfl)
theorem kf_X10_162 : LF RX10 162 9 0 := Or.inl (isW_of 477 (by decide +kernel) rfl)
theorem kf_X10_165 : LF RX10 165 9 4 := Or.inl (isW_of 485 (by decide +kernel) rfl)
theorem kf_X10_178 : LF RX10 178 6 1 := Or.inl (isW_of 355 (by decide +kernel) rfl)
theorem kf_X10_194 : LF RX10 194 5 9 := Or.inl (isW_of 176 (by decide +kernel) rfl)
theorem kf_X10_195 : LF RX10 195 5 7 := Or.inl (isW_of 167 (by decide +kernel) rfl)
theorem kf_X10_198 : LF RX10 198 5 8 := Or.inl (isW_of 172 (by decide +kernel) rfl)
theorem kf_X10_201 : LF RX10 201 5 10 := Or.inl (isW_of 181 (by decide +kernel) rfl)
theorem kf_X10_204 : LF RX10 204 5 11 := Or.inl (isW_of 186 (by decide +kernel) rfl)
theorem kf_X10_207 : LF RX10 207 5 12 := Or.inl (isW_of 190 (by decide +kernel) rfl)
theorem kf_X11_91 : LF RX11 91 11 40 := Or.inl (isW_of 1344 (by decide +kernel) rfl)
theorem kf_X11_101 : LF RX11 101 11 12 := Or.inl (isW_of 1289 (by decide +kernel) rfl)
theorem kf_X11_105 : LF RX11 105 11 5 := Or.inl (isW_of 1279 (by decide +kernel) rfl)
theorem kf_X11_108 : LF RX11 108 11 6 := Or.inl (isW_of 1281 (by decide +kernel) rfl)
theorem kf_X11_111 : LF RX11 111 11 7 := Or.inl (isW_of 1283 (by decide +kernel) rfl)
theorem kf_X12_9 : LF RX12 9 12 2 := Or.inl (isW_of 1136 (by decide +kernel) rfl)
theorem kf_X12_13 : LF RX12 13 12 5 := Or.inl (isW_of 1139 (by decide +kernel) rfl)
theorem kf_X12_17 : LF RX12 17 12 15 := Or.inl (isW_of 1149 (by decide +kernel) rfl)
theorem kf_X12_21 : LF RX12 21 12 16 := Or.inl (isW_of 1150 (by decide +kernel) rfl)
theorem kf_X12_24 : LF RX12 24 12 23 := Or.inl (isW_of 1157 (by decide +kernel) rfl)
theorem kf_X12_27 : LF RX12 27 12 24 := Or.inl (isW_of 1158 (by decide +kernel) rfl)
theorem kf_X12_30 : LF RX12 30 12 25 := Or.inl (isW_of 1159 (by decide +kernel) rfl)
theorem kf_X12_33 : LF RX12 33 12 28 := Or.inl (isW_of 1162 (by decide +kernel) rfl)
theorem kf_X12_36 : LF RX12 36 12 30 := Or.inl (isW_of 1164 (by decide +kernel) rfl)
theorem kf_X12_39 : LF RX12 39 12 31 := Or.inl (isW_of 1165 (by decide +kernel) rfl)
theorem kf_X12_42 : LF RX12 42 12 32 := Or.inl (isW_of 1166 (by decide +kernel) rfl)
theorem kf_X12_45 : LF RX12 45 12 33 := Or.inl (isW_of 1167 (by decide +kernel) rfl)
theorem kf_X12_48 : LF RX12 48 12 34 := Or.inl (isW_of 1168 (by decide +kernel) rfl)
theorem kf_X12_51 : LF RX12 51 12 35 := Or.inl (isW_of 1169 (by decide +kernel) rfl)
theorem kf_X12_54 : LF RX12 54 12 0 := Or.inl (isW_of 1134 (by decide +kernel) rfl)
theorem kf_X12_57 : LF RX12 57 12 1 := Or.inl (isW_of 1135 (by decide +kernel) rfl)
theorem kf_X12_68 : LF RX12 68 12 7 := Or.inl (isW_of 1141 (by decide +kernel) rfl)
theorem kf_X12_83 : LF RX12 83 12 9 := Or.inl (isW_of 1143 (by decide +kernel) rfl)
theorem kf_X12_86 : LF RX12 86 12 8 := Or.inl (isW_of 1142 (by decide +kernel) rfl)
theorem kf_X12_92 : LF RX12 92 12 10 := Or.inl (isW_of 1144 (by decide +kernel) rfl)
theorem kf_X12_99 : LF RX12 99 12 14 := Or.inl (isW_of 1148 (by decide +kernel) rfl)
theorem kf_X12_106 : LF RX12 106 12 11 := Or.inl (isW_of 1145 (by decide +kernel) rfl)
theorem kf_X12_109 : LF RX12 109 12 12 := Or.inl (isW_of 1146 (by decide +kernel) rfl)
theorem kf_X12_112 : LF RX12 112 12 13 := Or.inl (isW_of 1147 (by decide +kernel) rfl)
theorem kf_X12_167 : LF RX12 167 12 4 := Or.inl (isW_of 1138 (by decide +kernel) rfl)
theorem kf_X12_177 : LF RX12 177 11 40 := Or.inr ⟨"TollBarsModel", isW_of 1345 (by decide +kernel) rfl⟩
theorem kf_X12_181 : LF RX12 181 11 12 := Or.inr ⟨"TollBarsModel", isW_of 1290 (by decide +kernel) rfl⟩
theorem kf_X12_184 : LF RX12 184 11 41 := Or.inr ⟨"TollBarsModel", isW_of 1347 (by decide +kernel) rfl⟩
theorem kf_X12_187 : LF RX12 187 11 42 := Or.inr ⟨"TollBarsModel", isW_of 1349 (by decide +kernel) rfl⟩
theorem kf_X12_196 : LF RX12 196 11 0 := Or.inr ⟨"TollBarsModel", isW_of 1274 (by decide +kernel) rfl⟩
theorem kf_X12_199 : LF RX12 199 11 10 := Or.inr ⟨"TollBarsModel", isW_of 1287 (by decide +kernel) rfl⟩
theorem kf_X12_245 : LF RX12 245 11 1 := Or.inr ⟨"TollBarsModel", isW_of 1275 (by decide +kernel) rfl⟩
theorem kf_X12_247 : LF RX12 247 11 2 := Or.inr ⟨"TollBarsModel", isW_of 1276 (by decide +kernel) rfl⟩
theorem kf_X12_265 : LF RX12 265 11 14 := Or.inr ⟨"TollBarsModel", isW_of 1293 (by decide +kernel) rfl⟩
theorem kf_X12_268 : LF RX12 268 11 15 := Or.inr ⟨"TollBarsModel", isW_of 1295 (by decide +kernel) rfl⟩
theorem kf_X12_276 : LF RX12 276 11 16 := Or.inr ⟨"TollBarsModel", isW_of 1297 (by decide +kernel) rfl⟩
theorem kf_X12_279 : LF RX12 279 11 13 := Or.inr ⟨"TollBarsModel", isW_of 1291 (by decide +kernel) rfl⟩
theorem kf_X12_282 : LF RX12 282 11 17 := Or.inr ⟨"TollBarsModel", isW_of 1299 (by decide +kernel) rfl⟩
theorem kf_X12_285 : LF RX12 285 11 18 := Or.inr ⟨"TollBarsModel", isW_of 1301 (by decide +kernel) rfl⟩
theorem kf_X12_288 : LF RX12 288 11 19 := Or.inr ⟨"TollBarsModel", isW_of 1303 (by decide +kernel) rfl⟩
theorem kf_X12_291 : LF RX12 291 11 3 := Or.inr ⟨"TollBarsModel", isW_of 1277 (by decide +kernel) rfl⟩
theorem kf_X12_297 : LF RX12 297 11 4 := Or.inr ⟨"TollBarsModel", isW_of 1278 (by decide +kernel) rfl⟩
theorem kf_X12_307 : LF RX12 307 11 23 := Or.inr ⟨"TollBarsModel", isW_of 1311 (by decide +kernel) rfl⟩
theorem kf_X12_310 : LF RX12 310 11 24 := Or.inr ⟨"TollBarsModel", isW_of 1313 (by decide +kernel) rfl⟩
theorem kf_X12_313 : LF RX12 313 11 5 := Or.inr ⟨"TollBarsModel", isW_of 1280 (by decide +kernel) rfl⟩
theorem kf_X12_327 : LF RX12 327 11 20 := Or.inr ⟨"TollBarsModel", isW_of 1305 (by decide +kernel) rfl⟩
theorem kf_X12_329 : LF RX12 329 11 21 := Or.inr ⟨"TollBarsModel", isW_of 1307 (by decide +kernel) rfl⟩
theorem kf_X12_331 : LF RX12 331 11 22 := Or.inr ⟨"TollBarsModel", isW_of 1309 (by decide +kernel) rfl⟩
theorem kf_X12_334 : LF RX12 334 11 6 := Or.inr ⟨"TollBarsModel", isW_of 1282 (by decide +kernel) rfl⟩
theorem kf_X12_345 : LF RX12 345 11 7 := Or.inr ⟨"TollBarsModel", isW_of 1284 (by decide +kernel) rfl⟩
theorem kf_X12_350 : LF RX12 350 11 8 := Or.inr ⟨"TollBarsModel", isW_of 1285 (by decide +kernel) rfl⟩
theorem kf_X12_359 : LF RX12 359 11 26 := Or.inr ⟨"TollBarsModel", isW_of 1317 (by decide +kernel) rfl⟩
theorem kf_X12_362 : LF RX12 362 11 27 := Or.inr ⟨"TollBarsModel", isW_of 1319 (by decide +kernel) rfl⟩
theorem kf_X12_365 : LF RX12 365 11 28 := Or.inr ⟨"TollBarsModel", isW_of 1321 (by decide +kernel) rfl⟩
theorem kf_X12_368 : LF RX12 368 11 9 := Or.inr ⟨"TollBarsModel", isW_of 1286 (by decide +kernel) rfl⟩
theorem kf_X12_371 : LF RX12 371 11 25 := Or.inr ⟨"TollBarsModel", isW_of 1315 (by decide +kernel) rfl⟩
theorem kf_X12_392 : LF RX12 392 11 29 := Or.inr ⟨"TollBarsModel", isW_of 1323 (by decide +kernel) rfl⟩
theorem kf_X12_396 : LF RX12 396 11 30 := Or.inr ⟨"TollBarsModel", isW_of 1325 (by decide +kernel) rfl⟩
theorem kf_X12_399 : LF RX12 399 11 31 := Or.inr ⟨"TollBarsModel", isW_of 1327 (by decide +kernel) rfl⟩
theorem kf_X12_402 : LF RX12 402 11 32 := Or.inr ⟨"TollBarsModel", isW_of 1329 (by decide +kernel) rfl⟩
theorem kf_X12_405 : LF RX12 405 11 11 := Or.inr ⟨"TollBarsModel", isW_of 1288 (by decide +kernel) rfl⟩
theorem kf_X12_414 : LF RX12 414 11 33 := Or.inr ⟨"TollBarsModel", isW_of 1331 (by decide +kernel) rfl⟩
theorem kf_X12_417 : LF RX12 417 11 34 := Or.inr ⟨"TollBarsModel", isW_of 1333 (by decide +kernel) rfl⟩
theorem kf_X12_420 : LF RX12 420 11 35 := Or.inr ⟨"TollBarsModel", isW_of 1335 (by decide +kernel) rfl⟩
theorem kf_X12_423 : LF RX12 423 11 36 := Or.inr ⟨"TollBarsModel", isW_of 1337 (by decide +kernel) rfl⟩
theorem kf_X12_426 : LF RX12 426 11 37 := Or.inr ⟨"TollBarsModel", isW_of 1339 (by decide +kernel) rfl⟩
theorem kf_X12_429 : LF RX12 429 11 38 := Or.inr ⟨"TollBarsModel", isW_of 1341 (by decide +kernel) rfl⟩
theorem kf_X12_432 : LF RX12 432 11 39 := Or.inr ⟨"TollBarsModel", isW_of 1343 (by decide +kernel) rfl⟩
theorem kf_X12_435 : LF RX12 435 12 6 := Or.inl (isW_of 1140 (by decide +kernel) rfl)
theorem kf_X12_442 : LF RX12 442 12 3 := Or.inl (isW_of 1137 (by decide +kernel) rfl)
theorem kf_X12_445 : LF RX12 445 12 27 := Or.inl (isW_of 1161 (by decide +kernel) rfl)
theorem kf_X12_448 : LF RX12 448 12 29 := Or.inl (isW_of 1163 (by decide +kernel) rfl)
theorem kf_X12_451 : LF RX12 451 12 20 := Or.inl (isW_of 1154 (by decide +kernel) rfl)
theorem kf_X12_454 : LF RX12 454 12 17 := Or.inl (isW_of 1151 (by decide +kernel) rfl)
theorem kf_X12_457 : LF RX12 457 12 21 := Or.inl (isW_of 1155 (by decide +kernel) rfl)
theorem kf_X12_460 : LF RX12 460 12 22 := Or.inl (isW_of 1156 (by decide +kernel) rfl)
theorem kf_X12_463 : LF RX12 463 12 19 := Or.inl (isW_of 1153 (by decide +kernel) rfl)
theorem kf_X12_466 : LF RX12 466 12 18 := Or.inl (isW_of 1152 (by decide +kernel) rfl)
theorem kf_X12_475 : LF RX12 475 12 26 := Or.inl (isW_of 1160 (by decide +kernel) rfl)
theorem kf_X12_536 : LF RX12 536 12 36 := Or.inl (isW_of 1170 (by decide +kernel) rfl)
theorem kf_X12_539 : LF RX12 539 12 37 := Or.inl (isW_of 1171 (by decide +kernel) rfl)
theorem kf_X12_542 : LF RX12 542 12 38 := Or.inl (isW_of 1172 (by decide +kernel) rfl)
theorem kf_X2_9 : LF RX2 9 2 0 := Or.inl (isW_of 256 (by decide +kernel) rfl)
theorem kf_X2_15 : LF RX2 15 2 1 := Or.inl (isW_of 257 (by decide +kernel) rfl)
theorem kf_X2_19 : LF RX2 19 2 2 := Or.inl (isW_of 258 (by decide +kernel) rfl)
theorem kf_X2_22 : LF RX2 22 2 3 := Or.inl (isW_of 259 (by decide +kernel) rfl)
theorem kf_X3_9 : LF RX3 9 3 0 := Or.inl (isW_of 425 (by decide +kernel) rfl)
theorem kf_X3_15 : LF RX3 15 3 1 := Or.inl (isW_of 427 (by decide +kernel) rfl)
theorem kf_X3_18 : LF RX3 18 6 6 := Or.inl (isW_of 367 (by decide +kernel) rfl)
theorem kf_X3_30 : LF RX3 30 3 2 := Or.inl (isW_of 429 (by decide +kernel) rfl)
theorem kf_X3_34 : LF RX3 34 5 0 := Or.inl (isW_of 138 (by decide +kernel) rfl)
theorem kf_X3_39 : LF RX3 39 5 11 := Or.inl (isW_of 183 (by decide +kernel) rfl)
theorem kf_X3_42 : LF RX3 42 6 2 := Or.inl (isW_of 358 (by decide +kernel) rfl)
theorem kf_X3_46 : LF RX3 46 5 10 := Or.inl (isW_of 178 (by decide +kernel) rfl)
theorem kf_X4_12 : LF RX4 12 4 1 := Or.inl (isW_of 299 (by decide +kernel) rfl)
theorem kf_X4_18 : LF RX4 18 4 2 := Or.inl (isW_of 300 (by decide +kernel) rfl)
theorem kf_X4_22 : LF RX4 22 4 7 := Or.inl (isW_of 306 (by decide +kernel) rfl)
theorem kf_X4_31 : LF RX4 31 4 0 := Or.inl (isW_of 298 (by decide +kernel) rfl)
theorem kf_X4_35 : LF RX4 35 4 5 := Or.inl (isW_of 303 (by decide +kernel) rfl)
theorem kf_X4_45 : LF RX4 45 4 6 := Or.inl (isW_of 304 (by decide +kernel) rfl)
theorem kf_X4_56 : LF RX4 56 7 3 := Or.inl (isW_of 279 (by decide +kernel) rfl)
theorem kf_X4_62 : LF RX4 62 5 0 := Or.inl (isW_of 140 (by decide +kernel) rfl)
theorem kf_X4_69 : LF RX4 69 7 4 := Or.inl (isW_of 281 (by decide +kernel) rfl)
theorem kf_X4_88 : LF RX4 88 4 3 := Or.inl (isW_of 301 (by decide +kernel) rfl)
theorem kf_X4_188 : LF RX4 188 5 1 := Or.inl (isW_of 146 (by decide +kernel) rfl)
theorem kf_X4_191 : LF RX4 191 5 2 := Or.inl (isW_of 149 (by decide +kernel) rfl)
theorem kf_X4_198 : LF RX4 198 5 3 := Or.inl (isW_of 152 (by decide +kernel) rfl)
theorem kf_X4_201 : LF RX4 201 5 4 := Or.inl (isW_of 155 (by decide +kernel) rfl)
theorem kf_X4_204 : LF RX4 204 5 5 := Or.inl (isW_of 158 (by decide +kernel) rfl)
theorem kf_X4_207 : LF RX4 207 5 6 := Or.inl (isW_of 162 (by decide +kernel) rfl)
theorem kf_X4_210 : LF RX4 210 5 10 := Or.inl (isW_of 180 (by decide +kernel) rfl)
theorem kf_X4_213 : LF RX4 213 5 11 := Or.inl (isW_of 185 (by decide +kernel) rfl)
theorem kf_X4_216 : LF RX4 216 5 12 := Or.inl (isW_of 189 (by decide +kernel) rfl)
theorem kf_X4_219 : LF RX4 219 5 7 := Or.inl (isW_of 165 (by decide +kernel) rfl)
theorem kf_X4_222 : LF RX4 222 5 8 := Or.inl (isW_of 170 (by decide +kernel) rfl)
theorem kf_X4_225 : LF RX4 225 5 13 := Or.inl (isW_of 193 (by decide +kernel) rfl)
theorem kf_X4_228 : LF RX4 228 5 14 := Or.inl (isW_of 196 (by decide +kernel) rfl)
theorem kf_X4_231 : LF RX4 231 5 15 := Or.inl (isW_of 199 (by decide +kernel) rfl)
theorem kf_X4_234 : LF RX4 234 5 9 := Or.inl (isW_of 175 (by decide +kernel) rfl)
theorem kf_X4_237 : LF RX4 237 4 4 := Or.inl (isW_of 302 (by decide +kernel) rfl)
theorem kf_X4_242 : LF RX4 242 5 16 := Or.inl (isW_of 202 (by decide +kernel) rfl)
theorem kf_X4_245 : LF RX4 245 5 17 := Or.inl (isW_of 204 (by decide +kernel) rfl)
theorem kf_X4_255 : LF RX4 255 7 5 := Or.inl (isW_of 284 (by decide +kernel) rfl)
theorem kf_X5_13 : LF RX5 13 5 0 := Or.inl (isW_of 137 (by decide +kernel) rfl)
theorem kf_X5_36 : LF RX5 36 5 7 := Or.inl (isW_of 163 (by decide +kernel) rfl)
theorem kf_X5_39 : LF RX5 39 5 8 := Or.inl (isW_of 168 (by decide +kernel) rfl)
theorem kf_X5_42 : LF RX5 42 5 9 := Or.inl (isW_of 173 (by decide +kernel) rfl)
theorem kf_X5_54 : LF RX5 54 5 13 := Or.inl (isW_of 191 (by decide +kernel) rfl)
theorem kf_X5_66 : LF RX5 66 5 17 := Or.inl (isW_of 203 (by decide +kernel) rfl)
theorem kf_X6_9 : LF RX6 9 6 0 := Or.inl (isW_of 352 (by decide +kernel) rfl)
theorem kf_X6_15 : LF RX6 15 6 1 := Or.inl (isW_of 354 (by decide +kernel) rfl)
theorem kf_X6_18 : LF RX6 18 6 2 := Or.inl (isW_of 356 (by decide +kernel) rfl)
theorem kf_X6_22 : LF RX6 22 6 3 := Or.inl (isW_of 360 (by decide +kernel) rfl)
theorem kf_X6_25 : LF RX6 25 6 4 := Or.inl (isW_of 362 (by decide +kernel) rfl)
theorem kf_X6_28 : LF RX6 28 6 5 := Or.inl (isW_of 364 (by decide +kernel) rfl)
theorem kf_X6_31 : LF RX6 31 6 6 := Or.inl (isW_of 366 (by decide +kernel) rfl)
theorem kf_X6_35 : LF RX6 35 5 16 := Or.inl (isW_of 201 (by decide +kernel) rfl)
theorem kf_X6_40 : LF RX6 40 6 7 := Or.inl (isW_of 369 (by decide +kernel) rfl)
theorem kf_X6_44 : LF RX6 44 6 8 := Or.inl (isW_of 371 (by decide +kernel) rfl)
theorem kf_X6_47 : LF RX6 47 6 9 := Or.inl (isW_of 373 (by decide +kernel) rfl)
theorem kf_X6_50 : LF RX6 50 6 10 := Or.inl (isW_of 375 (by decide +kernel) rfl)
theorem kf_X6_53 : LF RX6 53 6 12 := Or.inl (isW_of 378 (by decide +kernel) rfl)
theorem kf_X6_57 : LF RX6 57 5 7 := Or.inl (isW_of 164 (by decide +kernel) rfl)
theorem kf_X6_66 : LF RX6 66 5 9 := Or.inl (isW_of 174 (by decide +kernel) rfl)
theorem kf_X6_67 : LF RX6 67 6 13 := Or.inl (isW_of 379 (by decide +kernel) rfl)
theorem kf_X6_70 : LF RX6 70 6 14 := Or.inl (isW_of 380 (by decide +kernel) rfl)
theorem kf_X6_73 : LF RX6 73 6 11 := Or.inl (isW_of 377 (by decide +kernel) rfl)
theorem kf_X6_84 : LF RX6 84 5 11 := Or.inl (isW_of 184 (by decide +kernel) rfl)
theorem kf_X6_85 : LF RX6 85 5 12 := Or.inl (isW_of 188 (by decide +kernel) rfl)
theorem kf_X6_86 : LF RX6 86 5 0 := Or.inl (isW_of 142 (by decide +kernel) rfl)
theorem kf_X6_89 : LF RX6 89 5 13 := Or.inl (isW_of 192 (by decide +kernel) rfl)
theorem kf_X6_92 : LF RX6 92 5 15 := Or.inl (isW_of 198 (by decide +kernel) rfl)
theorem kf_X6_95 : LF RX6 95 5 14 := Or.inl (isW_of 195 (by decide +kernel) rfl)
theorem kf_X6_102 : LF RX6 102 5 8 := Or.inl (isW_of 169 (by decide +kernel) rfl)
theorem kf_X7_9 : LF RX7 9 7 0 := Or.inl (isW_of 276 (by decide +kernel) rfl)
theorem kf_X7_21 : LF RX7 21 7 1 := Or.inl (isW_of 277 (by decide +kernel) rfl)
theorem kf_X7_25 : LF RX7 25 7 2 := Or.inl (isW_of 278 (by decide +kernel) rfl)
theorem kf_X7_31 : LF RX7 31 7 4 := Or.inl (isW_of 282 (by decide +kernel) rfl)
theorem kf_X7_34 : LF RX7 34 7 5 := Or.inl (isW_of 283 (by decide +kernel) rfl)
theorem kf_X7_42 : LF RX7 42 7 3 := Or.inl (isW_of 280 (by decide +kernel) rfl)
theorem kf_X8_9 : LF RX8 9 8 0 := Or.inl (isW_of 337 (by decide +kernel) rfl)
theorem kf_X8_15 : LF RX8 15 8 1 := Or.inl (isW_of 338 (by decide +kernel) rfl)
theorem kf_X8_24 : LF RX8 24 5 6 := Or.inl (isW_of 160 (by decide +kernel) rfl)
theorem kf_X8_33 : LF RX8 33 5 5 := Or.inl (isW_of 157 (by decide +kernel) rfl)
theorem kf_X8_43 : LF RX8 43 5 3 := Or.inl (isW_of 151 (by decide +kernel) rfl)
theorem kf_X8_46 : LF RX8 46 5 4 := Or.inl (isW_of 154 (by decide +kernel) rfl)
theorem kf_X9_9 : LF RX9 9 9 0 := Or.inl (isW_of 476 (by decide +kernel) rfl)
theorem kf_X9_15 : LF RX9 15 9 1 := Or.inl (isW_of 478 (by decide +kernel) rfl)
theorem kf_X9_18 : LF RX9 18 9 2 := Or.inl (isW_of 480 (by decide +kernel) rfl)
theorem kf_X9_22 : LF RX9 22 9 3 := Or.inl (isW_of 482 (by decide +kernel) rfl)
theorem kf_X9_25 : LF RX9 25 9 4 := Or.inl (isW_of 484 (by decide +kernel) rfl)
theorem kf_X9_31 : LF RX9 31 8 1 := Or.inl (isW_of 339 (by decide +kernel) rfl)
theorem kf_X9_40 : LF RX9 40 5 6 := Or.inl (isW_of 161 (by decide +kernel) rfl)
theorem kA_X4_248 : isW (.methodLink RX4 248 arraycopyName) = true := isW_of 754 (by decide +kernel) rfl
theorem kA_X6_60 : isW (.methodLink RX6 60 arraycopyName) = true := isW_of 797 (by decide +kernel) rfl
theorem kQ_X12_71 : lkV RX12 71 yJ0_length_8abf5 cJ0_length_8abf5 1 (some .int) 0 = true := lkV_of 576 577 (lkM_of 1468 578 111 (by decide +kernel) (by decide +kernel) (by decide +kernel) (by decide +kernel) (by decide +kernel) (by decide)) (by decide +kernel) (by decide +kernel)
theorem kQ_X12_79 : lkV RX12 79 yJ0_charAt_5068e cJ0_charAt_5068e 2 (some .char) 1 = true := lkV_of 586 587 (lkM_of 1469 588 111 (by decide +kernel) (by decide +kernel) (by decide +kernel) (by decide +kernel) (by decide +kernel) (by decide)) (by decide +kernel) (by decide +kernel)
theorem kQ_X7_45 : lkV RX7 45 yJ0_length_8abf5 cJ0_length_8abf5 1 (some .int) 0 = true := lkV_of 576 577 (lkM_of 575 578 111 (by decide +kernel) (by decide +kernel) (by decide +kernel) (by decide +kernel) (by decide +kernel) (by decide)) (by decide +kernel) (by decide +kernel)
theorem kQ_X7_51 : lkV RX7 51 yJ0_charAt_5068e cJ0_charAt_5068e 2 (some .char) 1 = true := lkV_of 586 587 (lkM_of 585 588 111 (by decide +kernel) (by decide +kernel) (by decide +kernel) (by decide +kernel) (by decide +kernel) (by decide)) (by decide +kernel) (by decide +kernel)
theorem kS_X0_88 : lkS RX0 88 yJ9_max_7cf53 cJ9_max_7cf53 2 (some .int) 2 = true := lkS_of 850 (lkM_of 849 851 110 (by decide +kernel) (by decide +kernel) (by decide +kernel) (by decide +kernel) (by decide +kernel) (by decide)) (by decide +kernel)
theorem kS_X1_92 : lkS RX1 92 yJ9_max_7cf53 cJ9_max_7cf53 2 (some .int) 2 = true := lkS_of 850 (lkM_of 890 851 110 (by decide +kernel) (by decide +kernel) (by decide +kernel) (by decide +kernel) (by decide +kernel) (by decide)) (by decide +kernel)
theorem kS_X1_97 : lkS RX1 97 yJ9_min_7cf53 cJ9_min_7cf53 2 (some .int) 2 = true := lkS_of 558 (lkM_of 891 559 110 (by decide +kernel) (by decide +kernel) (by decide +kernel) (by decide +kernel) (by decide +kernel) (by decide)) (by decide +kernel)
theorem kS_X12_103 : lkS RX12 103 yX12_isDigit cX12_isDigit 1 (some .boolean) 1 = true := lkS_of 1450 (lkM_of 1449 1451 108 (by decide +kernel) (by decide +kernel) (by decide +kernel) (by decide +kernel) (by decide +kernel) (by decide)) (by decide +kernel)
theorem kS_X12_115 : lkS RX12 115 yX12_wordOf cX12_wordOf 4 (some .long) 1 = true := lkS_of 1466 (lkM_of 1465 1467 108 (by decide +kernel) (by decide +kernel) (by decide +kernel) (by decide +kernel) (by decide +kernel) (by decide)) (by decide +kernel)
theorem kS_X12_130 : lkS RX12 130 yX12_in cX12_in 3 (some .boolean) 3 = true := lkS_of 1535 (lkM_of 1534 1536 108 (by decide +kernel) (by decide +kernel) (by decide +kernel) (by decide +kernel) (by decide +kernel) (by decide)) (by decide +kernel)
theorem kS_X12_95 : lkS RX12 95 yX12_isLetter cX12_isLetter 1 (some .boolean) 1 = true := lkS_of 1446 (lkM_of 1445 1447 108 (by decide +kernel) (by decide +kernel) (by decide +kernel) (by decide +kernel) (by decide +kernel) (by decide)) (by decide +kernel)
theorem kS_X3_24 : lkS RX3 24 yJ7_fill_53178 cJ7_fill_53178 4 none 2 = true := lkS_of 547 (lkM_of 836 548 109 (by decide +kernel) (by decide +kernel) (by decide +kernel) (by decide +kernel) (by decide +kernel) (by decide)) (by decide +kernel)
theorem kS_X5_69 : lkS RX5 69 yJ7_fill_53178 cJ7_fill_53178 4 none 2 = true := lkS_of 547 (lkM_of 546 548 109 (by decide +kernel) (by decide +kernel) (by decide +kernel) (by decide +kernel) (by decide +kernel) (by decide)) (by decide +kernel)
theorem kS_X7_15 : lkS RX7 15 yJ9_min_7cf53 cJ9_min_7cf53 2 (some .int) 2 = true := lkS_of 558 (lkM_of 557 559 110 (by decide +kernel) (by decide +kernel) (by decide +kernel) (by decide +kernel) (by decide +kernel) (by decide)) (by decide +kernel)
theorem kS_X8_37 : lkS RX8 37 yJ7_fill_53178 cJ7_fill_53178 4 none 2 = true := lkS_of 547 (lkM_of 935 548 109 (by decide +kernel) (by decide +kernel) (by decide +kernel) (by decide +kernel) (by decide +kernel) (by decide)) (by decide +kernel)
theorem kV_X0_32 : lkV RX0 32 yX5_ofCart cX5_ofCart 3 (some .int) 2 = true := lkV_of 824 825 (lkM_of 831 826 98 (by decide +kernel) (by decide +kernel) (by decide +kernel) (by decide +kernel) (by decide +kernel) (by decide)) (by decide +kernel) (by decide +kernel)
theorem kV_X0_45 : lkV RX0 45 yX3_from cX3_from 9 none 2 = true := lkV_of 833 834 (lkM_of 832 835 106 (by decide +kernel) (by decide +kernel) (by decide +kernel) (by decide +kernel) (by decide +kernel) (by decide)) (by decide +kernel) (by decide +kernel)
theorem kV_X0_56 : lkV RX0 56 yX0_isOn cX0_isOn 2 (some .boolean) 1 = true := lkV_of 839 30 (lkM_of 837 840 105 (by decide +kernel) (by decide +kernel) (by decide +kernel) (by decide +kernel) (by decide +kernel) (by decide)) (by decide +kernel) (by decide +kernel)
theorem kV_X0_69 : lkV RX0 69 yX3_has cX3_has 2 (some .boolean) 1 = true := lkV_of 842 843 (lkM_of 841 844 106 (by decide +kernel) (by decide +kernel) (by decide +kernel) (by decide +kernel) (by decide +kernel) (by decide)) (by decide +kernel) (by decide +kernel)
theorem kV_X0_72 : lkV RX0 72 yX0_dayOfFreedom cX0_dayOfFreedom 4 (some .int) 1 = true := lkV_of 847 31 (lkM_of 845 848 105 (by decide +kernel) (by decide +kernel) (by decide +kernel) (by decide +kernel) (by decide +kernel) (by decide)) (by decide +kernel) (by decide +kernel)
theorem kV_X0_99 : lkV RX0 99 yX0_winner cX0_winner 8 (some .int) 1 = true := lkV_of 857 858 (lkM_of 856 859 105 (by decide +kernel) (by decide +kernel) (by decide +kernel) (by decide +kernel) (by decide +kernel) (by decide)) (by decide +kernel) (by decide +kernel)
theorem kV_X1_100 : lkV RX1 100 yX8_measure cX8_measure 10 none 3 = true := lkV_of 929 930 (lkM_of 928 931 103 (by decide +kernel) (by decide +kernel) (by decide +kernel) (by decide +kernel) (by decide +kernel) (by decide)) (by decide +kernel) (by decide +kernel)
theorem kV_X1_108 : lkV RX1 108 yX1_owedOnWay cX1_owedOnWay 5 (some .int) 3 = true := lkV_of 925 926 (lkM_of 924 927 102 (by decide +kernel) (by decide +kernel) (by decide +kernel) (by decide +kernel) (by decide +kernel) (by decide)) (by decide +kernel) (by decide +kernel)
theorem kV_X1_111 : lkV RX1 111 yX1_owedByOwner cX1_owedByOwner 3 (some .int) 1 = true := lkV_of 921 922 (lkM_of 968 923 102 (by decide +kernel) (by decide +kernel) (by decide +kernel) (by decide +kernel) (by decide +kernel) (by decide)) (by decide +kernel) (by decide +kernel)
theorem kV_X1_120 : lkV RX1 120 yX1_allCoin cX1_allCoin 4 (some .int) 0 = true := lkV_of 980 981 (lkM_of 999 982 102 (by decide +kernel) (by decide +kernel) (by decide +kernel) (by decide +kernel) (by decide +kernel) (by decide)) (by decide +kernel) (by decide +kernel)
theorem kV_X1_130 : lkV RX1 130 yX1_moved cX1_moved 7 (some .int) 1 = true := lkV_of 996 997 (lkM_of 995 998 102 (by decide +kernel) (by decide +kernel) (by decide +kernel) (by decide +kernel) (by decide +kernel) (by decide)) (by decide +kernel) (by decide +kernel)
theorem kV_X1_40 : lkV RX1 40 yX6_open cX6_open 4 none 2 = true := lkV_of 794 795 (lkM_of 793 796 104 (by decide +kernel) (by decide +kernel) (by decide +kernel) (by decide +kernel) (by decide +kernel) (by decide)) (by decide +kernel) (by decide +kernel)
theorem kV_X1_44 : lkV RX1 44 yX6_sit cX6_sit 3 none 1 = true := lkV_of 803 804 (lkM_of 802 805 104 (by decide +kernel) (by decide +kernel) (by decide +kernel) (by decide +kernel) (by decide +kernel) (by decide)) (by decide +kernel) (by decide +kernel)
theorem kV_X1_52 : lkV RX1 52 yX3_from cX3_from 9 none 2 = true := lkV_of 833 834 (lkM_of 906 835 106 (by decide +kernel) (by decide +kernel) (by decide +kernel) (by decide +kernel) (by decide +kernel) (by decide)) (by decide +kernel) (by decide +kernel)
theorem kV_X1_58 : lkV RX1 58 yX5_ofCart cX5_ofCart 3 (some .int) 2 = true := lkV_of 824 825 (lkM_of 823 826 98 (by decide +kernel) (by decide +kernel) (by decide +kernel) (by decide +kernel) (by decide +kernel) (by decide)) (by decide +kernel) (by decide +kernel)
theorem kV_X1_71 : lkV RX1 71 yX0_hear cX0_hear 10 none 3 = true := lkV_of 828 829 (lkM_of 827 830 105 (by decide +kernel) (by decide +kernel) (by decide +kernel) (by decide +kernel) (by decide +kernel) (by decide)) (by decide +kernel) (by decide +kernel)
theorem kV_X1_75 : lkV RX1 75 yX1_hearOwner cX1_hearOwner 3 none 1 = true := lkV_of 821 29 (lkM_of 819 822 102 (by decide +kernel) (by decide +kernel) (by decide +kernel) (by decide +kernel) (by decide +kernel) (by decide)) (by decide +kernel) (by decide +kernel)
theorem kV_X1_78 : lkV RX1 78 yX0_owedAt cX0_owedAt 4 (some .int) 1 = true := lkV_of 853 854 (lkM_of 852 855 105 (by decide +kernel) (by decide +kernel) (by decide +kernel) (by decide +kernel) (by decide +kernel) (by decide)) (by decide +kernel) (by decide +kernel)
theorem kV_X1_82 : lkV RX1 82 yX0_winner cX0_winner 8 (some .int) 1 = true := lkV_of 857 858 (lkM_of 868 859 105 (by decide +kernel) (by decide +kernel) (by decide +kernel) (by decide +kernel) (by decide +kernel) (by decide)) (by decide +kernel) (by decide +kernel)
theorem kV_X1_85 : lkV RX1 85 yX1_owedAt cX1_owedAt 4 (some .int) 3 = true := lkV_of 799 800 (lkM_of 885 801 102 (by decide +kernel) (by decide +kernel) (by decide +kernel) (by decide +kernel) (by decide +kernel) (by decide)) (by decide +kernel) (by decide +kernel)
theorem kV_X1_88 : lkV RX1 88 yX6_nextChoice cX6_nextChoice 3 (some .boolean) 0 = true := lkV_of 887 888 (lkM_of 886 889 104 (by decide +kernel) (by decide +kernel) (by decide +kernel) (by decide +kernel) (by decide +kernel) (by decide)) (by decide +kernel) (by decide +kernel)
theorem kV_X10_100 : lkV RX10 100 yX1_winner cX1_winner 4 (some .int) 3 = true := lkV_of 865 866 (lkM_of 864 867 102 (by decide +kernel) (by decide +kernel) (by decide +kernel) (by decide +kernel) (by decide +kernel) (by decide)) (by decide +kernel) (by decide +kernel)
theorem kV_X10_103 : lkV RX10 103 yX5_choices cX5_choices 3 (some .int) 0 = true := lkV_of 878 879 (lkM_of 877 880 98 (by decide +kernel) (by decide +kernel) (by decide +kernel) (by decide +kernel) (by decide +kernel) (by decide)) (by decide +kernel) (by decide +kernel)
theorem kV_X10_107 : lkV RX10 107 yX1_extreme cX1_extreme 8 (some .int) 4 = true := lkV_of 882 883 (lkM_of 881 884 102 (by decide +kernel) (by decide +kernel) (by decide +kernel) (by decide +kernel) (by decide +kernel) (by decide)) (by decide +kernel) (by decide +kernel)
theorem kV_X10_111 : lkV RX10 111 yX5_hasGrant cX5_hasGrant 2 (some .boolean) 1 = true := lkV_of 807 808 (lkM_of 896 809 98 (by decide +kernel) (by decide +kernel) (by decide +kernel) (by decide +kernel) (by decide +kernel) (by decide)) (by decide +kernel) (by decide +kernel)
theorem kV_X10_119 : lkV RX10 119 yX6_sit cX6_sit 3 none 1 = true := lkV_of 803 804 (lkM_of 897 805 104 (by decide +kernel) (by decide +kernel) (by decide +kernel) (by decide +kernel) (by decide +kernel) (by decide)) (by decide +kernel) (by decide +kernel)
theorem kV_X10_128 : lkV RX10 128 yX1_reachFrom cX1_reachFrom 3 (some (.object "TollBars$Reach")) 2 = true := lkV_of 903 904 (lkM_of 902 905 102 (by decide +kernel) (by decide +kernel) (by decide +kernel) (by decide +kernel) (by decide +kernel) (by decide)) (by decide +kernel) (by decide +kernel)
theorem kV_X10_140 : lkV RX10 140 yX3_leadsBack cX3_leadsBack 6 (some .boolean) 2 = true := lkV_of 912 913 (lkM_of 911 914 106 (by decide +kernel) (by decide +kernel) (by decide +kernel) (by decide +kernel) (by decide +kernel) (by decide)) (by decide +kernel) (by decide +kernel)
theorem kV_X10_144 : lkV RX10 144 yX1_owedByOwner cX1_owedByOwner 3 (some .int) 1 = true := lkV_of 921 922 (lkM_of 920 923 102 (by decide +kernel) (by decide +kernel) (by decide +kernel) (by decide +kernel) (by decide +kernel) (by decide)) (by decide +kernel) (by decide +kernel)
theorem kV_X10_151 : lkV RX10 151 yX5_ofCart cX5_ofCart 3 (some .int) 2 = true := lkV_of 824 825 (lkM_of 937 826 98 (by decide +kernel) (by decide +kernel) (by decide +kernel) (by decide +kernel) (by decide +kernel) (by decide)) (by decide +kernel) (by decide +kernel)
theorem kV_X10_155 : lkV RX10 155 yX9_trace cX9_trace 7 none 4 = true := lkV_of 939 940 (lkM_of 938 941 107 (by decide +kernel) (by decide +kernel) (by decide +kernel) (by decide +kernel) (by decide +kernel) (by decide)) (by decide +kernel) (by decide +kernel)
theorem kV_X10_168 : lkV RX10 168 yX1_cheapestMan cX1_cheapestMan 6 (some .int) 1 = true := lkV_of 965 966 (lkM_of 964 967 102 (by decide +kernel) (by decide +kernel) (by decide +kernel) (by decide +kernel) (by decide +kernel) (by decide)) (by decide +kernel) (by decide +kernel)
theorem kV_X10_172 : lkV RX10 172 yX1_owedOnWay cX1_owedOnWay 5 (some .int) 3 = true := lkV_of 925 926 (lkM_of 974 927 102 (by decide +kernel) (by decide +kernel) (by decide +kernel) (by decide +kernel) (by decide +kernel) (by decide)) (by decide +kernel) (by decide +kernel)
theorem kV_X10_175 : lkV RX10 175 yX1_allCoin cX1_allCoin 4 (some .int) 0 = true := lkV_of 980 981 (lkM_of 979 982 102 (by decide +kernel) (by decide +kernel) (by decide +kernel) (by decide +kernel) (by decide +kernel) (by decide)) (by decide +kernel) (by decide +kernel)
theorem kV_X10_181 : lkV RX10 181 yX1_greatestMover cX1_greatestMover 5 (some .int) 0 = true := lkV_of 992 993 (lkM_of 991 994 102 (by decide +kernel) (by decide +kernel) (by decide +kernel) (by decide +kernel) (by decide +kernel) (by decide)) (by decide +kernel) (by decide +kernel)
theorem kV_X10_184 : lkV RX10 184 yX1_moved cX1_moved 7 (some .int) 1 = true := lkV_of 996 997 (lkM_of 1004 998 102 (by decide +kernel) (by decide +kernel) (by decide +kernel) (by decide +kernel) (by decide +kernel) (by decide)) (by decide +kernel) (by decide +kernel)
theorem kV_X10_187 : lkV RX10 187 yX6_suppose cX6_suppose 4 none 3 = true := lkV_of 1010 1011 (lkM_of 1009 1012 104 (by decide +kernel) (by decide +kernel) (by decide +kernel) (by decide +kernel) (by decide +kernel) (by decide)) (by decide +kernel) (by decide +kernel)
theorem kV_X10_191 : lkV RX10 191 yX10_firstUnlikeBridge cX10_firstUnlikeBridge 7 (some .int) 3 = true := lkV_of 1019 32 (lkM_of 1017 1020 97 (by decide +kernel) (by decide +kernel) (by decide +kernel) (by decide +kernel) (by decide +kernel) (by decide)) (by decide +kernel) (by decide +kernel)
theorem kV_X10_210 : lkV RX10 210 yX5_renewalsOf cX5_renewalsOf 4 (some .int) 1 = true := lkV_of 1038 1039 (lkM_of 1037 1040 98 (by decide +kernel) (by decide +kernel) (by decide +kernel) (by decide +kernel) (by decide +kernel) (by decide)) (by decide +kernel) (by decide +kernel)
theorem kV_X10_52 : lkV RX10 52 yX10_putBytes cX10_putBytes 3 none 1 = true := lkV_of 528 0 (lkM_of 526 529 97 (by decide +kernel) (by decide +kernel) (by decide +kernel) (by decide +kernel) (by decide +kernel) (by decide)) (by decide +kernel) (by decide +kernel)
theorem kV_X10_56 : lkV RX10 56 yX10_refused cX10_refused 2 (some .int) 1 = true := lkV_of 536 1 (lkM_of 534 537 97 (by decide +kernel) (by decide +kernel) (by decide +kernel) (by decide +kernel) (by decide +kernel) (by decide)) (by decide +kernel) (by decide +kernel)
theorem kV_X10_60 : lkV RX10 60 yX4_read cX4_read 5 (some .boolean) 2 = true := lkV_of 539 540 (lkM_of 538 541 99 (by decide +kernel) (by decide +kernel) (by decide +kernel) (by decide +kernel) (by decide +kernel) (by decide)) (by decide +kernel) (by decide +kernel)
theorem kV_X10_64 : lkV RX10 64 yX9_forget cX9_forget 1 none 0 = true := lkV_of 762 763 (lkM_of 761 764 107 (by decide +kernel) (by decide +kernel) (by decide +kernel) (by decide +kernel) (by decide +kernel) (by decide)) (by decide +kernel) (by decide +kernel)
theorem kV_X10_80 : lkV RX10 80 yX10_knownCase cX10_knownCase 4 (some .boolean) 3 = true := lkV_of 779 26 (lkM_of 777 780 97 (by decide +kernel) (by decide +kernel) (by decide +kernel) (by decide +kernel) (by decide +kernel) (by decide)) (by decide +kernel) (by decide +kernel)
theorem kV_X10_84 : lkV RX10 84 yX10_admitted cX10_admitted 3 (some .boolean) 2 = true := lkV_of 787 27 (lkM_of 785 788 97 (by decide +kernel) (by decide +kernel) (by decide +kernel) (by decide +kernel) (by decide +kernel) (by decide)) (by decide +kernel) (by decide +kernel)
theorem kV_X10_88 : lkV RX10 88 yX1_open cX1_open 3 none 2 = true := lkV_of 790 791 (lkM_of 789 792 102 (by decide +kernel) (by decide +kernel) (by decide +kernel) (by decide +kernel) (by decide +kernel) (by decide)) (by decide +kernel) (by decide +kernel)
theorem kV_X10_92 : lkV RX10 92 yX1_owedAt cX1_owedAt 4 (some .int) 3 = true := lkV_of 799 800 (lkM_of 798 801 102 (by decide +kernel) (by decide +kernel) (by decide +kernel) (by decide +kernel) (by decide +kernel) (by decide)) (by decide +kernel) (by decide +kernel)
theorem kV_X10_96 : lkV RX10 96 yX5_has cX5_has 3 (some .boolean) 2 = true := lkV_of 782 783 (lkM_of 781 784 98 (by decide +kernel) (by decide +kernel) (by decide +kernel) (by decide +kernel) (by decide +kernel) (by decide)) (by decide +kernel) (by decide +kernel)
theorem kV_X12_119 : lkV RX12 119 yX12_isWord cX12_isWord 2 (some .boolean) 1 = true := lkV_of 1463 39 (lkM_of 1461 1464 108 (by decide +kernel) (by decide +kernel) (by decide +kernel) (by decide +kernel) (by decide +kernel) (by decide)) (by decide +kernel) (by decide +kernel)
theorem kV_X12_123 : lkV RX12 123 yX12_goesOn cX12_goesOn 3 none 0 = true := lkV_of 1439 35 (lkM_of 1437 1440 108 (by decide +kernel) (by decide +kernel) (by decide +kernel) (by decide +kernel) (by decide +kernel) (by decide)) (by decide +kernel) (by decide +kernel)
theorem kV_X12_126 : lkV RX12 126 yX12_wrong cX12_wrong 2 none 1 = true := lkV_of 1480 42 (lkM_of 1478 1481 108 (by decide +kernel) (by decide +kernel) (by decide +kernel) (by decide +kernel) (by decide +kernel) (by decide)) (by decide +kernel) (by decide +kernel)
theorem kV_X12_163 : lkV RX12 163 yX12_isName cX12_isName 1 (some .boolean) 0 = true := lkV_of 1488 44 (lkM_of 1486 1489 108 (by decide +kernel) (by decide +kernel) (by decide +kernel) (by decide +kernel) (by decide +kernel) (by decide)) (by decide +kernel) (by decide +kernel)
theorem kV_X12_171 : lkV RX12 171 yX11_find cX11_find 4 (some .int) 1 = true := lkV_of 1505 1506 (lkM_of 1504 1507 116 (by decide +kernel) (by decide +kernel) (by decide +kernel) (by decide +kernel) (by decide +kernel) (by decide)) (by decide +kernel) (by decide +kernel)
theorem kV_X12_190 : lkV RX12 190 yX12_known cX12_known 3 (some .int) 1 = true := lkV_of 1527 49 (lkM_of 1525 1528 108 (by decide +kernel) (by decide +kernel) (by decide +kernel) (by decide +kernel) (by decide +kernel) (by decide)) (by decide +kernel) (by decide +kernel)
theorem kV_X12_193 : lkV RX12 193 yX12_readLine cX12_readLine 1 none 0 = true := lkV_of 1458 38 (lkM_of 1456 1459 108 (by decide +kernel) (by decide +kernel) (by decide +kernel) (by decide +kernel) (by decide +kernel) (by decide)) (by decide +kernel) (by decide +kernel)
theorem kV_X12_202 : lkV RX12 202 yX12_readPlace cX12_readPlace 1 none 0 = true := lkV_of 1472 40 (lkM_of 1470 1473 108 (by decide +kernel) (by decide +kernel) (by decide +kernel) (by decide +kernel) (by decide +kernel) (by decide)) (by decide +kernel) (by decide +kernel)
theorem kV_X12_205 : lkV RX12 205 yX12_readGoods cX12_readGoods 1 none 0 = true := lkV_of 1510 45 (lkM_of 1508 1511 108 (by decide +kernel) (by decide +kernel) (by decide +kernel) (by decide +kernel) (by decide +kernel) (by decide)) (by decide +kernel) (by decide +kernel)
theorem kV_X12_208 : lkV RX12 208 yX12_readMan cX12_readMan 3 none 0 = true := lkV_of 1514 46 (lkM_of 1512 1515 108 (by decide +kernel) (by decide +kernel) (by decide +kernel) (by decide +kernel) (by decide +kernel) (by decide)) (by decide +kernel) (by decide +kernel)
theorem kV_X12_211 : lkV RX12 211 yX12_readRoad cX12_readRoad 1 none 0 = true := lkV_of 1539 51 (lkM_of 1537 1540 108 (by decide +kernel) (by decide +kernel) (by decide +kernel) (by decide +kernel) (by decide +kernel) (by decide)) (by decide +kernel) (by decide +kernel)
theorem kV_X12_214 : lkV RX12 214 yX12_readBridge cX12_readBridge 1 none 0 = true := lkV_of 1552 54 (lkM_of 1550 1553 108 (by decide +kernel) (by decide +kernel) (by decide +kernel) (by decide +kernel) (by decide +kernel) (by decide)) (by decide +kernel) (by decide +kernel)
theorem kV_X12_217 : lkV RX12 217 yX12_readTake cX12_readTake 4 none 0 = true := lkV_of 1557 55 (lkM_of 1555 1558 108 (by decide +kernel) (by decide +kernel) (by decide +kernel) (by decide +kernel) (by decide +kernel) (by decide)) (by decide +kernel) (by decide +kernel)
theorem kV_X12_220 : lkV RX12 220 yX12_readFree cX12_readFree 5 none 0 = true := lkV_of 1577 59 (lkM_of 1575 1578 108 (by decide +kernel) (by decide +kernel) (by decide +kernel) (by decide +kernel) (by decide +kernel) (by decide)) (by decide +kernel) (by decide +kernel)
theorem kV_X12_223 : lkV RX12 223 yX12_readAlike cX12_readAlike 4 none 0 = true := lkV_of 1585 60 (lkM_of 1583 1586 108 (by decide +kernel) (by decide +kernel) (by decide +kernel) (by decide +kernel) (by decide +kernel) (by decide)) (by decide +kernel) (by decide +kernel)
theorem kV_X12_226 : lkV RX12 226 yX12_readRenewal cX12_readRenewal 4 none 0 = true := lkV_of 1590 61 (lkM_of 1588 1591 108 (by decide +kernel) (by decide +kernel) (by decide +kernel) (by decide +kernel) (by decide +kernel) (by decide)) (by decide +kernel) (by decide +kernel)
theorem kV_X12_229 : lkV RX12 229 yX12_readLoss cX12_readLoss 3 none 0 = true := lkV_of 1597 62 (lkM_of 1595 1598 108 (by decide +kernel) (by decide +kernel) (by decide +kernel) (by decide +kernel) (by decide +kernel) (by decide)) (by decide +kernel) (by decide +kernel)
theorem kV_X12_232 : lkV RX12 232 yX12_readLaw cX12_readLaw 5 none 0 = true := lkV_of 1601 63 (lkM_of 1599 1602 108 (by decide +kernel) (by decide +kernel) (by decide +kernel) (by decide +kernel) (by decide +kernel) (by decide)) (by decide +kernel) (by decide +kernel)
theorem kV_X12_235 : lkV RX12 235 yX12_readCart cX12_readCart 9 none 0 = true := lkV_of 1616 65 (lkM_of 1614 1617 108 (by decide +kernel) (by decide +kernel) (by decide +kernel) (by decide +kernel) (by decide +kernel) (by decide)) (by decide +kernel) (by decide +kernel)
theorem kV_X12_238 : lkV RX12 238 yX12_begins cX12_begins 3 none 2 = true := lkV_of 1476 41 (lkM_of 1474 1477 108 (by decide +kernel) (by decide +kernel) (by decide +kernel) (by decide +kernel) (by decide +kernel) (by decide)) (by decide +kernel) (by decide +kernel)
theorem kV_X12_242 : lkV RX12 242 yX12_readFresh cX12_readFresh 3 none 2 = true := lkV_of 1484 43 (lkM_of 1482 1485 108 (by decide +kernel) (by decide +kernel) (by decide +kernel) (by decide +kernel) (by decide +kernel) (by decide)) (by decide +kernel) (by decide +kernel)
theorem kV_X12_252 : lkV RX12 252 yX12_needs cX12_needs 2 none 1 = true := lkV_of 1519 47 (lkM_of 1517 1520 108 (by decide +kernel) (by decide +kernel) (by decide +kernel) (by decide +kernel) (by decide +kernel) (by decide)) (by decide +kernel) (by decide +kernel)
theorem kV_X12_256 : lkV RX12 256 yX12_readKnown cX12_readKnown 3 (some .int) 1 = true := lkV_of 1523 48 (lkM_of 1521 1524 108 (by decide +kernel) (by decide +kernel) (by decide +kernel) (by decide +kernel) (by decide +kernel) (by decide)) (by decide +kernel) (by decide +kernel)
theorem kV_X12_261 : lkV RX12 261 yX12_readWhole cX12_readWhole 4 (some .int) 2 = true := lkV_of 1532 50 (lkM_of 1530 1533 108 (by decide +kernel) (by decide +kernel) (by decide +kernel) (by decide +kernel) (by decide +kernel) (by decide)) (by decide +kernel) (by decide +kernel)
theorem kV_X12_271 : lkV RX12 271 yX12_readOther cX12_readOther 3 (some .int) 1 = true := lkV_of 1547 53 (lkM_of 1545 1548 108 (by decide +kernel) (by decide +kernel) (by decide +kernel) (by decide +kernel) (by decide +kernel) (by decide)) (by decide +kernel) (by decide +kernel)
theorem kV_X12_294 : lkV RX12 294 yX12_readEdge cX12_readEdge 5 none 1 = true := lkV_of 1543 52 (lkM_of 1541 1544 108 (by decide +kernel) (by decide +kernel) (by decide +kernel) (by decide +kernel) (by decide +kernel) (by decide)) (by decide +kernel) (by decide +kernel)
theorem kV_X12_302 : lkV RX12 302 yX12_eats cX12_eats 3 (some .boolean) 1 = true := lkV_of 1567 57 (lkM_of 1565 1568 108 (by decide +kernel) (by decide +kernel) (by decide +kernel) (by decide +kernel) (by decide +kernel) (by decide)) (by decide +kernel) (by decide +kernel)
theorem kV_X12_319 : lkV RX12 319 yX12_readGood cX12_readGood 1 (some .int) 0 = true := lkV_of 1563 56 (lkM_of 1561 1564 108 (by decide +kernel) (by decide +kernel) (by decide +kernel) (by decide +kernel) (by decide +kernel) (by decide)) (by decide +kernel) (by decide +kernel)
theorem kV_X12_324 : lkV RX12 324 yX12_readDay cX12_readDay 4 none 1 = true := lkV_of 1572 58 (lkM_of 1570 1573 108 (by decide +kernel) (by decide +kernel) (by decide +kernel) (by decide +kernel) (by decide +kernel) (by decide)) (by decide +kernel) (by decide +kernel)
theorem kV_X12_378 : lkV RX12 378 yX12_readEither cX12_readEither 4 (some .boolean) 2 = true := lkV_of 1607 64 (lkM_of 1605 1608 108 (by decide +kernel) (by decide +kernel) (by decide +kernel) (by decide +kernel) (by decide +kernel) (by decide)) (by decide +kernel) (by decide +kernel)
theorem kV_X12_469 : lkV RX12 469 yX12_renewalOf cX12_renewalOf 5 (some .int) 2 = true := lkV_of 1679 77 (lkM_of 1677 1680 108 (by decide +kernel) (by decide +kernel) (by decide +kernel) (by decide +kernel) (by decide +kernel) (by decide)) (by decide +kernel) (by decide +kernel)
theorem kV_X12_472 : lkV RX12 472 yX12_howOf cX12_howOf 2 (some .int) 1 = true := lkV_of 1683 78 (lkM_of 1681 1684 108 (by decide +kernel) (by decide +kernel) (by decide +kernel) (by decide +kernel) (by decide +kernel) (by decide)) (by decide +kernel) (by decide +kernel)
theorem kV_X12_478 : lkV RX12 478 yX12_inForce cX12_inForce 3 (some .boolean) 2 = true := lkV_of 1671 75 (lkM_of 1669 1672 108 (by decide +kernel) (by decide +kernel) (by decide +kernel) (by decide +kernel) (by decide +kernel) (by decide)) (by decide +kernel) (by decide +kernel)
theorem kV_X12_482 : lkV RX12 482 yX12_isReached cX12_isReached 3 (some .boolean) 1 = true := lkV_of 1695 81 (lkM_of 1693 1696 108 (by decide +kernel) (by decide +kernel) (by decide +kernel) (by decide +kernel) (by decide +kernel) (by decide)) (by decide +kernel) (by decide +kernel)
theorem kV_X12_485 : lkV RX12 485 yX12_goodsOf cX12_goodsOf 3 (some .int) 2 = true := lkV_of 1675 76 (lkM_of 1673 1676 108 (by decide +kernel) (by decide +kernel) (by decide +kernel) (by decide +kernel) (by decide +kernel) (by decide)) (by decide +kernel) (by decide +kernel)
theorem kV_X12_488 : lkV RX12 488 yX12_dayBy cX12_dayBy 4 (some .int) 2 = true := lkV_of 1703 83 (lkM_of 1701 1704 108 (by decide +kernel) (by decide +kernel) (by decide +kernel) (by decide +kernel) (by decide +kernel) (by decide)) (by decide +kernel) (by decide +kernel)
theorem kV_X12_491 : lkV RX12 491 yX12_reach cX12_reach 6 none 2 = true := lkV_of 1691 80 (lkM_of 1689 1692 108 (by decide +kernel) (by decide +kernel) (by decide +kernel) (by decide +kernel) (by decide +kernel) (by decide)) (by decide +kernel) (by decide +kernel)
theorem kV_X12_494 : lkV RX12 494 yX12_beats cX12_beats 12 (some .boolean) 5 = true := lkV_of 1699 82 (lkM_of 1697 1700 108 (by decide +kernel) (by decide +kernel) (by decide +kernel) (by decide +kernel) (by decide +kernel) (by decide)) (by decide +kernel) (by decide +kernel)
theorem kV_X12_498 : lkV RX12 498 yX12_winner cX12_winner 8 (some .int) 3 = true := lkV_of 1687 79 (lkM_of 1685 1688 108 (by decide +kernel) (by decide +kernel) (by decide +kernel) (by decide +kernel) (by decide +kernel) (by decide)) (by decide +kernel) (by decide +kernel)
theorem kV_X12_502 : lkV RX12 502 yX11_isGrant cX11_isGrant 2 (some .boolean) 1 = true := lkV_of 1722 1723 (lkM_of 1721 1724 116 (by decide +kernel) (by decide +kernel) (by decide +kernel) (by decide +kernel) (by decide +kernel) (by decide)) (by decide +kernel) (by decide +kernel)
theorem kV_X12_505 : lkV RX12 505 yX12_isCart cX12_isCart 2 (some .boolean) 1 = true := lkV_of 1643 68 (lkM_of 1641 1644 108 (by decide +kernel) (by decide +kernel) (by decide +kernel) (by decide +kernel) (by decide +kernel) (by decide)) (by decide +kernel) (by decide +kernel)
theorem kV_X12_508 : lkV RX12 508 yX12_isBridge cX12_isBridge 2 (some .boolean) 1 = true := lkV_of 1647 69 (lkM_of 1645 1648 108 (by decide +kernel) (by decide +kernel) (by decide +kernel) (by decide +kernel) (by decide +kernel) (by decide)) (by decide +kernel) (by decide +kernel)
theorem kV_X12_511 : lkV RX12 511 yX12_isLaw cX12_isLaw 2 (some .boolean) 1 = true := lkV_of 1651 70 (lkM_of 1649 1652 108 (by decide +kernel) (by decide +kernel) (by decide +kernel) (by decide +kernel) (by decide +kernel) (by decide)) (by decide +kernel) (by decide +kernel)
theorem kV_X12_514 : lkV RX12 514 yX12_lays cX12_lays 3 none 1 = true := lkV_of 1659 72 (lkM_of 1657 1660 108 (by decide +kernel) (by decide +kernel) (by decide +kernel) (by decide +kernel) (by decide +kernel) (by decide)) (by decide +kernel) (by decide +kernel)
theorem kV_X12_517 : lkV RX12 517 yX12_names cX12_names 2 none 1 = true := lkV_of 1663 73 (lkM_of 1661 1664 108 (by decide +kernel) (by decide +kernel) (by decide +kernel) (by decide +kernel) (by decide +kernel) (by decide)) (by decide +kernel) (by decide +kernel)
theorem kV_X12_519 : lkV RX12 519 yX12_refusesOwes cX12_refusesOwes 5 (some .int) 4 = true := lkV_of 1639 67 (lkM_of 1637 1640 108 (by decide +kernel) (by decide +kernel) (by decide +kernel) (by decide +kernel) (by decide +kernel) (by decide)) (by decide +kernel) (by decide +kernel)
theorem kV_X12_523 : lkV RX12 523 yX12_laysFor cX12_laysFor 3 none 2 = true := lkV_of 1655 71 (lkM_of 1653 1656 108 (by decide +kernel) (by decide +kernel) (by decide +kernel) (by decide +kernel) (by decide +kernel) (by decide)) (by decide +kernel) (by decide +kernel)
theorem kV_X12_526 : lkV RX12 526 yX12_owed cX12_owed 7 (some .int) 3 = true := lkV_of 1667 74 (lkM_of 1665 1668 108 (by decide +kernel) (by decide +kernel) (by decide +kernel) (by decide +kernel) (by decide +kernel) (by decide)) (by decide +kernel) (by decide +kernel)
theorem kV_X12_529 : lkV RX12 529 yX12_choices cX12_choices 3 (some .int) 0 = true := lkV_of 1719 84 (lkM_of 1717 1720 108 (by decide +kernel) (by decide +kernel) (by decide +kernel) (by decide +kernel) (by decide +kernel) (by decide)) (by decide +kernel) (by decide +kernel)
theorem kV_X12_532 : lkV RX12 532 yX12_isGrant cX12_isGrant 2 (some .boolean) 1 = true := lkV_of 1731 85 (lkM_of 1729 1732 108 (by decide +kernel) (by decide +kernel) (by decide +kernel) (by decide +kernel) (by decide +kernel) (by decide)) (by decide +kernel) (by decide +kernel)
theorem kV_X12_533 : lkV RX12 533 yX12_isPlace cX12_isPlace 2 (some .boolean) 1 = true := lkV_of 1739 86 (lkM_of 1737 1740 108 (by decide +kernel) (by decide +kernel) (by decide +kernel) (by decide +kernel) (by decide +kernel) (by decide)) (by decide +kernel) (by decide +kernel)
theorem kV_X12_545 : lkV RX12 545 yX12_weighs cX12_weighs 7 none 1 = true := lkV_of 1755 88 (lkM_of 1753 1756 108 (by decide +kernel) (by decide +kernel) (by decide +kernel) (by decide +kernel) (by decide +kernel) (by decide)) (by decide +kernel) (by decide +kernel)
theorem kV_X12_548 : lkV RX12 548 yX12_arrives cX12_arrives 6 none 1 = true := lkV_of 1759 89 (lkM_of 1757 1760 108 (by decide +kernel) (by decide +kernel) (by decide +kernel) (by decide +kernel) (by decide +kernel) (by decide)) (by decide +kernel) (by decide +kernel)
theorem kV_X12_551 : lkV RX12 551 yX12_isWalked cX12_isWalked 4 (some .boolean) 2 = true := lkV_of 1763 90 (lkM_of 1761 1764 108 (by decide +kernel) (by decide +kernel) (by decide +kernel) (by decide +kernel) (by decide +kernel) (by decide)) (by decide +kernel) (by decide +kernel)
theorem kV_X12_554 : lkV RX12 554 yX12_finds cX12_finds 6 (some .boolean) 1 = true := lkV_of 1751 87 (lkM_of 1749 1752 108 (by decide +kernel) (by decide +kernel) (by decide +kernel) (by decide +kernel) (by decide +kernel) (by decide)) (by decide +kernel) (by decide +kernel)
theorem kV_X12_557 : lkV RX12 557 yX12_lost cX12_lost 2 (some .int) 1 = true := lkV_of 1783 91 (lkM_of 1781 1784 108 (by decide +kernel) (by decide +kernel) (by decide +kernel) (by decide +kernel) (by decide +kernel) (by decide)) (by decide +kernel) (by decide +kernel)
theorem kV_X12_559 : lkV RX12 559 yX12_coins cX12_coins 3 (some .int) 0 = true := lkV_of 1792 92 (lkM_of 1790 1793 108 (by decide +kernel) (by decide +kernel) (by decide +kernel) (by decide +kernel) (by decide +kernel) (by decide)) (by decide +kernel) (by decide +kernel)
theorem kV_X12_562 : lkV RX12 562 yX12_swing cX12_swing 8 (some .int) 2 = true := lkV_of 1804 93 (lkM_of 1802 1805 108 (by decide +kernel) (by decide +kernel) (by decide +kernel) (by decide +kernel) (by decide +kernel) (by decide)) (by decide +kernel) (by decide +kernel)
theorem kV_X12_565 : lkV RX12 565 yX12_denied cX12_denied 2 (some .boolean) 1 = true := lkV_of 1824 94 (lkM_of 1822 1825 108 (by decide +kernel) (by decide +kernel) (by decide +kernel) (by decide +kernel) (by decide +kernel) (by decide)) (by decide +kernel) (by decide +kernel)
theorem kV_X12_568 : lkV RX12 568 yX12_granted cX12_granted 1 (some .boolean) 0 = true := lkV_of 1828 95 (lkM_of 1826 1829 108 (by decide +kernel) (by decide +kernel) (by decide +kernel) (by decide +kernel) (by decide +kernel) (by decide)) (by decide +kernel) (by decide +kernel)
theorem kV_X12_60 : lkV RX12 60 yX12_refused cX12_refused 2 (some .int) 1 = true := lkV_of 1266 34 (lkM_of 1264 1267 108 (by decide +kernel) (by decide +kernel) (by decide +kernel) (by decide +kernel) (by decide +kernel) (by decide)) (by decide +kernel) (by decide +kernel)
theorem kV_X12_65 : lkV RX12 65 yX12_done cX12_done 2 (some .int) 1 = true := lkV_of 1623 66 (lkM_of 1621 1624 108 (by decide +kernel) (by decide +kernel) (by decide +kernel) (by decide +kernel) (by decide +kernel) (by decide)) (by decide +kernel) (by decide +kernel)
theorem kV_X12_89 : lkV RX12 89 yX12_byteAt cX12_byteAt 2 (some .int) 1 = true := lkV_of 1443 36 (lkM_of 1441 1444 108 (by decide +kernel) (by decide +kernel) (by decide +kernel) (by decide +kernel) (by decide +kernel) (by decide)) (by decide +kernel) (by decide +kernel)
theorem kV_X2_26 : lkV RX2 26 yX2_indexOf cX2_indexOf 4 (some .int) 1 = true := lkV_of 647 648 (lkM_of 667 649 100 (by decide +kernel) (by decide +kernel) (by decide +kernel) (by decide +kernel) (by decide +kernel) (by decide)) (by decide +kernel) (by decide +kernel)
theorem kV_X3_49 : lkV RX3 49 yX3_has cX3_has 2 (some .boolean) 1 = true := lkV_of 842 843 (lkM_of 915 844 106 (by decide +kernel) (by decide +kernel) (by decide +kernel) (by decide +kernel) (by decide +kernel) (by decide)) (by decide +kernel) (by decide +kernel)
theorem kV_X4_102 : lkV RX4 102 yX4_word cX4_word 2 (some .boolean) 1 = true := lkV_of 657 8 (lkM_of 655 658 99 (by decide +kernel) (by decide +kernel) (by decide +kernel) (by decide +kernel) (by decide +kernel) (by decide)) (by decide +kernel) (by decide +kernel)
theorem kV_X4_106 : lkV RX4 106 yX4_use cX4_use 4 (some .boolean) 2 = true := lkV_of 661 9 (lkM_of 659 662 99 (by decide +kernel) (by decide +kernel) (by decide +kernel) (by decide +kernel) (by decide +kernel) (by decide)) (by decide +kernel) (by decide +kernel)
theorem kV_X4_111 : lkV RX4 111 yX4_whole cX4_whole 4 (some .boolean) 2 = true := lkV_of 675 11 (lkM_of 673 676 99 (by decide +kernel) (by decide +kernel) (by decide +kernel) (by decide +kernel) (by decide +kernel) (by decide)) (by decide +kernel) (by decide +kernel)
theorem kV_X4_114 : lkV RX4 114 yX4_keepMan cX4_keepMan 2 (some .boolean) 1 = true := lkV_of 679 12 (lkM_of 677 680 99 (by decide +kernel) (by decide +kernel) (by decide +kernel) (by decide +kernel) (by decide +kernel) (by decide)) (by decide +kernel) (by decide +kernel)
theorem kV_X4_119 : lkV RX4 119 yX4_differ cX4_differ 1 (some .boolean) 0 = true := lkV_of 684 13 (lkM_of 682 685 99 (by decide +kernel) (by decide +kernel) (by decide +kernel) (by decide +kernel) (by decide +kernel) (by decide)) (by decide +kernel) (by decide +kernel)
theorem kV_X4_124 : lkV RX4 124 yX4_keepLink cX4_keepLink 3 (some .boolean) 1 = true := lkV_of 693 15 (lkM_of 691 694 99 (by decide +kernel) (by decide +kernel) (by decide +kernel) (by decide +kernel) (by decide +kernel) (by decide)) (by decide +kernel) (by decide +kernel)
theorem kV_X4_133 : lkV RX4 133 yX4_all cX4_all 1 (some .boolean) 0 = true := lkV_of 708 17 (lkM_of 706 709 99 (by decide +kernel) (by decide +kernel) (by decide +kernel) (by decide +kernel) (by decide +kernel) (by decide)) (by decide +kernel) (by decide +kernel)
theorem kV_X4_138 : lkV RX4 138 yX4_span cX4_span 2 (some .boolean) 0 = true := lkV_of 714 18 (lkM_of 712 715 99 (by decide +kernel) (by decide +kernel) (by decide +kernel) (by decide +kernel) (by decide +kernel) (by decide)) (by decide +kernel) (by decide +kernel)
theorem kV_X4_141 : lkV RX4 141 yX4_keepGrant cX4_keepGrant 2 (some .boolean) 1 = true := lkV_of 719 19 (lkM_of 717 720 99 (by decide +kernel) (by decide +kernel) (by decide +kernel) (by decide +kernel) (by decide +kernel) (by decide)) (by decide +kernel) (by decide +kernel)
theorem kV_X4_148 : lkV RX4 148 yX4_choice cX4_choice 3 (some .boolean) 1 = true := lkV_of 725 20 (lkM_of 723 726 99 (by decide +kernel) (by decide +kernel) (by decide +kernel) (by decide +kernel) (by decide +kernel) (by decide)) (by decide +kernel) (by decide +kernel)
theorem kV_X4_153 : lkV RX4 153 yX4_tell cX4_tell 2 (some .boolean) 1 = true := lkV_of 670 10 (lkM_of 668 671 99 (by decide +kernel) (by decide +kernel) (by decide +kernel) (by decide +kernel) (by decide +kernel) (by decide)) (by decide +kernel) (by decide +kernel)
theorem kV_X4_160 : lkV RX4 160 yX4_keepRenewal cX4_keepRenewal 2 (some .boolean) 1 = true := lkV_of 731 21 (lkM_of 729 732 99 (by decide +kernel) (by decide +kernel) (by decide +kernel) (by decide +kernel) (by decide +kernel) (by decide)) (by decide +kernel) (by decide +kernel)
theorem kV_X4_163 : lkV RX4 163 yX4_keepLoss cX4_keepLoss 2 (some .boolean) 1 = true := lkV_of 735 22 (lkM_of 733 736 99 (by decide +kernel) (by decide +kernel) (by decide +kernel) (by decide +kernel) (by decide +kernel) (by decide)) (by decide +kernel) (by decide +kernel)
theorem kV_X4_174 : lkV RX4 174 yX4_keepLaw cX4_keepLaw 2 (some .boolean) 1 = true := lkV_of 744 23 (lkM_of 742 745 99 (by decide +kernel) (by decide +kernel) (by decide +kernel) (by decide +kernel) (by decide +kernel) (by decide)) (by decide +kernel) (by decide +kernel)
theorem kV_X4_185 : lkV RX4 185 yX4_keepCart cX4_keepCart 2 (some .boolean) 1 = true := lkV_of 752 24 (lkM_of 750 753 99 (by decide +kernel) (by decide +kernel) (by decide +kernel) (by decide +kernel) (by decide +kernel) (by decide)) (by decide +kernel) (by decide +kernel)
theorem kV_X4_194 : lkV RX4 194 yX5_links cX5_links 1 (some .int) 0 = true := lkV_of 696 697 (lkM_of 695 698 98 (by decide +kernel) (by decide +kernel) (by decide +kernel) (by decide +kernel) (by decide +kernel) (by decide)) (by decide +kernel) (by decide +kernel)
theorem kV_X4_259 : lkV RX4 259 yX4_latest cX4_latest 3 (some .int) 1 = true := lkV_of 688 14 (lkM_of 686 689 99 (by decide +kernel) (by decide +kernel) (by decide +kernel) (by decide +kernel) (by decide +kernel) (by decide)) (by decide +kernel) (by decide +kernel)
theorem kV_X4_265 : lkV RX4 265 yX4_isName cX4_isName 1 (some .boolean) 0 = true := lkV_of 643 7 (lkM_of 641 644 99 (by decide +kernel) (by decide +kernel) (by decide +kernel) (by decide +kernel) (by decide +kernel) (by decide)) (by decide +kernel) (by decide +kernel)
theorem kV_X4_268 : lkV RX4 268 yX2_indexOf cX2_indexOf 4 (some .int) 1 = true := lkV_of 647 648 (lkM_of 646 649 100 (by decide +kernel) (by decide +kernel) (by decide +kernel) (by decide +kernel) (by decide +kernel) (by decide)) (by decide +kernel) (by decide +kernel)
theorem kV_X4_272 : lkV RX4 272 yX2_add cX2_add 5 none 3 = true := lkV_of 651 652 (lkM_of 650 653 100 (by decide +kernel) (by decide +kernel) (by decide +kernel) (by decide +kernel) (by decide +kernel) (by decide)) (by decide +kernel) (by decide +kernel)
theorem kV_X4_276 : lkV RX4 276 yX2_numberOf cX2_numberOf 6 (some .int) 3 = true := lkV_of 664 665 (lkM_of 663 666 100 (by decide +kernel) (by decide +kernel) (by decide +kernel) (by decide +kernel) (by decide +kernel) (by decide)) (by decide +kernel) (by decide +kernel)
theorem kV_X4_39 : lkV RX4 39 yX5_clear cX5_clear 1 none 0 = true := lkV_of 543 544 (lkM_of 542 545 98 (by decide +kernel) (by decide +kernel) (by decide +kernel) (by decide +kernel) (by decide +kernel) (by decide)) (by decide +kernel) (by decide +kernel)
theorem kV_X4_44 : lkV RX4 44 yX2_clear cX2_clear 1 none 0 = true := lkV_of 550 551 (lkM_of 549 552 100 (by decide +kernel) (by decide +kernel) (by decide +kernel) (by decide +kernel) (by decide +kernel) (by decide)) (by decide +kernel) (by decide +kernel)
theorem kV_X4_48 : lkV RX4 48 yX7_open cX7_open 2 none 1 = true := lkV_of 554 555 (lkM_of 553 556 101 (by decide +kernel) (by decide +kernel) (by decide +kernel) (by decide +kernel) (by decide +kernel) (by decide)) (by decide +kernel) (by decide +kernel)
theorem kV_X4_52 : lkV RX4 52 yX4_readLine cX4_readLine 4 (some .boolean) 0 = true := lkV_of 568 2 (lkM_of 566 569 99 (by decide +kernel) (by decide +kernel) (by decide +kernel) (by decide +kernel) (by decide +kernel) (by decide)) (by decide +kernel) (by decide +kernel)
theorem kV_X4_59 : lkV RX4 59 yX4_parting cX4_parting 1 (some .boolean) 0 = true := lkV_of 759 25 (lkM_of 757 760 99 (by decide +kernel) (by decide +kernel) (by decide +kernel) (by decide +kernel) (by decide +kernel) (by decide)) (by decide +kernel) (by decide +kernel)
theorem kV_X4_65 : lkV RX4 65 yX4_failHere cX4_failHere 2 (some .boolean) 1 = true := lkV_of 626 3 (lkM_of 624 627 99 (by decide +kernel) (by decide +kernel) (by decide +kernel) (by decide +kernel) (by decide +kernel) (by decide)) (by decide +kernel) (by decide +kernel)
theorem kV_X4_72 : lkV RX4 72 yX4_failAt cX4_failAt 3 (some .boolean) 2 = true := lkV_of 630 4 (lkM_of 628 631 99 (by decide +kernel) (by decide +kernel) (by decide +kernel) (by decide +kernel) (by decide +kernel) (by decide)) (by decide +kernel) (by decide +kernel)
theorem kV_X4_76 : lkV RX4 76 yX7_advance cX7_advance 8 none 0 = true := lkV_of 561 562 (lkM_of 632 563 101 (by decide +kernel) (by decide +kernel) (by decide +kernel) (by decide +kernel) (by decide +kernel) (by decide)) (by decide +kernel) (by decide +kernel)
theorem kV_X4_81 : lkV RX4 81 yX7_among cX7_among 7 (some .int) 1 = true := lkV_of 572 573 (lkM_of 571 574 101 (by decide +kernel) (by decide +kernel) (by decide +kernel) (by decide +kernel) (by decide +kernel) (by decide)) (by decide +kernel) (by decide +kernel)
theorem kV_X4_91 : lkV RX4 91 yX4_landLine cX4_landLine 3 (some .boolean) 2 = true := lkV_of 635 5 (lkM_of 633 636 99 (by decide +kernel) (by decide +kernel) (by decide +kernel) (by decide +kernel) (by decide +kernel) (by decide)) (by decide +kernel) (by decide +kernel)
theorem kV_X4_94 : lkV RX4 94 yX4_paperLine cX4_paperLine 3 (some .boolean) 2 = true := lkV_of 702 16 (lkM_of 700 703 99 (by decide +kernel) (by decide +kernel) (by decide +kernel) (by decide +kernel) (by decide +kernel) (by decide)) (by decide +kernel) (by decide +kernel)
theorem kV_X4_97 : lkV RX4 97 yX4_newName cX4_newName 3 (some .boolean) 2 = true := lkV_of 639 6 (lkM_of 637 640 99 (by decide +kernel) (by decide +kernel) (by decide +kernel) (by decide +kernel) (by decide +kernel) (by decide)) (by decide +kernel) (by decide +kernel)
theorem kV_X5_75 : lkV RX5 75 yX5_has cX5_has 3 (some .boolean) 2 = true := lkV_of 782 783 (lkM_of 810 784 98 (by decide +kernel) (by decide +kernel) (by decide +kernel) (by decide +kernel) (by decide +kernel) (by decide)) (by decide +kernel) (by decide +kernel)
theorem kV_X6_76 : lkV RX6 76 yX5_hasGrant cX5_hasGrant 2 (some .boolean) 1 = true := lkV_of 807 808 (lkM_of 806 809 98 (by decide +kernel) (by decide +kernel) (by decide +kernel) (by decide +kernel) (by decide +kernel) (by decide)) (by decide +kernel) (by decide +kernel)
theorem kV_X6_80 : lkV RX6 80 yX6_weigh cX6_weigh 5 none 1 = true := lkV_of 812 813 (lkM_of 811 814 104 (by decide +kernel) (by decide +kernel) (by decide +kernel) (by decide +kernel) (by decide +kernel) (by decide)) (by decide +kernel) (by decide +kernel)
theorem kV_X6_98 : lkV RX6 98 yX6_renew cX6_renew 5 none 3 = true := lkV_of 817 28 (lkM_of 815 818 104 (by decide +kernel) (by decide +kernel) (by decide +kernel) (by decide +kernel) (by decide +kernel) (by decide)) (by decide +kernel) (by decide +kernel)
theorem kV_X7_28 : lkV RX7 28 yX7_advance cX7_advance 8 none 0 = true := lkV_of 561 562 (lkM_of 560 563 101 (by decide +kernel) (by decide +kernel) (by decide +kernel) (by decide +kernel) (by decide +kernel) (by decide)) (by decide +kernel) (by decide +kernel)
theorem kV_X8_18 : lkV RX8 18 yX5_links cX5_links 1 (some .int) 0 = true := lkV_of 696 697 (lkM_of 932 698 98 (by decide +kernel) (by decide +kernel) (by decide +kernel) (by decide +kernel) (by decide +kernel) (by decide)) (by decide +kernel) (by decide +kernel)
theorem kV_X8_27 : lkV RX8 27 yX0_owedAt cX0_owedAt 4 (some .int) 1 = true := lkV_of 853 854 (lkM_of 933 855 105 (by decide +kernel) (by decide +kernel) (by decide +kernel) (by decide +kernel) (by decide +kernel) (by decide)) (by decide +kernel) (by decide +kernel)
theorem kV_X8_49 : lkV RX8 49 yX8_farEnd cX8_farEnd 4 (some .int) 3 = true := lkV_of 948 949 (lkM_of 947 950 103 (by decide +kernel) (by decide +kernel) (by decide +kernel) (by decide +kernel) (by decide +kernel) (by decide)) (by decide +kernel) (by decide +kernel)
theorem kV_X9_28 : lkV RX9 28 yX9_forget cX9_forget 1 none 0 = true := lkV_of 762 763 (lkM_of 942 764 107 (by decide +kernel) (by decide +kernel) (by decide +kernel) (by decide +kernel) (by decide +kernel) (by decide)) (by decide +kernel) (by decide +kernel)
theorem kV_X9_36 : lkV RX9 36 yX8_nextLink cX8_nextLink 7 (some .int) 2 = true := lkV_of 944 945 (lkM_of 943 946 103 (by decide +kernel) (by decide +kernel) (by decide +kernel) (by decide +kernel) (by decide +kernel) (by decide)) (by decide +kernel) (by decide +kernel)
theorem kV_X9_45 : lkV RX9 45 yX8_farEnd cX8_farEnd 4 (some .int) 3 = true := lkV_of 948 949 (lkM_of 951 950 103 (by decide +kernel) (by decide +kernel) (by decide +kernel) (by decide +kernel) (by decide +kernel) (by decide)) (by decide +kernel) (by decide +kernel)
theorem kc_X1_107 : isW (.constant RX1 107 (Int32.ofInt 1000000000)) = true := isW_of 936 (by decide +kernel) rfl
theorem kc_X10_171 : isW (.constant RX10 171 (Int32.ofInt (-1000000))) = true := isW_of 973 (by decide +kernel) rfl
theorem kc_X12_64 : isW (.constant RX12 64 (Int32.ofInt (-1000000))) = true := isW_of 1785 (by decide +kernel) rfl
theorem kc_X8_36 : isW (.constant RX8 36 (Int32.ofInt 1000000000)) = true := isW_of 934 (by decide +kernel) rfl
theorem kl_X12_77 : isW (.constantLong RX12 77 (Int64.ofInt 32)) = true := isW_of 1448 (by decide +kernel) rfl
theorem kl_X7_38 : isW (.constantLong RX7 38 (Int64.ofInt 32)) = true := isW_of 564 (by decide +kernel) rfl
theorem kl_X7_40 : isW (.constantLong RX7 40 (Int64.ofInt 10)) = true := isW_of 565 (by decide +kernel) rfl
theorem ks_X10_226 : isW (.fieldLink RX10 226 "TollBars" "COUNTED" "[I") = true ∨ ∃ host, isW (.fieldLinkNest RX10 226 "TollBars" "COUNTED" "[I" host) = true := Or.inl (isW_of 1049 (by decide +kernel) rfl)
theorem ks_X4_85 : isW (.fieldLink RX4 85 "TollBars" "ROOM" "[I") = true ∨ ∃ host, isW (.fieldLinkNest RX4 85 "TollBars" "ROOM" "[I" host) = true := Or.inr ⟨"TollBars", isW_of 623 (by decide +kernel) rfl⟩
theorem st_X12_134 : (RX12, 134, "place", 39) ∈ sTab := by decide +kernel
theorem st_X12_135 : (RX12, 135, "goods", 17) ∈ sTab := by decide +kernel
theorem st_X12_137 : (RX12, 137, "man", 25) ∈ sTab := by decide +kernel
theorem st_X12_139 : (RX12, 139, "road", 43) ∈ sTab := by decide +kernel
theorem st_X12_141 : (RX12, 141, "bridge", 5) ∈ sTab := by decide +kernel
theorem st_X12_143 : (RX12, 143, "take", 47) ∈ sTab := by decide +kernel
theorem st_X12_145 : (RX12, 145, "free", 14) ∈ sTab := by decide +kernel
theorem st_X12_147 : (RX12, 147, "as", 2) ∈ sTab := by decide +kernel
theorem st_X12_149 : (RX12, 149, "renew", 42) ∈ sTab := by decide +kernel
theorem st_X12_151 : (RX12, 151, "lost", 24) ∈ sTab := by decide +kernel
theorem st_X12_153 : (RX12, 153, "law", 19) ∈ sTab := by decide +kernel
theorem st_X12_155 : (RX12, 155, "cart", 7) ∈ sTab := by decide +kernel
theorem st_X12_157 : (RX12, 157, "all", 1) ∈ sTab := by decide +kernel
theorem st_X12_159 : (RX12, 159, "to", 48) ∈ sTab := by decide +kernel
theorem st_X12_161 : (RX12, 161, "copied", 9) ∈ sTab := by decide +kernel
theorem st_X12_250 : (RX12, 250, "of", 30) ∈ sTab := by decide +kernel
theorem st_X12_259 : (RX12, 259, "since", 46) ∈ sTab := by decide +kernel
theorem st_X12_274 : (RX12, 274, "long", 23) ∈ sTab := by decide +kernel
theorem st_X12_300 : (RX12, 300, "by", 6) ∈ sTab := by decide +kernel
theorem st_X12_305 : (RX12, 305, "day", 12) ∈ sTab := by decide +kernel
theorem st_X12_316 : (RX12, 316, "at", 3) ∈ sTab := by decide +kernel
theorem st_X12_317 : (RX12, 317, "on", 33) ∈ sTab := by decide +kernel
theorem st_X12_322 : (RX12, 322, "coin", 8) ∈ sTab := by decide +kernel
theorem st_X12_337 : (RX12, 337, "for", 13) ∈ sTab := by decide +kernel
theorem st_X12_339 : (RX12, 339, "own", 34) ∈ sTab := by decide +kernel
theorem st_X12_341 : (RX12, 341, "trade", 49) ∈ sTab := by decide +kernel
theorem st_X12_343 : (RX12, 343, "both", 4) ∈ sTab := by decide +kernel
theorem st_X12_348 : (RX12, 348, "like", 21) ∈ sTab := by decide +kernel
theorem st_X12_353 : (RX12, 353, "same", 44) ∈ sTab := by decide +kernel
theorem st_X12_355 : (RX12, 355, "more", 26) ∈ sTab := by decide +kernel
theorem st_X12_357 : (RX12, 357, "less", 20) ∈ sTab := by decide +kernel
theorem st_X12_374 : (RX12, 374, "older", 31) ∈ sTab := by decide +kernel
theorem st_X12_376 : (RX12, 376, "later", 18) ∈ sTab := by decide +kernel
theorem st_X12_382 : (RX12, 382, "given", 16) ∈ sTab := by decide +kernel
theorem st_X12_384 : (RX12, 384, "alike", 0) ∈ sTab := by decide +kernel
theorem st_X12_386 : (RX12, 386, "named", 27) ∈ sTab := by decide +kernel
theorem st_X12_388 : (RX12, 388, "papers", 38) ∈ sTab := by decide +kernel
theorem st_X12_390 : (RX12, 390, "copies", 10) ∈ sTab := by decide +kernel
theorem st_X12_408 : (RX12, 408, "with", 50) ∈ sTab := by decide +kernel
theorem st_X12_410 : (RX12, 410, "loads", 22) ∈ sTab := by decide +kernel
theorem st_X12_412 : (RX12, 412, "from", 15) ∈ sTab := by decide +kernel
theorem st_X4_100 : (RX4, 100, "of", 30) ∈ sTab := by decide +kernel
theorem st_X4_109 : (RX4, 109, "since", 46) ∈ sTab := by decide +kernel
theorem st_X4_117 : (RX4, 117, "to", 48) ∈ sTab := by decide +kernel
theorem st_X4_122 : (RX4, 122, "long", 23) ∈ sTab := by decide +kernel
theorem st_X4_127 : (RX4, 127, "by", 6) ∈ sTab := by decide +kernel
theorem st_X4_129 : (RX4, 129, "at", 3) ∈ sTab := by decide +kernel
theorem st_X4_131 : (RX4, 131, "on", 33) ∈ sTab := by decide +kernel
theorem st_X4_136 : (RX4, 136, "coin", 8) ∈ sTab := by decide +kernel
theorem st_X4_144 : (RX4, 144, "for", 13) ∈ sTab := by decide +kernel
theorem st_X4_146 : (RX4, 146, "own trade both", 37) ∈ sTab := by decide +kernel
theorem st_X4_151 : (RX4, 151, "like", 21) ∈ sTab := by decide +kernel
theorem st_X4_156 : (RX4, 156, "same more less", 45) ∈ sTab := by decide +kernel
theorem st_X4_158 : (RX4, 158, "day", 12) ∈ sTab := by decide +kernel
theorem st_X4_166 : (RX4, 166, "older later", 32) ∈ sTab := by decide +kernel
theorem st_X4_168 : (RX4, 168, "own given", 35) ∈ sTab := by decide +kernel
theorem st_X4_170 : (RX4, 170, "named alike", 28) ∈ sTab := by decide +kernel
theorem st_X4_172 : (RX4, 172, "copies papers", 11) ∈ sTab := by decide +kernel
theorem st_X4_177 : (RX4, 177, "with", 50) ∈ sTab := by decide +kernel
theorem st_X4_179 : (RX4, 179, "own trade", 36) ∈ sTab := by decide +kernel
theorem st_X4_181 : (RX4, 181, "loads", 22) ∈ sTab := by decide +kernel
theorem st_X4_183 : (RX4, 183, "from", 15) ∈ sTab := by decide +kernel
theorem st_X4_240 : (RX4, 240, "copied", 9) ∈ sTab := by decide +kernel
theorem st_X4_254 : (RX4, 254, "all", 1) ∈ sTab := by decide +kernel
theorem st_X4_263 : (RX4, 263, "place goods man road bridge take free as renew lost law cart all to copied", 41) ∈ sTab := by decide +kernel
theorem st_X4_79 : (RX4, 79, "place goods man road bridge take free as renew lost law cart", 40) ∈ sTab := by decide +kernel
theorem kA1 : isW (.native arraycopyName) = true := by decide +kernel
theorem kA2 : isW (.static arraycopyName) = true := by decide +kernel
theorem kA3 : isW (.initialized "java/lang/System") = true := by decide +kernel
