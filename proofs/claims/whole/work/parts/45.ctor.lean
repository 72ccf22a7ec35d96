/-! MAKING: constructors, each at its place -/
theorem lkN_of {own : String} {idx : Nat} {y : MethodName} {host : String} {cc : ByteArray} {maxL : Nat} {np : Nat} (k1 i1 k2 i2 k3 i3 : Nat) (h1 : (tb k1)[i1]? = some (.methodLinkNest own idx y host)) (h2 : (tb k2)[i2]? = some (.code y cc maxL none)) (h3 : (tb k3)[i3]? = some (.initialized y.cls)) (h4 : (y.cls ≠ "java/lang/invoke/MethodHandle" ∧ y.cls ≠ "java/lang/invoke/VarHandle")) (h5 : (parseMethodDescriptor y.desc).map (fun d => d.parameters.length) = some np) (h6 : maxL ≤ 17) : lkN own idx y host cc maxL np = true := by
  simp only [lkN, Bool.and_eq_true, decide_eq_true_eq]
  exact ⟨isW_of k1 i1 h1 rfl, isW_of k2 i2 h2 rfl, isW_of k3 i3 h3 rfl, h4, h5, h6⟩
theorem jo_X10 : isW (.methodLink RX10 1 Lib.objectInit) = true := isW_of 1 30 rfl rfl
theorem jo_1 : isW (.instanceMethod Lib.objectInit) = true := isW_of 1 31 rfl rfl
theorem jo_2 : isW (.code Lib.objectInit ⟨#[0xb1]⟩ 1 none) = true := isW_of 1 32 (by decide +kernel) rfl
theorem jc_900 : inI 900 := by unfold inI; omega
theorem js_900 : (Int16.ofInt 900).toInt32 = Int32.ofInt 900 := by decide
theorem ja_byte : isW (.arrayClass .byte) = true := isW_of 1 146 rfl rfl
theorem jp_X10_9 : isW (.fieldLink RX10 9 (cT 10 0).1 (cT 10 0).2.1 (cT 10 0).2.2.1) = true := isW_of 2 161 rfl rfl
theorem jl_X10_13 : isW (.classLink RX10 13 RX5) = true := isW_of 1 33 rfl rfl
theorem jn_5 : isW (.instantiable RX5 (nfd 5)) = true := isW_of 1 34 rfl rfl
theorem jz_5 : isW (.initialized RX5) = true := isW_of 1 2 rfl rfl
theorem jo_X5 : isW (.methodLink RX5 3 Lib.objectInit) = true := isW_of 1 38 rfl rfl
theorem js_X5_9 : isW (.fieldLink RX5 9 "TollBars" "ROOM" "[I") = true ∨ ∃ host, isW (.fieldLinkNest RX5 9 "TollBars" "ROOM" "[I" host) = true := Or.inr ⟨"TollBars", isW_of 1 39 rfl rfl⟩
theorem ja_int : isW (.arrayClass .int) = true := isW_of 1 147 rfl rfl
theorem jp_X5_13 : isW (.fieldLink RX5 13 (cT 5 0).1 (cT 5 0).2.1 (cT 5 0).2.2.1) = true := isW_of 1 41 rfl rfl
theorem jc_6 : inI 6 := by unfold inI; omega
theorem jb_6 : (Int8.ofInt 6).toInt32 = Int32.ofInt 6 := by decide
theorem jp_X5_18 : isW (.fieldLink RX5 18 (cT 5 1).1 (cT 5 1).2.1 (cT 5 1).2.2.1) = true := isW_of 1 48 rfl rfl
theorem jp_X5_21 : isW (.fieldLink RX5 21 (cT 5 2).1 (cT 5 2).2.1 (cT 5 2).2.2.1) = true := isW_of 1 51 rfl rfl
theorem jc_20 : inI 20 := by unfold inI; omega
theorem jb_20 : (Int8.ofInt 20).toInt32 = Int32.ofInt 20 := by decide
theorem jp_X5_24 : isW (.fieldLink RX5 24 (cT 5 3).1 (cT 5 3).2.1 (cT 5 3).2.2.1) = true := isW_of 1 54 rfl rfl
theorem jp_X5_27 : isW (.fieldLink RX5 27 (cT 5 4).1 (cT 5 4).2.1 (cT 5 4).2.2.1) = true := isW_of 1 57 rfl rfl
theorem jp_X5_30 : isW (.fieldLink RX5 30 (cT 5 5).1 (cT 5 5).2.1 (cT 5 5).2.2.1) = true := isW_of 1 60 rfl rfl
theorem jp_X5_33 : isW (.fieldLink RX5 33 (cT 5 6).1 (cT 5 6).2.1 (cT 5 6).2.2.1) = true := isW_of 1 63 rfl rfl
theorem jc_16 : inI 16 := by unfold inI; omega
theorem jb_16 : (Int8.ofInt 16).toInt32 = Int32.ofInt 16 := by decide
theorem jp_X5_36 : isW (.fieldLink RX5 36 (cT 5 7).1 (cT 5 7).2.1 (cT 5 7).2.2.1) = true := isW_of 1 67 rfl rfl
theorem jp_X5_39 : isW (.fieldLink RX5 39 (cT 5 8).1 (cT 5 8).2.1 (cT 5 8).2.2.1) = true := isW_of 1 72 rfl rfl
theorem jp_X5_42 : isW (.fieldLink RX5 42 (cT 5 9).1 (cT 5 9).2.1 (cT 5 9).2.2.1) = true := isW_of 1 77 rfl rfl
theorem jp_X5_45 : isW (.fieldLink RX5 45 (cT 5 10).1 (cT 5 10).2.1 (cT 5 10).2.2.1) = true := isW_of 1 81 rfl rfl
theorem jp_X5_48 : isW (.fieldLink RX5 48 (cT 5 11).1 (cT 5 11).2.1 (cT 5 11).2.2.1) = true := isW_of 1 86 rfl rfl
theorem jp_X5_51 : isW (.fieldLink RX5 51 (cT 5 12).1 (cT 5 12).2.1 (cT 5 12).2.2.1) = true := isW_of 1 91 rfl rfl
theorem jc_4 : inI 4 := by unfold inI; omega
theorem jp_X5_54 : isW (.fieldLink RX5 54 (cT 5 13).1 (cT 5 13).2.1 (cT 5 13).2.2.1) = true := isW_of 1 95 rfl rfl
theorem jp_X5_57 : isW (.fieldLink RX5 57 (cT 5 14).1 (cT 5 14).2.1 (cT 5 14).2.2.1) = true := isW_of 1 98 rfl rfl
theorem jp_X5_60 : isW (.fieldLink RX5 60 (cT 5 15).1 (cT 5 15).2.1 (cT 5 15).2.2.1) = true := isW_of 1 101 rfl rfl
theorem jc_3 : inI 3 := by unfold inI; omega
theorem jp_X5_63 : isW (.fieldLink RX5 63 (cT 5 16).1 (cT 5 16).2.1 (cT 5 16).2.2.1) = true := isW_of 1 104 rfl rfl
theorem jc_42 : inI 42 := by unfold inI; omega
theorem jb_42 : (Int8.ofInt 42).toInt32 = Int32.ofInt 42 := by decide
theorem jp_X5_66 : isW (.fieldLink RX5 66 (cT 5 17).1 (cT 5 17).2.1 (cT 5 17).2.2.1) = true := isW_of 1 107 rfl rfl
def ciX5_2 (iv : IV) : IV := (z2 (z2 (z2 (z2 (z2 (z2 (z2 (z2 (z2 (z2 (z2 (z2 (z2 (z2 (z2 (z2 (z2 (z2 iv 3) 4) 5) 6) 7) 8) 9) 10) 11) 12) 13) 14) 15) 16) 17) 18) 19) 20)
def crX5_2 (rv : RV) : RV := (r2 (zr (r2 (zr (r2 (zr (r2 (zr (r2 (zr (r2 (zr (r2 (zr (r2 (zr (r2 (zr (r2 (zr (r2 (zr (r2 (zr (r2 (zr (r2 (zr (r2 (zr (r2 (zr (r2 (zr (r2 (zr rv 3) 2 0 (some 3)) 4) 2 1 (some 4)) 5) 2 2 (some 5)) 6) 2 3 (some 6)) 7) 2 4 (some 7)) 8) 2 5 (some 8)) 9) 2 6 (some 9)) 10) 2 7 (some 10)) 11) 2 8 (some 11)) 12) 2 9 (some 12)) 13) 2 10 (some 13)) 14) 2 11 (some 14)) 15) 2 12 (some 15)) 16) 2 13 (some 16)) 17) 2 14 (some 17)) 18) 2 15 (some 18)) 19) 2 16 (some 19)) 20) 2 17 (some 20))
set_option maxRecDepth 10000 in
theorem cc_X5_2 (iv : IV) (rv : RV) : Call 1 18 257 yX5_init cX5_init 1 none [aR (some 2)] 3 iv rv (fun r n' iv' rv' => r = none ∧ n' = 21 ∧ iv' = ciX5_2 iv ∧ rv' = crX5_2 rv) := by
  refine Call.of (L := [aR (some 2)]) (by decide) rfl (njL_use _ ⟨trivial, trivial⟩) rfl (by decide) (fun Γ X hR hi0 hc => ?_)
  have hi := hi0 rfl
  refine g_aload_n (q := 1) 0 X dX5_init_0 rfl rfl rfl ?_
  refine g_objInit (q := 4) X jo_X5 jo_1 jo_2 (by decide) (Nat.le_of_ble_eq_true rfl) (by decide) dX5_init_1 rfl ?_
  refine g_aload_n (q := 5) 0 X dX5_init_4 rfl rfl rfl ?_
  refine g_gets_room (q := 8) X js_X5_9 dX5_init_5 rfl ?_
  refine g_alen_room (q := 9) X dX5_init_8 rfl ?_
  refine g_newa (q := 11) (len := 12) .int X rfl (Or.inr (Or.inl rfl)) ja_int rfl (by decide) (by decide) (hc _ _ (by decide) (by decide)) dX5_init_9 rfl ?_
  refine g_putRF (q := 14) 5 0 X rfl rfl rfl hi jp_X5_13 (by decide) (by decide) rfl (by decide) dX5_init_11 rfl ?_
  refine g_aload_n (q := 15) 0 X dX5_init_14 rfl rfl rfl ?_
  refine g_bipush (q := 17) 6 X dX5_init_15 rfl jb_6 jc_6 ?_
  refine g_newa (q := 19) (len := 6) .int X rfl (Or.inr (Or.inl rfl)) ja_int rfl (by decide) (by decide) (hc _ _ (by decide) (by decide)) dX5_init_17 rfl ?_
  refine g_putRF (q := 22) 5 1 X rfl rfl rfl hi jp_X5_18 (by decide) (by decide) rfl (by decide) dX5_init_19 rfl ?_
  refine g_aload_n (q := 23) 0 X dX5_init_22 rfl rfl rfl ?_
  refine g_bipush (q := 25) 6 X dX5_init_23 rfl jb_6 jc_6 ?_
  refine g_newa (q := 27) (len := 6) .int X rfl (Or.inr (Or.inl rfl)) ja_int rfl (by decide) (by decide) (hc _ _ (by decide) (by decide)) dX5_init_25 rfl ?_
  refine g_putRF (q := 30) 5 2 X rfl rfl rfl hi jp_X5_21 (by decide) (by decide) rfl (by decide) dX5_init_27 rfl ?_
  refine g_aload_n (q := 31) 0 X dX5_init_30 rfl rfl rfl ?_
  refine g_bipush (q := 33) 20 X dX5_init_31 rfl jb_20 jc_20 ?_
  refine g_newa (q := 35) (len := 20) .int X rfl (Or.inr (Or.inl rfl)) ja_int rfl (by decide) (by decide) (hc _ _ (by decide) (by decide)) dX5_init_33 rfl ?_
  refine g_putRF (q := 38) 5 3 X rfl rfl rfl hi jp_X5_24 (by decide) (by decide) rfl (by decide) dX5_init_35 rfl ?_
  refine g_aload_n (q := 39) 0 X dX5_init_38 rfl rfl rfl ?_
  refine g_bipush (q := 41) 20 X dX5_init_39 rfl jb_20 jc_20 ?_
  refine g_newa (q := 43) (len := 20) .int X rfl (Or.inr (Or.inl rfl)) ja_int rfl (by decide) (by decide) (hc _ _ (by decide) (by decide)) dX5_init_41 rfl ?_
  refine g_putRF (q := 46) 5 4 X rfl rfl rfl hi jp_X5_27 (by decide) (by decide) rfl (by decide) dX5_init_43 rfl ?_
  refine g_aload_n (q := 47) 0 X dX5_init_46 rfl rfl rfl ?_
  refine g_bipush (q := 49) 20 X dX5_init_47 rfl jb_20 jc_20 ?_
  refine g_newa (q := 51) (len := 20) .int X rfl (Or.inr (Or.inl rfl)) ja_int rfl (by decide) (by decide) (hc _ _ (by decide) (by decide)) dX5_init_49 rfl ?_
  refine g_putRF (q := 54) 5 5 X rfl rfl rfl hi jp_X5_30 (by decide) (by decide) rfl (by decide) dX5_init_51 rfl ?_
  refine g_aload_n (q := 55) 0 X dX5_init_54 rfl rfl rfl ?_
  refine g_bipush (q := 57) 20 X dX5_init_55 rfl jb_20 jc_20 ?_
  refine g_newa (q := 59) (len := 20) .int X rfl (Or.inr (Or.inl rfl)) ja_int rfl (by decide) (by decide) (hc _ _ (by decide) (by decide)) dX5_init_57 rfl ?_
  refine g_putRF (q := 62) 5 6 X rfl rfl rfl hi jp_X5_33 (by decide) (by decide) rfl (by decide) dX5_init_59 rfl ?_
  refine g_aload_n (q := 63) 0 X dX5_init_62 rfl rfl rfl ?_
  refine g_bipush (q := 65) 16 X dX5_init_63 rfl jb_16 jc_16 ?_
  refine g_newa (q := 67) (len := 16) .int X rfl (Or.inr (Or.inl rfl)) ja_int rfl (by decide) (by decide) (hc _ _ (by decide) (by decide)) dX5_init_65 rfl ?_
  refine g_putRF (q := 70) 5 7 X rfl rfl rfl hi jp_X5_36 (by decide) (by decide) rfl (by decide) dX5_init_67 rfl ?_
  refine g_aload_n (q := 71) 0 X dX5_init_70 rfl rfl rfl ?_
  refine g_bipush (q := 73) 16 X dX5_init_71 rfl jb_16 jc_16 ?_
  refine g_newa (q := 75) (len := 16) .int X rfl (Or.inr (Or.inl rfl)) ja_int rfl (by decide) (by decide) (hc _ _ (by decide) (by decide)) dX5_init_73 rfl ?_
  refine g_putRF (q := 78) 5 8 X rfl rfl rfl hi jp_X5_39 (by decide) (by decide) rfl (by decide) dX5_init_75 rfl ?_
  refine g_aload_n (q := 79) 0 X dX5_init_78 rfl rfl rfl ?_
  refine g_bipush (q := 81) 16 X dX5_init_79 rfl jb_16 jc_16 ?_
  refine g_newa (q := 83) (len := 16) .int X rfl (Or.inr (Or.inl rfl)) ja_int rfl (by decide) (by decide) (hc _ _ (by decide) (by decide)) dX5_init_81 rfl ?_
  refine g_putRF (q := 86) 5 9 X rfl rfl rfl hi jp_X5_42 (by decide) (by decide) rfl (by decide) dX5_init_83 rfl ?_
  refine g_aload_n (q := 87) 0 X dX5_init_86 rfl rfl rfl ?_
  refine g_bipush (q := 89) 16 X dX5_init_87 rfl jb_16 jc_16 ?_
  refine g_newa (q := 91) (len := 16) .int X rfl (Or.inr (Or.inl rfl)) ja_int rfl (by decide) (by decide) (hc _ _ (by decide) (by decide)) dX5_init_89 rfl ?_
  refine g_putRF (q := 94) 5 10 X rfl rfl rfl hi jp_X5_45 (by decide) (by decide) rfl (by decide) dX5_init_91 rfl ?_
  refine g_aload_n (q := 95) 0 X dX5_init_94 rfl rfl rfl ?_
  refine g_bipush (q := 97) 16 X dX5_init_95 rfl jb_16 jc_16 ?_
  refine g_newa (q := 99) (len := 16) .int X rfl (Or.inr (Or.inl rfl)) ja_int rfl (by decide) (by decide) (hc _ _ (by decide) (by decide)) dX5_init_97 rfl ?_
  refine g_putRF (q := 102) 5 11 X rfl rfl rfl hi jp_X5_48 (by decide) (by decide) rfl (by decide) dX5_init_99 rfl ?_
  refine g_aload_n (q := 103) 0 X dX5_init_102 rfl rfl rfl ?_
  refine g_bipush (q := 105) 16 X dX5_init_103 rfl jb_16 jc_16 ?_
  refine g_newa (q := 107) (len := 16) .int X rfl (Or.inr (Or.inl rfl)) ja_int rfl (by decide) (by decide) (hc _ _ (by decide) (by decide)) dX5_init_105 rfl ?_
  refine g_putRF (q := 110) 5 12 X rfl rfl rfl hi jp_X5_51 (by decide) (by decide) rfl (by decide) dX5_init_107 rfl ?_
  refine g_aload_n (q := 111) 0 X dX5_init_110 rfl rfl rfl ?_
  refine g_iconst (q := 112) 4 X dX5_init_111 rfl rfl jc_4 ?_
  refine g_newa (q := 114) (len := 4) .int X rfl (Or.inr (Or.inl rfl)) ja_int rfl (by decide) (by decide) (hc _ _ (by decide) (by decide)) dX5_init_112 rfl ?_
  refine g_putRF (q := 117) 5 13 X rfl rfl rfl hi jp_X5_54 (by decide) (by decide) rfl (by decide) dX5_init_114 rfl ?_
  refine g_aload_n (q := 118) 0 X dX5_init_117 rfl rfl rfl ?_
  refine g_iconst (q := 119) 4 X dX5_init_118 rfl rfl jc_4 ?_
  refine g_newa (q := 121) (len := 4) .int X rfl (Or.inr (Or.inl rfl)) ja_int rfl (by decide) (by decide) (hc _ _ (by decide) (by decide)) dX5_init_119 rfl ?_
  refine g_putRF (q := 124) 5 14 X rfl rfl rfl hi jp_X5_57 (by decide) (by decide) rfl (by decide) dX5_init_121 rfl ?_
  refine g_aload_n (q := 125) 0 X dX5_init_124 rfl rfl rfl ?_
  refine g_iconst (q := 126) 4 X dX5_init_125 rfl rfl jc_4 ?_
  refine g_newa (q := 128) (len := 4) .int X rfl (Or.inr (Or.inl rfl)) ja_int rfl (by decide) (by decide) (hc _ _ (by decide) (by decide)) dX5_init_126 rfl ?_
  refine g_putRF (q := 131) 5 15 X rfl rfl rfl hi jp_X5_60 (by decide) (by decide) rfl (by decide) dX5_init_128 rfl ?_
  refine g_aload_n (q := 132) 0 X dX5_init_131 rfl rfl rfl ?_
  refine g_iconst (q := 133) 3 X dX5_init_132 rfl rfl jc_3 ?_
  refine g_newa (q := 135) (len := 3) .int X rfl (Or.inr (Or.inl rfl)) ja_int rfl (by decide) (by decide) (hc _ _ (by decide) (by decide)) dX5_init_133 rfl ?_
  refine g_putRF (q := 138) 5 16 X rfl rfl rfl hi jp_X5_63 (by decide) (by decide) rfl (by decide) dX5_init_135 rfl ?_
  refine g_aload_n (q := 139) 0 X dX5_init_138 rfl rfl rfl ?_
  refine g_bipush (q := 141) 42 X dX5_init_139 rfl jb_42 jc_42 ?_
  refine g_newa (q := 143) (len := 42) .int X rfl (Or.inr (Or.inl rfl)) ja_int rfl (by decide) (by decide) (hc _ _ (by decide) (by decide)) dX5_init_141 rfl ?_
  refine g_putRF (q := 146) 5 17 X rfl rfl rfl hi jp_X5_66 (by decide) (by decide) rfl (by decide) dX5_init_143 rfl ?_
  exact g_vret (q := 0) X hR dX5_init_146 rfl ⟨rfl, rfl, rfl, rfl⟩
theorem jk_X10_15 : lkN RX10 15 yX5_init "TollBars" cX5_init 1 0 = true := lkN_of 1 35 1 37 1 2 rfl rfl rfl (by decide +kernel) (by decide +kernel) (by decide)
theorem jm_X5 : isW (.instanceMethod yX5_init) = true := isW_of 1 36 rfl rfl
theorem jf_X10_16 : LF RX10 16 10 2 := Or.inl (isW_of 2 163 rfl rfl)
def ciX5_21 (iv : IV) : IV := (z2 (z2 (z2 (z2 (z2 (z2 (z2 (z2 (z2 (z2 (z2 (z2 (z2 (z2 (z2 (z2 (z2 (z2 iv 22) 23) 24) 25) 26) 27) 28) 29) 30) 31) 32) 33) 34) 35) 36) 37) 38) 39)
def crX5_21 (rv : RV) : RV := (r2 (zr (r2 (zr (r2 (zr (r2 (zr (r2 (zr (r2 (zr (r2 (zr (r2 (zr (r2 (zr (r2 (zr (r2 (zr (r2 (zr (r2 (zr (r2 (zr (r2 (zr (r2 (zr (r2 (zr (r2 (zr rv 22) 21 0 (some 22)) 23) 21 1 (some 23)) 24) 21 2 (some 24)) 25) 21 3 (some 25)) 26) 21 4 (some 26)) 27) 21 5 (some 27)) 28) 21 6 (some 28)) 29) 21 7 (some 29)) 30) 21 8 (some 30)) 31) 21 9 (some 31)) 32) 21 10 (some 32)) 33) 21 11 (some 33)) 34) 21 12 (some 34)) 35) 21 13 (some 35)) 36) 21 14 (some 36)) 37) 21 15 (some 37)) 38) 21 16 (some 38)) 39) 21 17 (some 39))
set_option maxRecDepth 10000 in
theorem cc_X5_21 (iv : IV) (rv : RV) : Call 1 18 257 yX5_init cX5_init 1 none [aR (some 21)] 22 iv rv (fun r n' iv' rv' => r = none ∧ n' = 40 ∧ iv' = ciX5_21 iv ∧ rv' = crX5_21 rv) := by
  refine Call.of (L := [aR (some 21)]) (by decide) rfl (njL_use _ ⟨trivial, trivial⟩) rfl (by decide) (fun Γ X hR hi0 hc => ?_)
  have hi := hi0 rfl
  refine g_aload_n (q := 1) 0 X dX5_init_0 rfl rfl rfl ?_
  refine g_objInit (q := 4) X jo_X5 jo_1 jo_2 (by decide) (Nat.le_of_ble_eq_true rfl) (by decide) dX5_init_1 rfl ?_
  refine g_aload_n (q := 5) 0 X dX5_init_4 rfl rfl rfl ?_
  refine g_gets_room (q := 8) X js_X5_9 dX5_init_5 rfl ?_
  refine g_alen_room (q := 9) X dX5_init_8 rfl ?_
  refine g_newa (q := 11) (len := 12) .int X rfl (Or.inr (Or.inl rfl)) ja_int rfl (by decide) (by decide) (hc _ _ (by decide) (by decide)) dX5_init_9 rfl ?_
  refine g_putRF (q := 14) 5 0 X rfl rfl rfl hi jp_X5_13 (by decide) (by decide) rfl (by decide) dX5_init_11 rfl ?_
  refine g_aload_n (q := 15) 0 X dX5_init_14 rfl rfl rfl ?_
  refine g_bipush (q := 17) 6 X dX5_init_15 rfl jb_6 jc_6 ?_
  refine g_newa (q := 19) (len := 6) .int X rfl (Or.inr (Or.inl rfl)) ja_int rfl (by decide) (by decide) (hc _ _ (by decide) (by decide)) dX5_init_17 rfl ?_
  refine g_putRF (q := 22) 5 1 X rfl rfl rfl hi jp_X5_18 (by decide) (by decide) rfl (by decide) dX5_init_19 rfl ?_
  refine g_aload_n (q := 23) 0 X dX5_init_22 rfl rfl rfl ?_
  refine g_bipush (q := 25) 6 X dX5_init_23 rfl jb_6 jc_6 ?_
  refine g_newa (q := 27) (len := 6) .int X rfl (Or.inr (Or.inl rfl)) ja_int rfl (by decide) (by decide) (hc _ _ (by decide) (by decide)) dX5_init_25 rfl ?_
  refine g_putRF (q := 30) 5 2 X rfl rfl rfl hi jp_X5_21 (by decide) (by decide) rfl (by decide) dX5_init_27 rfl ?_
  refine g_aload_n (q := 31) 0 X dX5_init_30 rfl rfl rfl ?_
  refine g_bipush (q := 33) 20 X dX5_init_31 rfl jb_20 jc_20 ?_
  refine g_newa (q := 35) (len := 20) .int X rfl (Or.inr (Or.inl rfl)) ja_int rfl (by decide) (by decide) (hc _ _ (by decide) (by decide)) dX5_init_33 rfl ?_
  refine g_putRF (q := 38) 5 3 X rfl rfl rfl hi jp_X5_24 (by decide) (by decide) rfl (by decide) dX5_init_35 rfl ?_
  refine g_aload_n (q := 39) 0 X dX5_init_38 rfl rfl rfl ?_
  refine g_bipush (q := 41) 20 X dX5_init_39 rfl jb_20 jc_20 ?_
  refine g_newa (q := 43) (len := 20) .int X rfl (Or.inr (Or.inl rfl)) ja_int rfl (by decide) (by decide) (hc _ _ (by decide) (by decide)) dX5_init_41 rfl ?_
  refine g_putRF (q := 46) 5 4 X rfl rfl rfl hi jp_X5_27 (by decide) (by decide) rfl (by decide) dX5_init_43 rfl ?_
  refine g_aload_n (q := 47) 0 X dX5_init_46 rfl rfl rfl ?_
  refine g_bipush (q := 49) 20 X dX5_init_47 rfl jb_20 jc_20 ?_
  refine g_newa (q := 51) (len := 20) .int X rfl (Or.inr (Or.inl rfl)) ja_int rfl (by decide) (by decide) (hc _ _ (by decide) (by decide)) dX5_init_49 rfl ?_
  refine g_putRF (q := 54) 5 5 X rfl rfl rfl hi jp_X5_30 (by decide) (by decide) rfl (by decide) dX5_init_51 rfl ?_
  refine g_aload_n (q := 55) 0 X dX5_init_54 rfl rfl rfl ?_
  refine g_bipush (q := 57) 20 X dX5_init_55 rfl jb_20 jc_20 ?_
  refine g_newa (q := 59) (len := 20) .int X rfl (Or.inr (Or.inl rfl)) ja_int rfl (by decide) (by decide) (hc _ _ (by decide) (by decide)) dX5_init_57 rfl ?_
  refine g_putRF (q := 62) 5 6 X rfl rfl rfl hi jp_X5_33 (by decide) (by decide) rfl (by decide) dX5_init_59 rfl ?_
  refine g_aload_n (q := 63) 0 X dX5_init_62 rfl rfl rfl ?_
  refine g_bipush (q := 65) 16 X dX5_init_63 rfl jb_16 jc_16 ?_
  refine g_newa (q := 67) (len := 16) .int X rfl (Or.inr (Or.inl rfl)) ja_int rfl (by decide) (by decide) (hc _ _ (by decide) (by decide)) dX5_init_65 rfl ?_
  refine g_putRF (q := 70) 5 7 X rfl rfl rfl hi jp_X5_36 (by decide) (by decide) rfl (by decide) dX5_init_67 rfl ?_
  refine g_aload_n (q := 71) 0 X dX5_init_70 rfl rfl rfl ?_
  refine g_bipush (q := 73) 16 X dX5_init_71 rfl jb_16 jc_16 ?_
  refine g_newa (q := 75) (len := 16) .int X rfl (Or.inr (Or.inl rfl)) ja_int rfl (by decide) (by decide) (hc _ _ (by decide) (by decide)) dX5_init_73 rfl ?_
  refine g_putRF (q := 78) 5 8 X rfl rfl rfl hi jp_X5_39 (by decide) (by decide) rfl (by decide) dX5_init_75 rfl ?_
  refine g_aload_n (q := 79) 0 X dX5_init_78 rfl rfl rfl ?_
  refine g_bipush (q := 81) 16 X dX5_init_79 rfl jb_16 jc_16 ?_
  refine g_newa (q := 83) (len := 16) .int X rfl (Or.inr (Or.inl rfl)) ja_int rfl (by decide) (by decide) (hc _ _ (by decide) (by decide)) dX5_init_81 rfl ?_
  refine g_putRF (q := 86) 5 9 X rfl rfl rfl hi jp_X5_42 (by decide) (by decide) rfl (by decide) dX5_init_83 rfl ?_
  refine g_aload_n (q := 87) 0 X dX5_init_86 rfl rfl rfl ?_
  refine g_bipush (q := 89) 16 X dX5_init_87 rfl jb_16 jc_16 ?_
  refine g_newa (q := 91) (len := 16) .int X rfl (Or.inr (Or.inl rfl)) ja_int rfl (by decide) (by decide) (hc _ _ (by decide) (by decide)) dX5_init_89 rfl ?_
  refine g_putRF (q := 94) 5 10 X rfl rfl rfl hi jp_X5_45 (by decide) (by decide) rfl (by decide) dX5_init_91 rfl ?_
  refine g_aload_n (q := 95) 0 X dX5_init_94 rfl rfl rfl ?_
  refine g_bipush (q := 97) 16 X dX5_init_95 rfl jb_16 jc_16 ?_
  refine g_newa (q := 99) (len := 16) .int X rfl (Or.inr (Or.inl rfl)) ja_int rfl (by decide) (by decide) (hc _ _ (by decide) (by decide)) dX5_init_97 rfl ?_
  refine g_putRF (q := 102) 5 11 X rfl rfl rfl hi jp_X5_48 (by decide) (by decide) rfl (by decide) dX5_init_99 rfl ?_
  refine g_aload_n (q := 103) 0 X dX5_init_102 rfl rfl rfl ?_
  refine g_bipush (q := 105) 16 X dX5_init_103 rfl jb_16 jc_16 ?_
  refine g_newa (q := 107) (len := 16) .int X rfl (Or.inr (Or.inl rfl)) ja_int rfl (by decide) (by decide) (hc _ _ (by decide) (by decide)) dX5_init_105 rfl ?_
  refine g_putRF (q := 110) 5 12 X rfl rfl rfl hi jp_X5_51 (by decide) (by decide) rfl (by decide) dX5_init_107 rfl ?_
  refine g_aload_n (q := 111) 0 X dX5_init_110 rfl rfl rfl ?_
  refine g_iconst (q := 112) 4 X dX5_init_111 rfl rfl jc_4 ?_
  refine g_newa (q := 114) (len := 4) .int X rfl (Or.inr (Or.inl rfl)) ja_int rfl (by decide) (by decide) (hc _ _ (by decide) (by decide)) dX5_init_112 rfl ?_
  refine g_putRF (q := 117) 5 13 X rfl rfl rfl hi jp_X5_54 (by decide) (by decide) rfl (by decide) dX5_init_114 rfl ?_
  refine g_aload_n (q := 118) 0 X dX5_init_117 rfl rfl rfl ?_
  refine g_iconst (q := 119) 4 X dX5_init_118 rfl rfl jc_4 ?_
  refine g_newa (q := 121) (len := 4) .int X rfl (Or.inr (Or.inl rfl)) ja_int rfl (by decide) (by decide) (hc _ _ (by decide) (by decide)) dX5_init_119 rfl ?_
  refine g_putRF (q := 124) 5 14 X rfl rfl rfl hi jp_X5_57 (by decide) (by decide) rfl (by decide) dX5_init_121 rfl ?_
  refine g_aload_n (q := 125) 0 X dX5_init_124 rfl rfl rfl ?_
  refine g_iconst (q := 126) 4 X dX5_init_125 rfl rfl jc_4 ?_
  refine g_newa (q := 128) (len := 4) .int X rfl (Or.inr (Or.inl rfl)) ja_int rfl (by decide) (by decide) (hc _ _ (by decide) (by decide)) dX5_init_126 rfl ?_
  refine g_putRF (q := 131) 5 15 X rfl rfl rfl hi jp_X5_60 (by decide) (by decide) rfl (by decide) dX5_init_128 rfl ?_
  refine g_aload_n (q := 132) 0 X dX5_init_131 rfl rfl rfl ?_
  refine g_iconst (q := 133) 3 X dX5_init_132 rfl rfl jc_3 ?_
  refine g_newa (q := 135) (len := 3) .int X rfl (Or.inr (Or.inl rfl)) ja_int rfl (by decide) (by decide) (hc _ _ (by decide) (by decide)) dX5_init_133 rfl ?_
  refine g_putRF (q := 138) 5 16 X rfl rfl rfl hi jp_X5_63 (by decide) (by decide) rfl (by decide) dX5_init_135 rfl ?_
  refine g_aload_n (q := 139) 0 X dX5_init_138 rfl rfl rfl ?_
  refine g_bipush (q := 141) 42 X dX5_init_139 rfl jb_42 jc_42 ?_
  refine g_newa (q := 143) (len := 42) .int X rfl (Or.inr (Or.inl rfl)) ja_int rfl (by decide) (by decide) (hc _ _ (by decide) (by decide)) dX5_init_141 rfl ?_
  refine g_putRF (q := 146) 5 17 X rfl rfl rfl hi jp_X5_66 (by decide) (by decide) rfl (by decide) dX5_init_143 rfl ?_
  exact g_vret (q := 0) X hR dX5_init_146 rfl ⟨rfl, rfl, rfl, rfl⟩
theorem jf_X10_20 : LF RX10 20 10 3 := Or.inl (isW_of 2 164 rfl rfl)
theorem jl_X10_23 : isW (.classLink RX10 23 RX4) = true := isW_of 1 148 rfl rfl
theorem jn_4 : isW (.instantiable RX4 (nfd 4)) = true := isW_of 1 149 rfl rfl
theorem jz_4 : isW (.initialized RX4) = true := isW_of 1 3 rfl rfl
theorem jf_X10_9 : LF RX10 9 10 0 := Or.inl (isW_of 2 161 rfl rfl)
theorem jo_X4 : isW (.methodLink RX4 3 Lib.objectInit) = true := isW_of 1 153 rfl rfl
theorem jl_X4_9 : isW (.classLink RX4 9 RX2) = true := isW_of 1 154 rfl rfl
theorem jn_2 : isW (.instantiable RX2 (nfd 2)) = true := isW_of 1 155 rfl rfl
theorem jz_2 : isW (.initialized RX2) = true := isW_of 1 4 rfl rfl
theorem jo_X2 : isW (.methodLink RX2 3 Lib.objectInit) = true := isW_of 1 159 rfl rfl
theorem jc_51 : inI 51 := by unfold inI; omega
theorem jb_51 : (Int8.ofInt 51).toInt32 = Int32.ofInt 51 := by decide
theorem ja_long : isW (.arrayClass .long) = true := isW_of 1 173 rfl rfl
theorem jp_X2_9 : isW (.fieldLink RX2 9 (cT 2 0).1 (cT 2 0).2.1 (cT 2 0).2.2.1) = true := isW_of 1 160 rfl rfl
theorem jp_X2_15 : isW (.fieldLink RX2 15 (cT 2 1).1 (cT 2 1).2.1 (cT 2 1).2.2.1) = true := isW_of 1 161 rfl rfl
theorem jp_X2_19 : isW (.fieldLink RX2 19 (cT 2 2).1 (cT 2 2).2.1 (cT 2 2).2.2.1) = true := isW_of 1 162 rfl rfl
def ciX2_41 (iv : IV) : IV := (z2 (z2 (z2 iv 42) 43) 44)
def crX2_41 (rv : RV) : RV := (r2 (zr (r2 (zr (r2 (zr rv 42) 41 0 (some 42)) 43) 41 1 (some 43)) 44) 41 2 (some 44))
set_option maxRecDepth 10000 in
theorem cc_X2_41 (iv : IV) (rv : RV) : Call 1 3 153 yX2_init cX2_init 1 none [aR (some 41)] 42 iv rv (fun r n' iv' rv' => r = none ∧ n' = 45 ∧ iv' = ciX2_41 iv ∧ rv' = crX2_41 rv) := by
  refine Call.of (L := [aR (some 41)]) (by decide) rfl (njL_use _ ⟨trivial, trivial⟩) rfl (by decide) (fun Γ X hR hi0 hc => ?_)
  have hi := hi0 rfl
  refine g_aload_n (q := 1) 0 X dX2_init_0 rfl rfl rfl ?_
  refine g_objInit (q := 4) X jo_X2 jo_1 jo_2 (by decide) (Nat.le_of_ble_eq_true rfl) (by decide) dX2_init_1 rfl ?_
  refine g_aload_n (q := 5) 0 X dX2_init_4 rfl rfl rfl ?_
  refine g_bipush (q := 7) 51 X dX2_init_5 rfl jb_51 jc_51 ?_
  refine g_newa (q := 9) (len := 51) .long X rfl (Or.inr (Or.inr (Or.inl rfl))) ja_long rfl (by decide) (by decide) (hc _ _ (by decide) (by decide)) dX2_init_7 rfl ?_
  refine g_putRF (q := 12) 2 0 X rfl rfl rfl hi jp_X2_9 (by decide) (by decide) rfl (by decide) dX2_init_9 rfl ?_
  refine g_aload_n (q := 13) 0 X dX2_init_12 rfl rfl rfl ?_
  refine g_bipush (q := 15) 51 X dX2_init_13 rfl jb_51 jc_51 ?_
  refine g_newa (q := 17) (len := 51) .int X rfl (Or.inr (Or.inl rfl)) ja_int rfl (by decide) (by decide) (hc _ _ (by decide) (by decide)) dX2_init_15 rfl ?_
  refine g_putRF (q := 20) 2 1 X rfl rfl rfl hi jp_X2_15 (by decide) (by decide) rfl (by decide) dX2_init_17 rfl ?_
  refine g_aload_n (q := 21) 0 X dX2_init_20 rfl rfl rfl ?_
  refine g_bipush (q := 23) 51 X dX2_init_21 rfl jb_51 jc_51 ?_
  refine g_newa (q := 25) (len := 51) .int X rfl (Or.inr (Or.inl rfl)) ja_int rfl (by decide) (by decide) (hc _ _ (by decide) (by decide)) dX2_init_23 rfl ?_
  refine g_putRF (q := 28) 2 2 X rfl rfl rfl hi jp_X2_19 (by decide) (by decide) rfl (by decide) dX2_init_25 rfl ?_
  exact g_vret (q := 0) X hR dX2_init_28 rfl ⟨rfl, rfl, rfl, rfl⟩
theorem jk_X4_11 : lkN RX4 11 yX2_init "TollBars" cX2_init 1 0 = true := lkN_of 1 156 1 158 1 4 rfl rfl rfl (by decide +kernel) (by decide +kernel) (by decide)
theorem jm_X2 : isW (.instanceMethod yX2_init) = true := isW_of 1 157 rfl rfl
theorem jp_X4_12 : isW (.fieldLink RX4 12 (cT 4 1).1 (cT 4 1).2.1 (cT 4 1).2.2.1) = true := isW_of 1 203 rfl rfl
theorem jc_8 : inI 8 := by unfold inI; omega
theorem jb_8 : (Int8.ofInt 8).toInt32 = Int32.ofInt 8 := by decide
theorem jp_X4_18 : isW (.fieldLink RX4 18 (cT 4 2).1 (cT 4 2).2.1 (cT 4 2).2.2.1) = true := isW_of 1 204 rfl rfl
theorem jc_m1 : inI (-1) := by unfold inI; omega
theorem jf_X4_22 : LF RX4 22 4 7 := Or.inl (isW_of 1 210 rfl rfl)
theorem jl_X4_26 : isW (.classLink RX4 26 RX7) = true := isW_of 1 174 rfl rfl
theorem jn_7 : isW (.instantiable RX7 (nfd 7)) = true := isW_of 1 175 rfl rfl
theorem jz_7 : isW (.initialized RX7) = true := isW_of 1 5 rfl rfl
theorem jo_X7 : isW (.methodLink RX7 3 Lib.objectInit) = true := isW_of 1 179 rfl rfl
theorem jp_X7_9 : isW (.fieldLink RX7 9 (cT 7 0).1 (cT 7 0).2.1 (cT 7 0).2.2.1) = true := isW_of 1 180 rfl rfl
def ciX7_46 (iv : IV) : IV := iv
def crX7_46 (rv : RV) : RV := (r2 rv 46 0 (some 1))
set_option maxRecDepth 10000 in
theorem cc_X7_46 (iv : IV) (rv : RV) : Call 1 0 0 yX7_init cX7_init 2 none [aR (some 46), aR (some 1)] 47 iv rv (fun r n' iv' rv' => r = none ∧ n' = 47 ∧ iv' = ciX7_46 iv ∧ rv' = crX7_46 rv) := by
  refine Call.of (L := [aR (some 46), aR (some 1)]) (by decide) rfl (njL_use _ ⟨trivial, trivial, trivial⟩) rfl (by decide) (fun Γ X hR hi0 hc => ?_)
  have hi := hi0 rfl
  refine g_aload_n (q := 1) 0 X dX7_init_0 rfl rfl rfl ?_
  refine g_objInit (q := 4) X jo_X7 jo_1 jo_2 (by decide) (Nat.le_of_ble_eq_true rfl) (by decide) dX7_init_1 rfl ?_
  refine g_aload_n (q := 5) 0 X dX7_init_4 rfl rfl rfl ?_
  refine g_aload_n (q := 6) 1 X dX7_init_5 rfl rfl rfl ?_
  refine g_putRF (q := 9) 7 0 X rfl rfl rfl hi jp_X7_9 (by decide) (by decide) rfl (by decide) dX7_init_6 rfl ?_
  exact g_vret (q := 0) X hR dX7_init_9 rfl ⟨rfl, rfl, rfl, rfl⟩
theorem jk_X4_28 : lkM RX4 28 yX7_init cX7_init 2 none 1 = true := lkM_of 1 176 1 178 1 5 rfl rfl rfl (by decide +kernel) (by decide +kernel) (by decide)
theorem jm_X7 : isW (.instanceMethod yX7_init) = true := isW_of 1 177 rfl rfl
theorem jp_X4_31 : isW (.fieldLink RX4 31 (cT 4 0).1 (cT 4 0).2.1 (cT 4 0).2.2.1) = true := isW_of 1 202 rfl rfl
theorem jf_X4_35 : LF RX4 35 4 5 := Or.inl (isW_of 1 207 rfl rfl)
def ciX4_40 (iv : IV) : IV := (ciX7_46 (z2 (w2 (z2 (ciX2_41 (z2 iv 41)) 45) 40 7 (-1)) 46))
def crX4_40 (rv : RV) : RV := (r2 (r2 (crX7_46 (zr (r2 (zr (r2 (crX2_41 (zr rv 41)) 40 1 (some 41)) 45) 40 2 (some 45)) 46)) 40 0 (some 46)) 40 5 (some 21))
set_option maxRecDepth 10000 in
theorem cc_X4_40 (iv : IV) (rv : RV) : Call 2 6 171 yX4_init cX4_init 3 none [aR (some 40), aR (some 1), aR (some 21)] 41 iv rv (fun r n' iv' rv' => r = none ∧ n' = 47 ∧ iv' = ciX4_40 iv ∧ rv' = crX4_40 rv) := by
  refine Call.of (L := [aR (some 40), aR (some 1), aR (some 21)]) (by decide) rfl (njL_use _ ⟨trivial, trivial, trivial, trivial⟩) rfl (by decide) (fun Γ X hR hi0 hc => ?_)
  have hi := hi0 rfl
  refine g_aload_n (q := 1) 0 X dX4_init_0 rfl rfl rfl ?_
  refine g_objInit (q := 4) X jo_X4 jo_1 jo_2 (by decide) (Nat.le_of_ble_eq_true rfl) (by decide) dX4_init_1 rfl ?_
  refine g_aload_n (q := 5) 0 X dX4_init_4 rfl rfl rfl ?_
  refine g_new (q := 8) 2 X (by decide) rfl jl_X4_9 jn_2 jz_2 rfl (by decide) (hc _ _ (by decide) (by decide)) dX4_init_5 rfl ?_
  refine g_dup (q := 9) X dX4_init_8 rfl rfl ?_
  refine g_callIN (q := 12) [] X (cc_X2_41 _ _) jk_X4_11 rfl jm_X2 (by decide) rfl rfl (Nat.le_of_ble_eq_true rfl) (by decide) (hc _ _ (by decide) (by decide)) dX4_init_9 rfl (fun r n_ iv_ rv_ hf _ => ?_)
  obtain ⟨rfl, rfl, rfl, rfl⟩ := hf
  refine g_putRF (q := 15) 4 1 X rfl rfl rfl hi jp_X4_12 (by decide) (by decide) rfl (by decide) dX4_init_12 rfl ?_
  refine g_aload_n (q := 16) 0 X dX4_init_15 rfl rfl rfl ?_
  refine g_bipush (q := 18) 8 X dX4_init_16 rfl jb_8 jc_8 ?_
  refine g_newa (q := 20) (len := 8) .int X rfl (Or.inr (Or.inl rfl)) ja_int rfl (by decide) (by decide) (hc _ _ (by decide) (by decide)) dX4_init_18 rfl ?_
  refine g_putRF (q := 23) 4 2 X rfl rfl rfl hi jp_X4_18 (by decide) (by decide) rfl (by decide) dX4_init_20 rfl ?_
  refine g_aload_n (q := 24) 0 X dX4_init_23 rfl rfl rfl ?_
  refine g_iconst (q := 25) (-1) X dX4_init_24 rfl rfl jc_m1 ?_
  refine g_putI (q := 28) 4 7 X (Or.inl rfl) rfl jf_X4_22 (by decide) (by decide) rfl (by decide) dX4_init_25 rfl ?_
  refine g_aload_n (q := 29) 0 X dX4_init_28 rfl rfl rfl ?_
  refine g_new (q := 32) 7 X (by decide) rfl jl_X4_26 jn_7 jz_7 rfl (by decide) (hc _ _ (by decide) (by decide)) dX4_init_29 rfl ?_
  refine g_dup (q := 33) X dX4_init_32 rfl rfl ?_
  refine g_aload_n (q := 34) 1 X dX4_init_33 rfl rfl rfl ?_
  refine g_callI (q := 37) [aR (some 1)] X (cc_X7_46 _ _) jk_X4_28 rfl jm_X7 (by decide) rfl rfl (Nat.le_of_ble_eq_true rfl) (by decide) (hc _ _ (by decide) (by decide)) dX4_init_34 rfl (fun r n_ iv_ rv_ hf _ => ?_)
  obtain ⟨rfl, rfl, rfl, rfl⟩ := hf
  refine g_putRF (q := 40) 4 0 X rfl rfl rfl hi jp_X4_31 (by decide) (by decide) rfl (by decide) dX4_init_37 rfl ?_
  refine g_aload_n (q := 41) 0 X dX4_init_40 rfl rfl rfl ?_
  refine g_aload_n (q := 42) 2 X dX4_init_41 rfl rfl rfl ?_
  refine g_putR (q := 45) 4 5 X rfl rfl jf_X4_35 (by decide) (by decide) rfl (by decide) dX4_init_42 rfl ?_
  exact g_vret (q := 0) X hR dX4_init_45 rfl ⟨rfl, rfl, rfl, rfl⟩
theorem jk_X10_25 : lkM RX10 25 yX4_init cX4_init 3 none 2 = true := lkM_of 1 150 1 152 1 3 rfl rfl rfl (by decide +kernel) (by decide +kernel) (by decide)
theorem jm_X4 : isW (.instanceMethod yX4_init) = true := isW_of 1 151 rfl rfl
theorem jp_X10_28 : isW (.fieldLink RX10 28 (cT 10 4).1 (cT 10 4).2.1 (cT 10 4).2.2.1) = true := isW_of 2 165 rfl rfl
theorem jl_X10_32 : isW (.classLink RX10 32 RX1) = true := isW_of 1 229 rfl rfl
theorem jn_1 : isW (.instantiable RX1 (nfd 1)) = true := isW_of 1 230 rfl rfl
theorem jz_1 : isW (.initialized RX1) = true := isW_of 1 6 rfl rfl
theorem jo_X1 : isW (.methodLink RX1 3 Lib.objectInit) = true := isW_of 1 234 rfl rfl
theorem jl_X1_9 : isW (.classLink RX1 9 RX8) = true := isW_of 1 235 rfl rfl
theorem jn_8 : isW (.instantiable RX8 (nfd 8)) = true := isW_of 1 236 rfl rfl
theorem jz_8 : isW (.initialized RX8) = true := isW_of 1 7 rfl rfl
theorem jo_X8 : isW (.methodLink RX8 3 Lib.objectInit) = true := isW_of 2 0 rfl rfl
theorem jp_X8_9 : isW (.fieldLink RX8 9 (cT 8 0).1 (cT 8 0).2.1 (cT 8 0).2.2.1) = true := isW_of 2 1 rfl rfl
theorem jp_X8_15 : isW (.fieldLink RX8 15 (cT 8 1).1 (cT 8 1).2.1 (cT 8 1).2.2.1) = true := isW_of 2 2 rfl rfl
def ciX8_48 (iv : IV) : IV := (z2 (z2 iv 49) 50)
def crX8_48 (rv : RV) : RV := (r2 (zr (r2 (zr rv 49) 48 0 (some 49)) 50) 48 1 (some 50))
set_option maxRecDepth 10000 in
theorem cc_X8_48 (iv : IV) (rv : RV) : Call 1 2 28 yX8_init cX8_init 1 none [aR (some 48)] 49 iv rv (fun r n' iv' rv' => r = none ∧ n' = 51 ∧ iv' = ciX8_48 iv ∧ rv' = crX8_48 rv) := by
  refine Call.of (L := [aR (some 48)]) (by decide) rfl (njL_use _ ⟨trivial, trivial⟩) rfl (by decide) (fun Γ X hR hi0 hc => ?_)
  have hi := hi0 rfl
  refine g_aload_n (q := 1) 0 X dX8_init_0 rfl rfl rfl ?_
  refine g_objInit (q := 4) X jo_X8 jo_1 jo_2 (by decide) (Nat.le_of_ble_eq_true rfl) (by decide) dX8_init_1 rfl ?_
  refine g_aload_n (q := 5) 0 X dX8_init_4 rfl rfl rfl ?_
  refine g_bipush (q := 7) 20 X dX8_init_5 rfl jb_20 jc_20 ?_
  refine g_newa (q := 9) (len := 20) .int X rfl (Or.inr (Or.inl rfl)) ja_int rfl (by decide) (by decide) (hc _ _ (by decide) (by decide)) dX8_init_7 rfl ?_
  refine g_putRF (q := 12) 8 0 X rfl rfl rfl hi jp_X8_9 (by decide) (by decide) rfl (by decide) dX8_init_9 rfl ?_
  refine g_aload_n (q := 13) 0 X dX8_init_12 rfl rfl rfl ?_
  refine g_bipush (q := 15) 8 X dX8_init_13 rfl jb_8 jc_8 ?_
  refine g_newa (q := 17) (len := 8) .int X rfl (Or.inr (Or.inl rfl)) ja_int rfl (by decide) (by decide) (hc _ _ (by decide) (by decide)) dX8_init_15 rfl ?_
  refine g_putRF (q := 20) 8 1 X rfl rfl rfl hi jp_X8_15 (by decide) (by decide) rfl (by decide) dX8_init_17 rfl ?_
  exact g_vret (q := 0) X hR dX8_init_20 rfl ⟨rfl, rfl, rfl, rfl⟩
theorem jk_X1_11 : lkN RX1 11 yX8_init "TollBars" cX8_init 1 0 = true := lkN_of 1 237 1 239 1 7 rfl rfl rfl (by decide +kernel) (by decide +kernel) (by decide)
theorem jm_X8 : isW (.instanceMethod yX8_init) = true := isW_of 1 238 rfl rfl
theorem jp_X1_12 : isW (.fieldLink RX1 12 (cT 1 1).1 (cT 1 1).2.1 (cT 1 1).2.2.1) = true := isW_of 2 121 rfl rfl
theorem jf_X1_18 : LF RX1 18 1 3 := Or.inl (isW_of 2 124 rfl rfl)
theorem jl_X1_22 : isW (.classLink RX1 22 RX6) = true := isW_of 2 10 rfl rfl
theorem jn_6 : isW (.instantiable RX6 (nfd 6)) = true := isW_of 2 11 rfl rfl
theorem jz_6 : isW (.initialized RX6) = true := isW_of 1 8 rfl rfl
theorem jo_X6 : isW (.methodLink RX6 3 Lib.objectInit) = true := isW_of 2 15 rfl rfl
theorem jp_X6_9 : isW (.fieldLink RX6 9 (cT 6 0).1 (cT 6 0).2.1 (cT 6 0).2.2.1) = true := isW_of 2 16 rfl rfl
theorem jp_X6_15 : isW (.fieldLink RX6 15 (cT 6 1).1 (cT 6 1).2.1 (cT 6 1).2.2.1) = true := isW_of 2 18 rfl rfl
theorem ja_boolean : isW (.arrayClass .boolean) = true := isW_of 2 76 rfl rfl
theorem jp_X6_18 : isW (.fieldLink RX6 18 (cT 6 2).1 (cT 6 2).2.1 (cT 6 2).2.2.1) = true := isW_of 2 20 rfl rfl
theorem jp_X6_22 : isW (.fieldLink RX6 22 (cT 6 3).1 (cT 6 3).2.1 (cT 6 3).2.2.1) = true := isW_of 2 24 rfl rfl
theorem jp_X6_25 : isW (.fieldLink RX6 25 (cT 6 4).1 (cT 6 4).2.1 (cT 6 4).2.2.1) = true := isW_of 2 26 rfl rfl
theorem jp_X6_28 : isW (.fieldLink RX6 28 (cT 6 5).1 (cT 6 5).2.1 (cT 6 5).2.2.1) = true := isW_of 2 28 rfl rfl
theorem jf_X6_31 : LF RX6 31 6 6 := Or.inl (isW_of 2 30 rfl rfl)
def ciX6_51 (iv : IV) : IV := (z2 (z2 (z2 (z2 (z2 (z2 iv 52) 53) 54) 55) 56) 57)
def crX6_51 (rv : RV) : RV := (r2 (r2 (zr (r2 (zr (r2 (zr (r2 (zr (r2 (zr (r2 (zr rv 52) 51 0 (some 52)) 53) 51 1 (some 53)) 54) 51 2 (some 54)) 55) 51 3 (some 55)) 56) 51 4 (some 56)) 57) 51 5 (some 57)) 51 6 (some 2))
set_option maxRecDepth 10000 in
theorem cc_X6_51 (iv : IV) (rv : RV) : Call 1 6 96 yX6_init cX6_init 2 none [aR (some 51), aR (some 2)] 52 iv rv (fun r n' iv' rv' => r = none ∧ n' = 58 ∧ iv' = ciX6_51 iv ∧ rv' = crX6_51 rv) := by
  refine Call.of (L := [aR (some 51), aR (some 2)]) (by decide) rfl (njL_use _ ⟨trivial, trivial, trivial⟩) rfl (by decide) (fun Γ X hR hi0 hc => ?_)
  have hi := hi0 rfl
  refine g_aload_n (q := 1) 0 X dX6_init_0 rfl rfl rfl ?_
  refine g_objInit (q := 4) X jo_X6 jo_1 jo_2 (by decide) (Nat.le_of_ble_eq_true rfl) (by decide) dX6_init_1 rfl ?_
  refine g_aload_n (q := 5) 0 X dX6_init_4 rfl rfl rfl ?_
  refine g_bipush (q := 7) 16 X dX6_init_5 rfl jb_16 jc_16 ?_
  refine g_newa (q := 9) (len := 16) .int X rfl (Or.inr (Or.inl rfl)) ja_int rfl (by decide) (by decide) (hc _ _ (by decide) (by decide)) dX6_init_7 rfl ?_
  refine g_putRF (q := 12) 6 0 X rfl rfl rfl hi jp_X6_9 (by decide) (by decide) rfl (by decide) dX6_init_9 rfl ?_
  refine g_aload_n (q := 13) 0 X dX6_init_12 rfl rfl rfl ?_
  refine g_bipush (q := 15) 16 X dX6_init_13 rfl jb_16 jc_16 ?_
  refine g_newa (q := 17) (len := 16) .int X rfl (Or.inr (Or.inl rfl)) ja_int rfl (by decide) (by decide) (hc _ _ (by decide) (by decide)) dX6_init_15 rfl ?_
  refine g_putRF (q := 20) 6 1 X rfl rfl rfl hi jp_X6_15 (by decide) (by decide) rfl (by decide) dX6_init_17 rfl ?_
  refine g_aload_n (q := 21) 0 X dX6_init_20 rfl rfl rfl ?_
  refine g_bipush (q := 23) 16 X dX6_init_21 rfl jb_16 jc_16 ?_
  refine g_newa (q := 25) (len := 16) .boolean X rfl (Or.inr (Or.inr (Or.inr rfl))) ja_boolean rfl (by decide) (by decide) (hc _ _ (by decide) (by decide)) dX6_init_23 rfl ?_
  refine g_putRF (q := 28) 6 2 X rfl rfl rfl hi jp_X6_18 (by decide) (by decide) rfl (by decide) dX6_init_25 rfl ?_
  refine g_aload_n (q := 29) 0 X dX6_init_28 rfl rfl rfl ?_
  refine g_bipush (q := 31) 16 X dX6_init_29 rfl jb_16 jc_16 ?_
  refine g_newa (q := 33) (len := 16) .int X rfl (Or.inr (Or.inl rfl)) ja_int rfl (by decide) (by decide) (hc _ _ (by decide) (by decide)) dX6_init_31 rfl ?_
  refine g_putRF (q := 36) 6 3 X rfl rfl rfl hi jp_X6_22 (by decide) (by decide) rfl (by decide) dX6_init_33 rfl ?_
  refine g_aload_n (q := 37) 0 X dX6_init_36 rfl rfl rfl ?_
  refine g_bipush (q := 39) 16 X dX6_init_37 rfl jb_16 jc_16 ?_
  refine g_newa (q := 41) (len := 16) .int X rfl (Or.inr (Or.inl rfl)) ja_int rfl (by decide) (by decide) (hc _ _ (by decide) (by decide)) dX6_init_39 rfl ?_
  refine g_putRF (q := 44) 6 4 X rfl rfl rfl hi jp_X6_25 (by decide) (by decide) rfl (by decide) dX6_init_41 rfl ?_
  refine g_aload_n (q := 45) 0 X dX6_init_44 rfl rfl rfl ?_
  refine g_bipush (q := 47) 16 X dX6_init_45 rfl jb_16 jc_16 ?_
  refine g_newa (q := 49) (len := 16) .int X rfl (Or.inr (Or.inl rfl)) ja_int rfl (by decide) (by decide) (hc _ _ (by decide) (by decide)) dX6_init_47 rfl ?_
  refine g_putRF (q := 52) 6 5 X rfl rfl rfl hi jp_X6_28 (by decide) (by decide) rfl (by decide) dX6_init_49 rfl ?_
  refine g_aload_n (q := 53) 0 X dX6_init_52 rfl rfl rfl ?_
  refine g_aload_n (q := 54) 1 X dX6_init_53 rfl rfl rfl ?_
  refine g_putR (q := 57) 6 6 X rfl rfl jf_X6_31 (by decide) (by decide) rfl (by decide) dX6_init_54 rfl ?_
  exact g_vret (q := 0) X hR dX6_init_57 rfl ⟨rfl, rfl, rfl, rfl⟩
theorem jk_X1_24 : lkM RX1 24 yX6_init cX6_init 2 none 1 = true := lkM_of 2 12 2 14 1 8 rfl rfl rfl (by decide +kernel) (by decide +kernel) (by decide)
theorem jm_X6 : isW (.instanceMethod yX6_init) = true := isW_of 2 13 rfl rfl
theorem jp_X1_27 : isW (.fieldLink RX1 27 (cT 1 0).1 (cT 1 0).2.1 (cT 1 0).2.2.1) = true := isW_of 2 119 rfl rfl
theorem jl_X1_31 : isW (.classLink RX1 31 RX0) = true := isW_of 2 77 rfl rfl
theorem jn_0 : isW (.instantiable RX0 (nfd 0)) = true := isW_of 2 78 rfl rfl
theorem jz_0 : isW (.initialized RX0) = true := isW_of 1 9 rfl rfl
theorem jf_X1_27 : LF RX1 27 1 0 := Or.inl (isW_of 2 119 rfl rfl)
theorem jo_X0 : isW (.methodLink RX0 3 Lib.objectInit) = true := isW_of 2 82 rfl rfl
theorem jl_X0_9 : isW (.classLink RX0 9 RX3) = true := isW_of 2 83 rfl rfl
theorem jn_3 : isW (.instantiable RX3 (nfd 3)) = true := isW_of 2 84 rfl rfl
theorem jz_3 : isW (.initialized RX3) = true := isW_of 1 10 rfl rfl
theorem jo_X3 : isW (.methodLink RX3 3 Lib.objectInit) = true := isW_of 2 88 rfl rfl
theorem jp_X3_9 : isW (.fieldLink RX3 9 (cT 3 0).1 (cT 3 0).2.1 (cT 3 0).2.2.1) = true := isW_of 2 89 rfl rfl
theorem jp_X3_15 : isW (.fieldLink RX3 15 (cT 3 1).1 (cT 3 1).2.1 (cT 3 1).2.2.1) = true := isW_of 2 91 rfl rfl
def ciX3_59 (iv : IV) : IV := (z2 (z2 iv 60) 61)
def crX3_59 (rv : RV) : RV := (r2 (zr (r2 (zr rv 60) 59 0 (some 60)) 61) 59 1 (some 61))
set_option maxRecDepth 10000 in
theorem cc_X3_59 (iv : IV) (rv : RV) : Call 1 2 16 yX3_init cX3_init 1 none [aR (some 59)] 60 iv rv (fun r n' iv' rv' => r = none ∧ n' = 62 ∧ iv' = ciX3_59 iv ∧ rv' = crX3_59 rv) := by
  refine Call.of (L := [aR (some 59)]) (by decide) rfl (njL_use _ ⟨trivial, trivial⟩) rfl (by decide) (fun Γ X hR hi0 hc => ?_)
  have hi := hi0 rfl
  refine g_aload_n (q := 1) 0 X dX3_init_0 rfl rfl rfl ?_
  refine g_objInit (q := 4) X jo_X3 jo_1 jo_2 (by decide) (Nat.le_of_ble_eq_true rfl) (by decide) dX3_init_1 rfl ?_
  refine g_aload_n (q := 5) 0 X dX3_init_4 rfl rfl rfl ?_
  refine g_bipush (q := 7) 8 X dX3_init_5 rfl jb_8 jc_8 ?_
  refine g_newa (q := 9) (len := 8) .int X rfl (Or.inr (Or.inl rfl)) ja_int rfl (by decide) (by decide) (hc _ _ (by decide) (by decide)) dX3_init_7 rfl ?_
  refine g_putRF (q := 12) 3 0 X rfl rfl rfl hi jp_X3_9 (by decide) (by decide) rfl (by decide) dX3_init_9 rfl ?_
  refine g_aload_n (q := 13) 0 X dX3_init_12 rfl rfl rfl ?_
  refine g_bipush (q := 15) 8 X dX3_init_13 rfl jb_8 jc_8 ?_
  refine g_newa (q := 17) (len := 8) .int X rfl (Or.inr (Or.inl rfl)) ja_int rfl (by decide) (by decide) (hc _ _ (by decide) (by decide)) dX3_init_15 rfl ?_
  refine g_putRF (q := 20) 3 1 X rfl rfl rfl hi jp_X3_15 (by decide) (by decide) rfl (by decide) dX3_init_17 rfl ?_
  exact g_vret (q := 0) X hR dX3_init_20 rfl ⟨rfl, rfl, rfl, rfl⟩
theorem jk_X0_11 : lkN RX0 11 yX3_init "TollBars" cX3_init 1 0 = true := lkN_of 2 85 2 87 1 10 rfl rfl rfl (by decide +kernel) (by decide +kernel) (by decide)
theorem jm_X3 : isW (.instanceMethod yX3_init) = true := isW_of 2 86 rfl rfl
theorem jp_X0_12 : isW (.fieldLink RX0 12 (cT 0 0).1 (cT 0 0).2.1 (cT 0 0).2.2.1) = true := isW_of 2 102 rfl rfl
theorem jp_X0_18 : isW (.fieldLink RX0 18 (cT 0 1).1 (cT 0 1).2.1 (cT 0 1).2.2.1) = true := isW_of 2 104 rfl rfl
theorem jp_X0_22 : isW (.fieldLink RX0 22 (cT 0 2).1 (cT 0 2).2.1 (cT 0 2).2.2.1) = true := isW_of 2 105 rfl rfl
def ciX0_58 (iv : IV) : IV := (z2 (ciX3_59 (z2 iv 59)) 62)
def crX0_58 (rv : RV) : RV := (r2 (r2 (zr (r2 (crX3_59 (zr rv 59)) 58 0 (some 59)) 62) 58 1 (some 62)) 58 2 (some 51))
set_option maxRecDepth 10000 in
theorem cc_X0_58 (iv : IV) (rv : RV) : Call 2 4 35 yX0_init cX0_init 2 none [aR (some 58), aR (some 51)] 59 iv rv (fun r n' iv' rv' => r = none ∧ n' = 63 ∧ iv' = ciX0_58 iv ∧ rv' = crX0_58 rv) := by
  refine Call.of (L := [aR (some 58), aR (some 51)]) (by decide) rfl (njL_use _ ⟨trivial, trivial, trivial⟩) rfl (by decide) (fun Γ X hR hi0 hc => ?_)
  have hi := hi0 rfl
  refine g_aload_n (q := 1) 0 X dX0_init_0 rfl rfl rfl ?_
  refine g_objInit (q := 4) X jo_X0 jo_1 jo_2 (by decide) (Nat.le_of_ble_eq_true rfl) (by decide) dX0_init_1 rfl ?_
  refine g_aload_n (q := 5) 0 X dX0_init_4 rfl rfl rfl ?_
  refine g_new (q := 8) 3 X (by decide) rfl jl_X0_9 jn_3 jz_3 rfl (by decide) (hc _ _ (by decide) (by decide)) dX0_init_5 rfl ?_
  refine g_dup (q := 9) X dX0_init_8 rfl rfl ?_
  refine g_callIN (q := 12) [] X (cc_X3_59 _ _) jk_X0_11 rfl jm_X3 (by decide) rfl rfl (Nat.le_of_ble_eq_true rfl) (by decide) (hc _ _ (by decide) (by decide)) dX0_init_9 rfl (fun r n_ iv_ rv_ hf _ => ?_)
  obtain ⟨rfl, rfl, rfl, rfl⟩ := hf
  refine g_putRF (q := 15) 0 0 X rfl rfl rfl hi jp_X0_12 (by decide) (by decide) rfl (by decide) dX0_init_12 rfl ?_
  refine g_aload_n (q := 16) 0 X dX0_init_15 rfl rfl rfl ?_
  refine g_bipush (q := 18) 16 X dX0_init_16 rfl jb_16 jc_16 ?_
  refine g_newa (q := 20) (len := 16) .int X rfl (Or.inr (Or.inl rfl)) ja_int rfl (by decide) (by decide) (hc _ _ (by decide) (by decide)) dX0_init_18 rfl ?_
  refine g_putRF (q := 23) 0 1 X rfl rfl rfl hi jp_X0_18 (by decide) (by decide) rfl (by decide) dX0_init_20 rfl ?_
  refine g_aload_n (q := 24) 0 X dX0_init_23 rfl rfl rfl ?_
  refine g_aload_n (q := 25) 1 X dX0_init_24 rfl rfl rfl ?_
  refine g_putRF (q := 28) 0 2 X rfl rfl rfl hi jp_X0_22 (by decide) (by decide) rfl (by decide) dX0_init_25 rfl ?_
  exact g_vret (q := 0) X hR dX0_init_28 rfl ⟨rfl, rfl, rfl, rfl⟩
theorem jk_X1_33 : lkM RX1 33 yX0_init cX0_init 2 none 1 = true := lkM_of 2 79 2 81 1 9 rfl rfl rfl (by decide +kernel) (by decide +kernel) (by decide)
theorem jm_X0 : isW (.instanceMethod yX0_init) = true := isW_of 2 80 rfl rfl
theorem jp_X1_36 : isW (.fieldLink RX1 36 (cT 1 2).1 (cT 1 2).2.1 (cT 1 2).2.2.1) = true := isW_of 2 123 rfl rfl
def ciX1_47 (iv : IV) : IV := (ciX0_58 (z2 (ciX6_51 (z2 (ciX8_48 (z2 iv 48)) 51)) 58))
def crX1_47 (rv : RV) : RV := (r2 (crX0_58 (zr (r2 (crX6_51 (zr (r2 (r2 (crX8_48 (zr rv 48)) 47 1 (some 48)) 47 3 (some 2)) 51)) 47 0 (some 51)) 58)) 47 2 (some 58))
set_option maxRecDepth 10000 in
theorem cc_X1_47 (iv : IV) (rv : RV) : Call 3 15 181 yX1_init cX1_init 2 none [aR (some 47), aR (some 2)] 48 iv rv (fun r n' iv' rv' => r = none ∧ n' = 63 ∧ iv' = ciX1_47 iv ∧ rv' = crX1_47 rv) := by
  refine Call.of (L := [aR (some 47), aR (some 2)]) (by decide) rfl (njL_use _ ⟨trivial, trivial, trivial⟩) rfl (by decide) (fun Γ X hR hi0 hc => ?_)
  have hi := hi0 rfl
  refine g_aload_n (q := 1) 0 X dX1_init_0 rfl rfl rfl ?_
  refine g_objInit (q := 4) X jo_X1 jo_1 jo_2 (by decide) (Nat.le_of_ble_eq_true rfl) (by decide) dX1_init_1 rfl ?_
  refine g_aload_n (q := 5) 0 X dX1_init_4 rfl rfl rfl ?_
  refine g_new (q := 8) 8 X (by decide) rfl jl_X1_9 jn_8 jz_8 rfl (by decide) (hc _ _ (by decide) (by decide)) dX1_init_5 rfl ?_
  refine g_dup (q := 9) X dX1_init_8 rfl rfl ?_
  refine g_callIN (q := 12) [] X (cc_X8_48 _ _) jk_X1_11 rfl jm_X8 (by decide) rfl rfl (Nat.le_of_ble_eq_true rfl) (by decide) (hc _ _ (by decide) (by decide)) dX1_init_9 rfl (fun r n_ iv_ rv_ hf _ => ?_)
  obtain ⟨rfl, rfl, rfl, rfl⟩ := hf
  refine g_putRF (q := 15) 1 1 X rfl rfl rfl hi jp_X1_12 (by decide) (by decide) rfl (by decide) dX1_init_12 rfl ?_
  refine g_aload_n (q := 16) 0 X dX1_init_15 rfl rfl rfl ?_
  refine g_aload_n (q := 17) 1 X dX1_init_16 rfl rfl rfl ?_
  refine g_putR (q := 20) 1 3 X rfl rfl jf_X1_18 (by decide) (by decide) rfl (by decide) dX1_init_17 rfl ?_
  refine g_aload_n (q := 21) 0 X dX1_init_20 rfl rfl rfl ?_
  refine g_new (q := 24) 6 X (by decide) rfl jl_X1_22 jn_6 jz_6 rfl (by decide) (hc _ _ (by decide) (by decide)) dX1_init_21 rfl ?_
  refine g_dup (q := 25) X dX1_init_24 rfl rfl ?_
  refine g_aload_n (q := 26) 1 X dX1_init_25 rfl rfl rfl ?_
  refine g_callI (q := 29) [aR (some 2)] X (cc_X6_51 _ _) jk_X1_24 rfl jm_X6 (by decide) rfl rfl (Nat.le_of_ble_eq_true rfl) (by decide) (hc _ _ (by decide) (by decide)) dX1_init_26 rfl (fun r n_ iv_ rv_ hf _ => ?_)
  obtain ⟨rfl, rfl, rfl, rfl⟩ := hf
  refine g_putRF (q := 32) 1 0 X rfl rfl rfl hi jp_X1_27 (by decide) (by decide) rfl (by decide) dX1_init_29 rfl ?_
  refine g_aload_n (q := 33) 0 X dX1_init_32 rfl rfl rfl ?_
  refine g_new (q := 36) 0 X (by decide) rfl jl_X1_31 jn_0 jz_0 rfl (by decide) (hc _ _ (by decide) (by decide)) dX1_init_33 rfl ?_
  refine g_dup (q := 37) X dX1_init_36 rfl rfl ?_
  refine g_aload_n (q := 38) 0 X dX1_init_37 rfl rfl rfl ?_
  refine g_getR (q := 41) (r := some 51) 1 0 X rfl (lt2000 (c := 0) (by decide)) jf_X1_27 (by decide) (by decide) rfl rfl (by decide) dX1_init_38 rfl ?_
  refine g_callI (q := 44) [aR (some 51)] X (cc_X0_58 _ _) jk_X1_33 rfl jm_X0 (by decide) rfl rfl (Nat.le_of_ble_eq_true rfl) (by decide) (hc _ _ (by decide) (by decide)) dX1_init_41 rfl (fun r n_ iv_ rv_ hf _ => ?_)
  obtain ⟨rfl, rfl, rfl, rfl⟩ := hf
  refine g_putRF (q := 47) 1 2 X rfl rfl rfl hi jp_X1_36 (by decide) (by decide) rfl (by decide) dX1_init_44 rfl ?_
  exact g_vret (q := 0) X hR dX1_init_47 rfl ⟨rfl, rfl, rfl, rfl⟩
theorem jk_X10_34 : lkM RX10 34 yX1_init cX1_init 2 none 1 = true := lkM_of 1 231 1 233 1 6 rfl rfl rfl (by decide +kernel) (by decide +kernel) (by decide)
theorem jm_X1 : isW (.instanceMethod yX1_init) = true := isW_of 1 232 rfl rfl
theorem jp_X10_37 : isW (.fieldLink RX10 37 (cT 10 5).1 (cT 10 5).2.1 (cT 10 5).2.2.1) = true := isW_of 2 166 rfl rfl
theorem jl_X10_41 : isW (.classLink RX10 41 RX9) = true := isW_of 2 134 rfl rfl
theorem jn_9 : isW (.instantiable RX9 (nfd 9)) = true := isW_of 2 135 rfl rfl
theorem jz_9 : isW (.initialized RX9) = true := isW_of 1 11 rfl rfl
theorem jo_X9 : isW (.methodLink RX9 3 Lib.objectInit) = true := isW_of 2 139 rfl rfl
theorem jp_X9_9 : isW (.fieldLink RX9 9 (cT 9 0).1 (cT 9 0).2.1 (cT 9 0).2.2.1) = true := isW_of 2 140 rfl rfl
theorem jp_X9_15 : isW (.fieldLink RX9 15 (cT 9 1).1 (cT 9 1).2.1 (cT 9 1).2.2.1) = true := isW_of 2 142 rfl rfl
def ciX9_63 (iv : IV) : IV := (z2 (z2 iv 64) 65)
def crX9_63 (rv : RV) : RV := (r2 (zr (r2 (zr rv 64) 63 0 (some 64)) 65) 63 1 (some 65))
set_option maxRecDepth 10000 in
theorem cc_X9_63 (iv : IV) (rv : RV) : Call 1 2 16 yX9_init cX9_init 1 none [aR (some 63)] 64 iv rv (fun r n' iv' rv' => r = none ∧ n' = 66 ∧ iv' = ciX9_63 iv ∧ rv' = crX9_63 rv) := by
  refine Call.of (L := [aR (some 63)]) (by decide) rfl (njL_use _ ⟨trivial, trivial⟩) rfl (by decide) (fun Γ X hR hi0 hc => ?_)
  have hi := hi0 rfl
  refine g_aload_n (q := 1) 0 X dX9_init_0 rfl rfl rfl ?_
  refine g_objInit (q := 4) X jo_X9 jo_1 jo_2 (by decide) (Nat.le_of_ble_eq_true rfl) (by decide) dX9_init_1 rfl ?_
  refine g_aload_n (q := 5) 0 X dX9_init_4 rfl rfl rfl ?_
  refine g_bipush (q := 7) 8 X dX9_init_5 rfl jb_8 jc_8 ?_
  refine g_newa (q := 9) (len := 8) .int X rfl (Or.inr (Or.inl rfl)) ja_int rfl (by decide) (by decide) (hc _ _ (by decide) (by decide)) dX9_init_7 rfl ?_
  refine g_putRF (q := 12) 9 0 X rfl rfl rfl hi jp_X9_9 (by decide) (by decide) rfl (by decide) dX9_init_9 rfl ?_
  refine g_aload_n (q := 13) 0 X dX9_init_12 rfl rfl rfl ?_
  refine g_bipush (q := 15) 8 X dX9_init_13 rfl jb_8 jc_8 ?_
  refine g_newa (q := 17) (len := 8) .int X rfl (Or.inr (Or.inl rfl)) ja_int rfl (by decide) (by decide) (hc _ _ (by decide) (by decide)) dX9_init_15 rfl ?_
  refine g_putRF (q := 20) 9 1 X rfl rfl rfl hi jp_X9_15 (by decide) (by decide) rfl (by decide) dX9_init_17 rfl ?_
  exact g_vret (q := 0) X hR dX9_init_20 rfl ⟨rfl, rfl, rfl, rfl⟩
theorem jk_X10_43 : lkN RX10 43 yX9_init "TollBars" cX9_init 1 0 = true := lkN_of 2 136 2 138 1 11 rfl rfl rfl (by decide +kernel) (by decide +kernel) (by decide)
theorem jm_X9 : isW (.instanceMethod yX9_init) = true := isW_of 2 137 rfl rfl
theorem jp_X10_44 : isW (.fieldLink RX10 44 (cT 10 6).1 (cT 10 6).2.1 (cT 10 6).2.2.1) = true := isW_of 2 167 rfl rfl
def ciX10_0 (iv : IV) : IV := (ciX9_63 (z2 (ciX1_47 (z2 (ciX4_40 (z2 (ciX5_21 (z2 (ciX5_2 (z2 (z2 iv 1) 2)) 21)) 40)) 47)) 63))
def crX10_0 (rv : RV) : RV := (r2 (crX9_63 (zr (r2 (crX1_47 (zr (r2 (crX4_40 (zr (r2 (crX5_21 (zr (r2 (crX5_2 (zr (r2 (zr rv 1) 0 0 (some 1)) 2)) 0 2 (some 2)) 21)) 0 3 (some 21)) 40)) 0 4 (some 40)) 47)) 0 5 (some 47)) 63)) 0 6 (some 63))
set_option maxRecDepth 10000 in
theorem cc_X10_0 (iv : IV) (rv : RV) : Call 4 65 1835 yX10_init cX10_init 1 none [aR (some 0)] 1 iv rv (fun r n' iv' rv' => r = none ∧ n' = 66 ∧ iv' = ciX10_0 iv ∧ rv' = crX10_0 rv) := by
  refine Call.of (L := [aR (some 0)]) (by decide) rfl (njL_use _ ⟨trivial, trivial⟩) rfl (by decide) (fun Γ X hR hi0 hc => ?_)
  have hi := hi0 rfl
  refine g_aload_n (q := 1) 0 X dX10_init_0 rfl rfl rfl ?_
  refine g_objInit (q := 4) X jo_X10 jo_1 jo_2 (by decide) (Nat.le_of_ble_eq_true rfl) (by decide) dX10_init_1 rfl ?_
  refine g_aload_n (q := 5) 0 X dX10_init_4 rfl rfl rfl ?_
  refine g_sipush (q := 8) 900 X dX10_init_5 rfl js_900 jc_900 ?_
  refine g_newa (q := 10) (len := 900) .byte X rfl (Or.inl rfl) ja_byte rfl (by decide) (by decide) (hc _ _ (by decide) (by decide)) dX10_init_8 rfl ?_
  refine g_putRF (q := 13) 10 0 X rfl rfl rfl hi jp_X10_9 (by decide) (by decide) rfl (by decide) dX10_init_10 rfl ?_
  refine g_aload_n (q := 14) 0 X dX10_init_13 rfl rfl rfl ?_
  refine g_new (q := 17) 5 X (by decide) rfl jl_X10_13 jn_5 jz_5 rfl (by decide) (hc _ _ (by decide) (by decide)) dX10_init_14 rfl ?_
  refine g_dup (q := 18) X dX10_init_17 rfl rfl ?_
  refine g_callIN (q := 21) [] X (cc_X5_2 _ _) jk_X10_15 rfl jm_X5 (by decide) rfl rfl (Nat.le_of_ble_eq_true rfl) (by decide) (hc _ _ (by decide) (by decide)) dX10_init_18 rfl (fun r n_ iv_ rv_ hf _ => ?_)
  obtain ⟨rfl, rfl, rfl, rfl⟩ := hf
  refine g_putR (q := 24) 10 2 X rfl rfl jf_X10_16 (by decide) (by decide) rfl (by decide) dX10_init_21 rfl ?_
  refine g_aload_n (q := 25) 0 X dX10_init_24 rfl rfl rfl ?_
  refine g_new (q := 28) 5 X (by decide) rfl jl_X10_13 jn_5 jz_5 rfl (by decide) (hc _ _ (by decide) (by decide)) dX10_init_25 rfl ?_
  refine g_dup (q := 29) X dX10_init_28 rfl rfl ?_
  refine g_callIN (q := 32) [] X (cc_X5_21 _ _) jk_X10_15 rfl jm_X5 (by decide) rfl rfl (Nat.le_of_ble_eq_true rfl) (by decide) (hc _ _ (by decide) (by decide)) dX10_init_29 rfl (fun r n_ iv_ rv_ hf _ => ?_)
  obtain ⟨rfl, rfl, rfl, rfl⟩ := hf
  refine g_putR (q := 35) 10 3 X rfl rfl jf_X10_20 (by decide) (by decide) rfl (by decide) dX10_init_32 rfl ?_
  refine g_aload_n (q := 36) 0 X dX10_init_35 rfl rfl rfl ?_
  refine g_new (q := 39) 4 X (by decide) rfl jl_X10_23 jn_4 jz_4 rfl (by decide) (hc _ _ (by decide) (by decide)) dX10_init_36 rfl ?_
  refine g_dup (q := 40) X dX10_init_39 rfl rfl ?_
  refine g_aload_n (q := 41) 0 X dX10_init_40 rfl rfl rfl ?_
  refine g_getR (q := 44) (r := some 1) 10 0 X rfl (lt2000 (c := 0) (by decide)) jf_X10_9 (by decide) (by decide) rfl rfl (by decide) dX10_init_41 rfl ?_
  refine g_aload_n (q := 45) 0 X dX10_init_44 rfl rfl rfl ?_
  refine g_getR (q := 48) (r := some 21) 10 3 X rfl (lt2000 (c := 0) (by decide)) jf_X10_20 (by decide) (by decide) rfl rfl (by decide) dX10_init_45 rfl ?_
  refine g_callI (q := 51) [aR (some 1), aR (some 21)] X (cc_X4_40 _ _) jk_X10_25 rfl jm_X4 (by decide) rfl rfl (Nat.le_of_ble_eq_true rfl) (by decide) (hc _ _ (by decide) (by decide)) dX10_init_48 rfl (fun r n_ iv_ rv_ hf _ => ?_)
  obtain ⟨rfl, rfl, rfl, rfl⟩ := hf
  refine g_putRF (q := 54) 10 4 X rfl rfl rfl hi jp_X10_28 (by decide) (by decide) rfl (by decide) dX10_init_51 rfl ?_
  refine g_aload_n (q := 55) 0 X dX10_init_54 rfl rfl rfl ?_
  refine g_new (q := 58) 1 X (by decide) rfl jl_X10_32 jn_1 jz_1 rfl (by decide) (hc _ _ (by decide) (by decide)) dX10_init_55 rfl ?_
  refine g_dup (q := 59) X dX10_init_58 rfl rfl ?_
  refine g_aload_n (q := 60) 0 X dX10_init_59 rfl rfl rfl ?_
  refine g_getR (q := 63) (r := some 2) 10 2 X rfl (lt2000 (c := 0) (by decide)) jf_X10_16 (by decide) (by decide) rfl rfl (by decide) dX10_init_60 rfl ?_
  refine g_callI (q := 66) [aR (some 2)] X (cc_X1_47 _ _) jk_X10_34 rfl jm_X1 (by decide) rfl rfl (Nat.le_of_ble_eq_true rfl) (by decide) (hc _ _ (by decide) (by decide)) dX10_init_63 rfl (fun r n_ iv_ rv_ hf _ => ?_)
  obtain ⟨rfl, rfl, rfl, rfl⟩ := hf
  refine g_putRF (q := 69) 10 5 X rfl rfl rfl hi jp_X10_37 (by decide) (by decide) rfl (by decide) dX10_init_66 rfl ?_
  refine g_aload_n (q := 70) 0 X dX10_init_69 rfl rfl rfl ?_
  refine g_new (q := 73) 9 X (by decide) rfl jl_X10_41 jn_9 jz_9 rfl (by decide) (hc _ _ (by decide) (by decide)) dX10_init_70 rfl ?_
  refine g_dup (q := 74) X dX10_init_73 rfl rfl ?_
  refine g_callIN (q := 77) [] X (cc_X9_63 _ _) jk_X10_43 rfl jm_X9 (by decide) rfl rfl (Nat.le_of_ble_eq_true rfl) (by decide) (hc _ _ (by decide) (by decide)) dX10_init_74 rfl (fun r n_ iv_ rv_ hf _ => ?_)
  obtain ⟨rfl, rfl, rfl, rfl⟩ := hf
  refine g_putRF (q := 80) 10 6 X rfl rfl rfl hi jp_X10_44 (by decide) (by decide) rfl (by decide) dX10_init_77 rfl ?_
  exact g_vret (q := 0) X hR dX10_init_80 rfl ⟨rfl, rfl, rfl, rfl⟩
theorem jo_X12 : isW (.methodLink RX12 3 Lib.objectInit) = true := isW_of 5 77 rfl rfl
theorem jf_X12_9 : LF RX12 9 12 2 := Or.inl (isW_of 5 80 rfl rfl)
theorem jp_X12_13 : isW (.fieldLink RX12 13 (cT 12 5).1 (cT 12 5).2.1 (cT 12 5).2.2.1) = true := isW_of 5 83 rfl rfl
theorem jp_X12_17 : isW (.fieldLink RX12 17 (cT 12 15).1 (cT 12 15).2.1 (cT 12 15).2.2.1) = true := isW_of 5 93 rfl rfl
theorem jp_X12_21 : isW (.fieldLink RX12 21 (cT 12 16).1 (cT 12 16).2.1 (cT 12 16).2.2.1) = true := isW_of 5 94 rfl rfl
theorem jp_X12_24 : isW (.fieldLink RX12 24 (cT 12 23).1 (cT 12 23).2.1 (cT 12 23).2.2.1) = true := isW_of 5 101 rfl rfl
theorem jp_X12_27 : isW (.fieldLink RX12 27 (cT 12 24).1 (cT 12 24).2.1 (cT 12 24).2.2.1) = true := isW_of 5 102 rfl rfl
theorem jp_X12_30 : isW (.fieldLink RX12 30 (cT 12 25).1 (cT 12 25).2.1 (cT 12 25).2.2.1) = true := isW_of 5 103 rfl rfl
theorem jf_X12_33 : LF RX12 33 12 28 := Or.inl (isW_of 5 106 rfl rfl)
theorem jp_X12_36 : isW (.fieldLink RX12 36 (cT 12 30).1 (cT 12 30).2.1 (cT 12 30).2.2.1) = true := isW_of 5 108 rfl rfl
theorem jp_X12_39 : isW (.fieldLink RX12 39 (cT 12 31).1 (cT 12 31).2.1 (cT 12 31).2.2.1) = true := isW_of 5 109 rfl rfl
theorem jc_64 : inI 64 := by unfold inI; omega
theorem jb_64 : (Int8.ofInt 64).toInt32 = Int32.ofInt 64 := by decide
theorem jp_X12_42 : isW (.fieldLink RX12 42 (cT 12 32).1 (cT 12 32).2.1 (cT 12 32).2.2.1) = true := isW_of 5 110 rfl rfl
theorem jp_X12_45 : isW (.fieldLink RX12 45 (cT 12 33).1 (cT 12 33).2.1 (cT 12 33).2.2.1) = true := isW_of 5 111 rfl rfl
theorem jp_X12_48 : isW (.fieldLink RX12 48 (cT 12 34).1 (cT 12 34).2.1 (cT 12 34).2.2.1) = true := isW_of 5 112 rfl rfl
theorem jp_X12_51 : isW (.fieldLink RX12 51 (cT 12 35).1 (cT 12 35).2.1 (cT 12 35).2.2.1) = true := isW_of 5 113 rfl rfl
def ciX12_66 (iv : IV) : IV := (z2 (z2 (z2 (z2 (z2 (z2 (w2 (z2 (z2 (z2 (z2 (z2 (z2 (w2 iv 66 2 (-1)) 67) 68) 69) 70) 71) 72) 66 28 (-1)) 73) 74) 75) 76) 77) 78)
def crX12_66 (rv : RV) : RV := (r2 (zr (r2 (zr (r2 (zr (r2 (zr (r2 (zr (r2 (zr (r2 (zr (r2 (zr (r2 (zr (r2 (zr (r2 (zr (r2 (zr rv 67) 66 5 (some 67)) 68) 66 15 (some 68)) 69) 66 16 (some 69)) 70) 66 23 (some 70)) 71) 66 24 (some 71)) 72) 66 25 (some 72)) 73) 66 30 (some 73)) 74) 66 31 (some 74)) 75) 66 32 (some 75)) 76) 66 33 (some 76)) 77) 66 34 (some 77)) 78) 66 35 (some 78))
set_option maxRecDepth 10000 in
theorem cc_X12_66 (iv : IV) (rv : RV) : Call 1 12 1116 yX12_init cX12_init 1 none [aR (some 66)] 67 iv rv (fun r n' iv' rv' => r = none ∧ n' = 79 ∧ iv' = ciX12_66 iv ∧ rv' = crX12_66 rv) := by
  refine Call.of (L := [aR (some 66)]) (by decide) rfl (njL_use _ ⟨trivial, trivial⟩) rfl (by decide) (fun Γ X hR hi0 hc => ?_)
  have hi := hi0 rfl
  refine g_aload_n (q := 1) 0 X dX12_init_0 rfl rfl rfl ?_
  refine g_objInit (q := 4) X jo_X12 jo_1 jo_2 (by decide) (Nat.le_of_ble_eq_true rfl) (by decide) dX12_init_1 rfl ?_
  refine g_aload_n (q := 5) 0 X dX12_init_4 rfl rfl rfl ?_
  refine g_iconst (q := 6) (-1) X dX12_init_5 rfl rfl jc_m1 ?_
  refine g_putI (q := 9) 12 2 X (Or.inl rfl) rfl jf_X12_9 (by decide) (by decide) rfl (by decide) dX12_init_6 rfl ?_
  refine g_aload_n (q := 10) 0 X dX12_init_9 rfl rfl rfl ?_
  refine g_sipush (q := 13) 900 X dX12_init_10 rfl js_900 jc_900 ?_
  refine g_newa (q := 15) (len := 900) .byte X rfl (Or.inl rfl) ja_byte rfl (by decide) (by decide) (hc _ _ (by decide) (by decide)) dX12_init_13 rfl ?_
  refine g_putRF (q := 18) 12 5 X rfl rfl rfl hi jp_X12_13 (by decide) (by decide) rfl (by decide) dX12_init_15 rfl ?_
  refine g_aload_n (q := 19) 0 X dX12_init_18 rfl rfl rfl ?_
  refine g_bipush (q := 21) 16 X dX12_init_19 rfl jb_16 jc_16 ?_
  refine g_newa (q := 23) (len := 16) .int X rfl (Or.inr (Or.inl rfl)) ja_int rfl (by decide) (by decide) (hc _ _ (by decide) (by decide)) dX12_init_21 rfl ?_
  refine g_putRF (q := 26) 12 15 X rfl rfl rfl hi jp_X12_17 (by decide) (by decide) rfl (by decide) dX12_init_23 rfl ?_
  refine g_aload_n (q := 27) 0 X dX12_init_26 rfl rfl rfl ?_
  refine g_bipush (q := 29) 16 X dX12_init_27 rfl jb_16 jc_16 ?_
  refine g_newa (q := 31) (len := 16) .int X rfl (Or.inr (Or.inl rfl)) ja_int rfl (by decide) (by decide) (hc _ _ (by decide) (by decide)) dX12_init_29 rfl ?_
  refine g_putRF (q := 34) 12 16 X rfl rfl rfl hi jp_X12_21 (by decide) (by decide) rfl (by decide) dX12_init_31 rfl ?_
  refine g_aload_n (q := 35) 0 X dX12_init_34 rfl rfl rfl ?_
  refine g_bipush (q := 37) 8 X dX12_init_35 rfl jb_8 jc_8 ?_
  refine g_newa (q := 39) (len := 8) .int X rfl (Or.inr (Or.inl rfl)) ja_int rfl (by decide) (by decide) (hc _ _ (by decide) (by decide)) dX12_init_37 rfl ?_
  refine g_putRF (q := 42) 12 23 X rfl rfl rfl hi jp_X12_24 (by decide) (by decide) rfl (by decide) dX12_init_39 rfl ?_
  refine g_aload_n (q := 43) 0 X dX12_init_42 rfl rfl rfl ?_
  refine g_bipush (q := 45) 8 X dX12_init_43 rfl jb_8 jc_8 ?_
  refine g_newa (q := 47) (len := 8) .int X rfl (Or.inr (Or.inl rfl)) ja_int rfl (by decide) (by decide) (hc _ _ (by decide) (by decide)) dX12_init_45 rfl ?_
  refine g_putRF (q := 50) 12 24 X rfl rfl rfl hi jp_X12_27 (by decide) (by decide) rfl (by decide) dX12_init_47 rfl ?_
  refine g_aload_n (q := 51) 0 X dX12_init_50 rfl rfl rfl ?_
  refine g_bipush (q := 53) 8 X dX12_init_51 rfl jb_8 jc_8 ?_
  refine g_newa (q := 55) (len := 8) .int X rfl (Or.inr (Or.inl rfl)) ja_int rfl (by decide) (by decide) (hc _ _ (by decide) (by decide)) dX12_init_53 rfl ?_
  refine g_putRF (q := 58) 12 25 X rfl rfl rfl hi jp_X12_30 (by decide) (by decide) rfl (by decide) dX12_init_55 rfl ?_
  refine g_aload_n (q := 59) 0 X dX12_init_58 rfl rfl rfl ?_
  refine g_iconst (q := 60) (-1) X dX12_init_59 rfl rfl jc_m1 ?_
  refine g_putI (q := 63) 12 28 X (Or.inl rfl) rfl jf_X12_33 (by decide) (by decide) rfl (by decide) dX12_init_60 rfl ?_
  refine g_aload_n (q := 64) 0 X dX12_init_63 rfl rfl rfl ?_
  refine g_bipush (q := 66) 8 X dX12_init_64 rfl jb_8 jc_8 ?_
  refine g_newa (q := 68) (len := 8) .int X rfl (Or.inr (Or.inl rfl)) ja_int rfl (by decide) (by decide) (hc _ _ (by decide) (by decide)) dX12_init_66 rfl ?_
  refine g_putRF (q := 71) 12 30 X rfl rfl rfl hi jp_X12_36 (by decide) (by decide) rfl (by decide) dX12_init_68 rfl ?_
  refine g_aload_n (q := 72) 0 X dX12_init_71 rfl rfl rfl ?_
  refine g_bipush (q := 74) 8 X dX12_init_72 rfl jb_8 jc_8 ?_
  refine g_newa (q := 76) (len := 8) .int X rfl (Or.inr (Or.inl rfl)) ja_int rfl (by decide) (by decide) (hc _ _ (by decide) (by decide)) dX12_init_74 rfl ?_
  refine g_putRF (q := 79) 12 31 X rfl rfl rfl hi jp_X12_39 (by decide) (by decide) rfl (by decide) dX12_init_76 rfl ?_
  refine g_aload_n (q := 80) 0 X dX12_init_79 rfl rfl rfl ?_
  refine g_bipush (q := 82) 64 X dX12_init_80 rfl jb_64 jc_64 ?_
  refine g_newa (q := 84) (len := 64) .int X rfl (Or.inr (Or.inl rfl)) ja_int rfl (by decide) (by decide) (hc _ _ (by decide) (by decide)) dX12_init_82 rfl ?_
  refine g_putRF (q := 87) 12 32 X rfl rfl rfl hi jp_X12_42 (by decide) (by decide) rfl (by decide) dX12_init_84 rfl ?_
  refine g_aload_n (q := 88) 0 X dX12_init_87 rfl rfl rfl ?_
  refine g_bipush (q := 90) 64 X dX12_init_88 rfl jb_64 jc_64 ?_
  refine g_newa (q := 92) (len := 64) .int X rfl (Or.inr (Or.inl rfl)) ja_int rfl (by decide) (by decide) (hc _ _ (by decide) (by decide)) dX12_init_90 rfl ?_
  refine g_putRF (q := 95) 12 33 X rfl rfl rfl hi jp_X12_45 (by decide) (by decide) rfl (by decide) dX12_init_92 rfl ?_
  refine g_aload_n (q := 96) 0 X dX12_init_95 rfl rfl rfl ?_
  refine g_bipush (q := 98) 8 X dX12_init_96 rfl jb_8 jc_8 ?_
  refine g_newa (q := 100) (len := 8) .int X rfl (Or.inr (Or.inl rfl)) ja_int rfl (by decide) (by decide) (hc _ _ (by decide) (by decide)) dX12_init_98 rfl ?_
  refine g_putRF (q := 103) 12 34 X rfl rfl rfl hi jp_X12_48 (by decide) (by decide) rfl (by decide) dX12_init_100 rfl ?_
  refine g_aload_n (q := 104) 0 X dX12_init_103 rfl rfl rfl ?_
  refine g_bipush (q := 106) 8 X dX12_init_104 rfl jb_8 jc_8 ?_
  refine g_newa (q := 108) (len := 8) .int X rfl (Or.inr (Or.inl rfl)) ja_int rfl (by decide) (by decide) (hc _ _ (by decide) (by decide)) dX12_init_106 rfl ?_
  refine g_putRF (q := 111) 12 35 X rfl rfl rfl hi jp_X12_51 (by decide) (by decide) rfl (by decide) dX12_init_108 rfl ?_
  exact g_vret (q := 0) X hR dX12_init_111 rfl ⟨rfl, rfl, rfl, rfl⟩
theorem jo_X11 : isW (.methodLink RX11 3 Lib.objectInit) = true := isW_of 5 217 rfl rfl
theorem jp_X11_9 : isW (.fieldLink RX11 9 (cT 11 14).1 (cT 11 14).2.1 (cT 11 14).2.2.1) = true := isW_of 5 236 rfl rfl
theorem jp_X11_15 : isW (.fieldLink RX11 15 (cT 11 15).1 (cT 11 15).2.1 (cT 11 15).2.2.1) = true := isW_of 5 238 rfl rfl
theorem jp_X11_18 : isW (.fieldLink RX11 18 (cT 11 16).1 (cT 11 16).2.1 (cT 11 16).2.2.1) = true := isW_of 6 0 rfl rfl
theorem jp_X11_21 : isW (.fieldLink RX11 21 (cT 11 17).1 (cT 11 17).2.1 (cT 11 17).2.2.1) = true := isW_of 6 2 rfl rfl
theorem jp_X11_24 : isW (.fieldLink RX11 24 (cT 11 18).1 (cT 11 18).2.1 (cT 11 18).2.2.1) = true := isW_of 6 4 rfl rfl
theorem jp_X11_27 : isW (.fieldLink RX11 27 (cT 11 19).1 (cT 11 19).2.1 (cT 11 19).2.2.1) = true := isW_of 6 6 rfl rfl
theorem jp_X11_30 : isW (.fieldLink RX11 30 (cT 11 20).1 (cT 11 20).2.1 (cT 11 20).2.2.1) = true := isW_of 6 8 rfl rfl
theorem jp_X11_33 : isW (.fieldLink RX11 33 (cT 11 21).1 (cT 11 21).2.1 (cT 11 21).2.2.1) = true := isW_of 6 10 rfl rfl
theorem jp_X11_36 : isW (.fieldLink RX11 36 (cT 11 22).1 (cT 11 22).2.1 (cT 11 22).2.2.1) = true := isW_of 6 12 rfl rfl
theorem jp_X11_39 : isW (.fieldLink RX11 39 (cT 11 23).1 (cT 11 23).2.1 (cT 11 23).2.2.1) = true := isW_of 6 14 rfl rfl
theorem jp_X11_42 : isW (.fieldLink RX11 42 (cT 11 24).1 (cT 11 24).2.1 (cT 11 24).2.2.1) = true := isW_of 6 16 rfl rfl
theorem jp_X11_45 : isW (.fieldLink RX11 45 (cT 11 25).1 (cT 11 25).2.1 (cT 11 25).2.2.1) = true := isW_of 6 18 rfl rfl
theorem jp_X11_48 : isW (.fieldLink RX11 48 (cT 11 26).1 (cT 11 26).2.1 (cT 11 26).2.2.1) = true := isW_of 6 20 rfl rfl
theorem jp_X11_51 : isW (.fieldLink RX11 51 (cT 11 27).1 (cT 11 27).2.1 (cT 11 27).2.2.1) = true := isW_of 6 22 rfl rfl
theorem jp_X11_54 : isW (.fieldLink RX11 54 (cT 11 28).1 (cT 11 28).2.1 (cT 11 28).2.2.1) = true := isW_of 6 24 rfl rfl
theorem jp_X11_57 : isW (.fieldLink RX11 57 (cT 11 29).1 (cT 11 29).2.1 (cT 11 29).2.2.1) = true := isW_of 6 26 rfl rfl
theorem jp_X11_61 : isW (.fieldLink RX11 61 (cT 11 30).1 (cT 11 30).2.1 (cT 11 30).2.2.1) = true := isW_of 6 28 rfl rfl
theorem jp_X11_64 : isW (.fieldLink RX11 64 (cT 11 31).1 (cT 11 31).2.1 (cT 11 31).2.2.1) = true := isW_of 6 30 rfl rfl
theorem jp_X11_67 : isW (.fieldLink RX11 67 (cT 11 32).1 (cT 11 32).2.1 (cT 11 32).2.2.1) = true := isW_of 6 32 rfl rfl
theorem jp_X11_70 : isW (.fieldLink RX11 70 (cT 11 33).1 (cT 11 33).2.1 (cT 11 33).2.2.1) = true := isW_of 6 34 rfl rfl
theorem jp_X11_73 : isW (.fieldLink RX11 73 (cT 11 34).1 (cT 11 34).2.1 (cT 11 34).2.2.1) = true := isW_of 6 36 rfl rfl
theorem jp_X11_76 : isW (.fieldLink RX11 76 (cT 11 35).1 (cT 11 35).2.1 (cT 11 35).2.2.1) = true := isW_of 6 38 rfl rfl
theorem jp_X11_79 : isW (.fieldLink RX11 79 (cT 11 36).1 (cT 11 36).2.1 (cT 11 36).2.2.1) = true := isW_of 6 40 rfl rfl
theorem jp_X11_82 : isW (.fieldLink RX11 82 (cT 11 37).1 (cT 11 37).2.1 (cT 11 37).2.2.1) = true := isW_of 6 42 rfl rfl
theorem jp_X11_85 : isW (.fieldLink RX11 85 (cT 11 38).1 (cT 11 38).2.1 (cT 11 38).2.2.1) = true := isW_of 6 44 rfl rfl
theorem jp_X11_88 : isW (.fieldLink RX11 88 (cT 11 39).1 (cT 11 39).2.1 (cT 11 39).2.2.1) = true := isW_of 6 46 rfl rfl
theorem jp_X11_91 : isW (.fieldLink RX11 91 (cT 11 40).1 (cT 11 40).2.1 (cT 11 40).2.2.1) = true := isW_of 6 48 rfl rfl
theorem jp_X11_95 : isW (.fieldLink RX11 95 (cT 11 41).1 (cT 11 41).2.1 (cT 11 41).2.2.1) = true := isW_of 6 50 rfl rfl
theorem jp_X11_98 : isW (.fieldLink RX11 98 (cT 11 42).1 (cT 11 42).2.1 (cT 11 42).2.2.1) = true := isW_of 6 52 rfl rfl
def ciX11_80 (iv : IV) : IV := (z2 (z2 (z2 (z2 (z2 (z2 (z2 (z2 (z2 (z2 (z2 (z2 (z2 (z2 (z2 (z2 (z2 (z2 (z2 (z2 (z2 (z2 (z2 (z2 (z2 (z2 (z2 (z2 (z2 iv 81) 82) 83) 84) 85) 86) 87) 88) 89) 90) 91) 92) 93) 94) 95) 96) 97) 98) 99) 100) 101) 102) 103) 104) 105) 106) 107) 108) 109)
def crX11_80 (rv : RV) : RV := (r2 (zr (r2 (zr (r2 (zr (r2 (zr (r2 (zr (r2 (zr (r2 (zr (r2 (zr (r2 (zr (r2 (zr (r2 (zr (r2 (zr (r2 (zr (r2 (zr (r2 (zr (r2 (zr (r2 (zr (r2 (zr (r2 (zr (r2 (zr (r2 (zr (r2 (zr (r2 (zr (r2 (zr (r2 (zr (r2 (zr (r2 (zr (r2 (zr (r2 (zr rv 81) 80 14 (some 81)) 82) 80 15 (some 82)) 83) 80 16 (some 83)) 84) 80 17 (some 84)) 85) 80 18 (some 85)) 86) 80 19 (some 86)) 87) 80 20 (some 87)) 88) 80 21 (some 88)) 89) 80 22 (some 89)) 90) 80 23 (some 90)) 91) 80 24 (some 91)) 92) 80 25 (some 92)) 93) 80 26 (some 93)) 94) 80 27 (some 94)) 95) 80 28 (some 95)) 96) 80 29 (some 96)) 97) 80 30 (some 97)) 98) 80 31 (some 98)) 99) 80 32 (some 99)) 100) 80 33 (some 100)) 101) 80 34 (some 101)) 102) 80 35 (some 102)) 103) 80 36 (some 103)) 104) 80 37 (some 104)) 105) 80 38 (some 105)) 106) 80 39 (some 106)) 107) 80 40 (some 107)) 108) 80 41 (some 108)) 109) 80 42 (some 109))
set_option maxRecDepth 10000 in
theorem cc_X11_80 (iv : IV) (rv : RV) : Call 1 29 407 yX11_init cX11_init 1 none [aR (some 80)] 81 iv rv (fun r n' iv' rv' => r = none ∧ n' = 110 ∧ iv' = ciX11_80 iv ∧ rv' = crX11_80 rv) := by
  refine Call.of (L := [aR (some 80)]) (by decide) rfl (njL_use _ ⟨trivial, trivial⟩) rfl (by decide) (fun Γ X hR hi0 hc => ?_)
  have hi := hi0 rfl
  refine g_aload_n (q := 1) 0 X dX11_init_0 rfl rfl rfl ?_
  refine g_objInit (q := 4) X jo_X11 jo_1 jo_2 (by decide) (Nat.le_of_ble_eq_true rfl) (by decide) dX11_init_1 rfl ?_
  refine g_aload_n (q := 5) 0 X dX11_init_4 rfl rfl rfl ?_
  refine g_bipush (q := 7) 6 X dX11_init_5 rfl jb_6 jc_6 ?_
  refine g_newa (q := 9) (len := 6) .int X rfl (Or.inr (Or.inl rfl)) ja_int rfl (by decide) (by decide) (hc _ _ (by decide) (by decide)) dX11_init_7 rfl ?_
  refine g_putRF (q := 12) 11 14 X rfl rfl rfl hi jp_X11_9 (by decide) (by decide) rfl (by decide) dX11_init_9 rfl ?_
  refine g_aload_n (q := 13) 0 X dX11_init_12 rfl rfl rfl ?_
  refine g_bipush (q := 15) 6 X dX11_init_13 rfl jb_6 jc_6 ?_
  refine g_newa (q := 17) (len := 6) .int X rfl (Or.inr (Or.inl rfl)) ja_int rfl (by decide) (by decide) (hc _ _ (by decide) (by decide)) dX11_init_15 rfl ?_
  refine g_putRF (q := 20) 11 15 X rfl rfl rfl hi jp_X11_15 (by decide) (by decide) rfl (by decide) dX11_init_17 rfl ?_
  refine g_aload_n (q := 21) 0 X dX11_init_20 rfl rfl rfl ?_
  refine g_bipush (q := 23) 20 X dX11_init_21 rfl jb_20 jc_20 ?_
  refine g_newa (q := 25) (len := 20) .int X rfl (Or.inr (Or.inl rfl)) ja_int rfl (by decide) (by decide) (hc _ _ (by decide) (by decide)) dX11_init_23 rfl ?_
  refine g_putRF (q := 28) 11 16 X rfl rfl rfl hi jp_X11_18 (by decide) (by decide) rfl (by decide) dX11_init_25 rfl ?_
  refine g_aload_n (q := 29) 0 X dX11_init_28 rfl rfl rfl ?_
  refine g_bipush (q := 31) 20 X dX11_init_29 rfl jb_20 jc_20 ?_
  refine g_newa (q := 33) (len := 20) .int X rfl (Or.inr (Or.inl rfl)) ja_int rfl (by decide) (by decide) (hc _ _ (by decide) (by decide)) dX11_init_31 rfl ?_
  refine g_putRF (q := 36) 11 17 X rfl rfl rfl hi jp_X11_21 (by decide) (by decide) rfl (by decide) dX11_init_33 rfl ?_
  refine g_aload_n (q := 37) 0 X dX11_init_36 rfl rfl rfl ?_
  refine g_bipush (q := 39) 20 X dX11_init_37 rfl jb_20 jc_20 ?_
  refine g_newa (q := 41) (len := 20) .int X rfl (Or.inr (Or.inl rfl)) ja_int rfl (by decide) (by decide) (hc _ _ (by decide) (by decide)) dX11_init_39 rfl ?_
  refine g_putRF (q := 44) 11 18 X rfl rfl rfl hi jp_X11_24 (by decide) (by decide) rfl (by decide) dX11_init_41 rfl ?_
  refine g_aload_n (q := 45) 0 X dX11_init_44 rfl rfl rfl ?_
  refine g_bipush (q := 47) 20 X dX11_init_45 rfl jb_20 jc_20 ?_
  refine g_newa (q := 49) (len := 20) .int X rfl (Or.inr (Or.inl rfl)) ja_int rfl (by decide) (by decide) (hc _ _ (by decide) (by decide)) dX11_init_47 rfl ?_
  refine g_putRF (q := 52) 11 19 X rfl rfl rfl hi jp_X11_27 (by decide) (by decide) rfl (by decide) dX11_init_49 rfl ?_
  refine g_aload_n (q := 53) 0 X dX11_init_52 rfl rfl rfl ?_
  refine g_bipush (q := 55) 16 X dX11_init_53 rfl jb_16 jc_16 ?_
  refine g_newa (q := 57) (len := 16) .int X rfl (Or.inr (Or.inl rfl)) ja_int rfl (by decide) (by decide) (hc _ _ (by decide) (by decide)) dX11_init_55 rfl ?_
  refine g_putRF (q := 60) 11 20 X rfl rfl rfl hi jp_X11_30 (by decide) (by decide) rfl (by decide) dX11_init_57 rfl ?_
  refine g_aload_n (q := 61) 0 X dX11_init_60 rfl rfl rfl ?_
  refine g_bipush (q := 63) 16 X dX11_init_61 rfl jb_16 jc_16 ?_
  refine g_newa (q := 65) (len := 16) .int X rfl (Or.inr (Or.inl rfl)) ja_int rfl (by decide) (by decide) (hc _ _ (by decide) (by decide)) dX11_init_63 rfl ?_
  refine g_putRF (q := 68) 11 21 X rfl rfl rfl hi jp_X11_33 (by decide) (by decide) rfl (by decide) dX11_init_65 rfl ?_
  refine g_aload_n (q := 69) 0 X dX11_init_68 rfl rfl rfl ?_
  refine g_bipush (q := 71) 16 X dX11_init_69 rfl jb_16 jc_16 ?_
  refine g_newa (q := 73) (len := 16) .int X rfl (Or.inr (Or.inl rfl)) ja_int rfl (by decide) (by decide) (hc _ _ (by decide) (by decide)) dX11_init_71 rfl ?_
  refine g_putRF (q := 76) 11 22 X rfl rfl rfl hi jp_X11_36 (by decide) (by decide) rfl (by decide) dX11_init_73 rfl ?_
  refine g_aload_n (q := 77) 0 X dX11_init_76 rfl rfl rfl ?_
  refine g_bipush (q := 79) 16 X dX11_init_77 rfl jb_16 jc_16 ?_
  refine g_newa (q := 81) (len := 16) .int X rfl (Or.inr (Or.inl rfl)) ja_int rfl (by decide) (by decide) (hc _ _ (by decide) (by decide)) dX11_init_79 rfl ?_
  refine g_putRF (q := 84) 11 23 X rfl rfl rfl hi jp_X11_39 (by decide) (by decide) rfl (by decide) dX11_init_81 rfl ?_
  refine g_aload_n (q := 85) 0 X dX11_init_84 rfl rfl rfl ?_
  refine g_bipush (q := 87) 16 X dX11_init_85 rfl jb_16 jc_16 ?_
  refine g_newa (q := 89) (len := 16) .int X rfl (Or.inr (Or.inl rfl)) ja_int rfl (by decide) (by decide) (hc _ _ (by decide) (by decide)) dX11_init_87 rfl ?_
  refine g_putRF (q := 92) 11 24 X rfl rfl rfl hi jp_X11_42 (by decide) (by decide) rfl (by decide) dX11_init_89 rfl ?_
  refine g_aload_n (q := 93) 0 X dX11_init_92 rfl rfl rfl ?_
  refine g_bipush (q := 95) 16 X dX11_init_93 rfl jb_16 jc_16 ?_
  refine g_newa (q := 97) (len := 16) .int X rfl (Or.inr (Or.inl rfl)) ja_int rfl (by decide) (by decide) (hc _ _ (by decide) (by decide)) dX11_init_95 rfl ?_
  refine g_putRF (q := 100) 11 25 X rfl rfl rfl hi jp_X11_45 (by decide) (by decide) rfl (by decide) dX11_init_97 rfl ?_
  refine g_aload_n (q := 101) 0 X dX11_init_100 rfl rfl rfl ?_
  refine g_iconst (q := 102) 4 X dX11_init_101 rfl rfl jc_4 ?_
  refine g_newa (q := 104) (len := 4) .int X rfl (Or.inr (Or.inl rfl)) ja_int rfl (by decide) (by decide) (hc _ _ (by decide) (by decide)) dX11_init_102 rfl ?_
  refine g_putRF (q := 107) 11 26 X rfl rfl rfl hi jp_X11_48 (by decide) (by decide) rfl (by decide) dX11_init_104 rfl ?_
  refine g_aload_n (q := 108) 0 X dX11_init_107 rfl rfl rfl ?_
  refine g_iconst (q := 109) 4 X dX11_init_108 rfl rfl jc_4 ?_
  refine g_newa (q := 111) (len := 4) .int X rfl (Or.inr (Or.inl rfl)) ja_int rfl (by decide) (by decide) (hc _ _ (by decide) (by decide)) dX11_init_109 rfl ?_
  refine g_putRF (q := 114) 11 27 X rfl rfl rfl hi jp_X11_51 (by decide) (by decide) rfl (by decide) dX11_init_111 rfl ?_
  refine g_aload_n (q := 115) 0 X dX11_init_114 rfl rfl rfl ?_
  refine g_iconst (q := 116) 4 X dX11_init_115 rfl rfl jc_4 ?_
  refine g_newa (q := 118) (len := 4) .int X rfl (Or.inr (Or.inl rfl)) ja_int rfl (by decide) (by decide) (hc _ _ (by decide) (by decide)) dX11_init_116 rfl ?_
  refine g_putRF (q := 121) 11 28 X rfl rfl rfl hi jp_X11_54 (by decide) (by decide) rfl (by decide) dX11_init_118 rfl ?_
  refine g_aload_n (q := 122) 0 X dX11_init_121 rfl rfl rfl ?_
  refine g_iconst (q := 123) 3 X dX11_init_122 rfl rfl jc_3 ?_
  refine g_newa (q := 125) (len := 3) .boolean X rfl (Or.inr (Or.inr (Or.inr rfl))) ja_boolean rfl (by decide) (by decide) (hc _ _ (by decide) (by decide)) dX11_init_123 rfl ?_
  refine g_putRF (q := 128) 11 29 X rfl rfl rfl hi jp_X11_57 (by decide) (by decide) rfl (by decide) dX11_init_125 rfl ?_
  refine g_aload_n (q := 129) 0 X dX11_init_128 rfl rfl rfl ?_
  refine g_iconst (q := 130) 3 X dX11_init_129 rfl rfl jc_3 ?_
  refine g_newa (q := 132) (len := 3) .boolean X rfl (Or.inr (Or.inr (Or.inr rfl))) ja_boolean rfl (by decide) (by decide) (hc _ _ (by decide) (by decide)) dX11_init_130 rfl ?_
  refine g_putRF (q := 135) 11 30 X rfl rfl rfl hi jp_X11_61 (by decide) (by decide) rfl (by decide) dX11_init_132 rfl ?_
  refine g_aload_n (q := 136) 0 X dX11_init_135 rfl rfl rfl ?_
  refine g_iconst (q := 137) 3 X dX11_init_136 rfl rfl jc_3 ?_
  refine g_newa (q := 139) (len := 3) .boolean X rfl (Or.inr (Or.inr (Or.inr rfl))) ja_boolean rfl (by decide) (by decide) (hc _ _ (by decide) (by decide)) dX11_init_137 rfl ?_
  refine g_putRF (q := 142) 11 31 X rfl rfl rfl hi jp_X11_64 (by decide) (by decide) rfl (by decide) dX11_init_139 rfl ?_
  refine g_aload_n (q := 143) 0 X dX11_init_142 rfl rfl rfl ?_
  refine g_iconst (q := 144) 3 X dX11_init_143 rfl rfl jc_3 ?_
  refine g_newa (q := 146) (len := 3) .boolean X rfl (Or.inr (Or.inr (Or.inr rfl))) ja_boolean rfl (by decide) (by decide) (hc _ _ (by decide) (by decide)) dX11_init_144 rfl ?_
  refine g_putRF (q := 149) 11 32 X rfl rfl rfl hi jp_X11_67 (by decide) (by decide) rfl (by decide) dX11_init_146 rfl ?_
  refine g_aload_n (q := 150) 0 X dX11_init_149 rfl rfl rfl ?_
  refine g_bipush (q := 152) 6 X dX11_init_150 rfl jb_6 jc_6 ?_
  refine g_newa (q := 154) (len := 6) .int X rfl (Or.inr (Or.inl rfl)) ja_int rfl (by decide) (by decide) (hc _ _ (by decide) (by decide)) dX11_init_152 rfl ?_
  refine g_putRF (q := 157) 11 33 X rfl rfl rfl hi jp_X11_70 (by decide) (by decide) rfl (by decide) dX11_init_154 rfl ?_
  refine g_aload_n (q := 158) 0 X dX11_init_157 rfl rfl rfl ?_
  refine g_bipush (q := 160) 6 X dX11_init_158 rfl jb_6 jc_6 ?_
  refine g_newa (q := 162) (len := 6) .int X rfl (Or.inr (Or.inl rfl)) ja_int rfl (by decide) (by decide) (hc _ _ (by decide) (by decide)) dX11_init_160 rfl ?_
  refine g_putRF (q := 165) 11 34 X rfl rfl rfl hi jp_X11_73 (by decide) (by decide) rfl (by decide) dX11_init_162 rfl ?_
  refine g_aload_n (q := 166) 0 X dX11_init_165 rfl rfl rfl ?_
  refine g_bipush (q := 168) 6 X dX11_init_166 rfl jb_6 jc_6 ?_
  refine g_newa (q := 170) (len := 6) .int X rfl (Or.inr (Or.inl rfl)) ja_int rfl (by decide) (by decide) (hc _ _ (by decide) (by decide)) dX11_init_168 rfl ?_
  refine g_putRF (q := 173) 11 35 X rfl rfl rfl hi jp_X11_76 (by decide) (by decide) rfl (by decide) dX11_init_170 rfl ?_
  refine g_aload_n (q := 174) 0 X dX11_init_173 rfl rfl rfl ?_
  refine g_bipush (q := 176) 6 X dX11_init_174 rfl jb_6 jc_6 ?_
  refine g_newa (q := 178) (len := 6) .int X rfl (Or.inr (Or.inl rfl)) ja_int rfl (by decide) (by decide) (hc _ _ (by decide) (by decide)) dX11_init_176 rfl ?_
  refine g_putRF (q := 181) 11 36 X rfl rfl rfl hi jp_X11_79 (by decide) (by decide) rfl (by decide) dX11_init_178 rfl ?_
  refine g_aload_n (q := 182) 0 X dX11_init_181 rfl rfl rfl ?_
  refine g_bipush (q := 184) 6 X dX11_init_182 rfl jb_6 jc_6 ?_
  refine g_newa (q := 186) (len := 6) .int X rfl (Or.inr (Or.inl rfl)) ja_int rfl (by decide) (by decide) (hc _ _ (by decide) (by decide)) dX11_init_184 rfl ?_
  refine g_putRF (q := 189) 11 37 X rfl rfl rfl hi jp_X11_82 (by decide) (by decide) rfl (by decide) dX11_init_186 rfl ?_
  refine g_aload_n (q := 190) 0 X dX11_init_189 rfl rfl rfl ?_
  refine g_bipush (q := 192) 6 X dX11_init_190 rfl jb_6 jc_6 ?_
  refine g_newa (q := 194) (len := 6) .int X rfl (Or.inr (Or.inl rfl)) ja_int rfl (by decide) (by decide) (hc _ _ (by decide) (by decide)) dX11_init_192 rfl ?_
  refine g_putRF (q := 197) 11 38 X rfl rfl rfl hi jp_X11_85 (by decide) (by decide) rfl (by decide) dX11_init_194 rfl ?_
  refine g_aload_n (q := 198) 0 X dX11_init_197 rfl rfl rfl ?_
  refine g_bipush (q := 200) 6 X dX11_init_198 rfl jb_6 jc_6 ?_
  refine g_newa (q := 202) (len := 6) .int X rfl (Or.inr (Or.inl rfl)) ja_int rfl (by decide) (by decide) (hc _ _ (by decide) (by decide)) dX11_init_200 rfl ?_
  refine g_putRF (q := 205) 11 39 X rfl rfl rfl hi jp_X11_88 (by decide) (by decide) rfl (by decide) dX11_init_202 rfl ?_
  refine g_aload_n (q := 206) 0 X dX11_init_205 rfl rfl rfl ?_
  refine g_bipush (q := 208) 51 X dX11_init_206 rfl jb_51 jc_51 ?_
  refine g_newa (q := 210) (len := 51) .long X rfl (Or.inr (Or.inr (Or.inl rfl))) ja_long rfl (by decide) (by decide) (hc _ _ (by decide) (by decide)) dX11_init_208 rfl ?_
  refine g_putRF (q := 213) 11 40 X rfl rfl rfl hi jp_X11_91 (by decide) (by decide) rfl (by decide) dX11_init_210 rfl ?_
  refine g_aload_n (q := 214) 0 X dX11_init_213 rfl rfl rfl ?_
  refine g_bipush (q := 216) 51 X dX11_init_214 rfl jb_51 jc_51 ?_
  refine g_newa (q := 218) (len := 51) .int X rfl (Or.inr (Or.inl rfl)) ja_int rfl (by decide) (by decide) (hc _ _ (by decide) (by decide)) dX11_init_216 rfl ?_
  refine g_putRF (q := 221) 11 41 X rfl rfl rfl hi jp_X11_95 (by decide) (by decide) rfl (by decide) dX11_init_218 rfl ?_
  refine g_aload_n (q := 222) 0 X dX11_init_221 rfl rfl rfl ?_
  refine g_bipush (q := 224) 51 X dX11_init_222 rfl jb_51 jc_51 ?_
  refine g_newa (q := 226) (len := 51) .int X rfl (Or.inr (Or.inl rfl)) ja_int rfl (by decide) (by decide) (hc _ _ (by decide) (by decide)) dX11_init_224 rfl ?_
  refine g_putRF (q := 229) 11 42 X rfl rfl rfl hi jp_X11_98 (by decide) (by decide) rfl (by decide) dX11_init_226 rfl ?_
  exact g_vret (q := 0) X hR dX11_init_229 rfl ⟨rfl, rfl, rfl, rfl⟩
def ciX11_110 (iv : IV) : IV := (z2 (z2 (z2 (z2 (z2 (z2 (z2 (z2 (z2 (z2 (z2 (z2 (z2 (z2 (z2 (z2 (z2 (z2 (z2 (z2 (z2 (z2 (z2 (z2 (z2 (z2 (z2 (z2 (z2 iv 111) 112) 113) 114) 115) 116) 117) 118) 119) 120) 121) 122) 123) 124) 125) 126) 127) 128) 129) 130) 131) 132) 133) 134) 135) 136) 137) 138) 139)
def crX11_110 (rv : RV) : RV := (r2 (zr (r2 (zr (r2 (zr (r2 (zr (r2 (zr (r2 (zr (r2 (zr (r2 (zr (r2 (zr (r2 (zr (r2 (zr (r2 (zr (r2 (zr (r2 (zr (r2 (zr (r2 (zr (r2 (zr (r2 (zr (r2 (zr (r2 (zr (r2 (zr (r2 (zr (r2 (zr (r2 (zr (r2 (zr (r2 (zr (r2 (zr (r2 (zr (r2 (zr rv 111) 110 14 (some 111)) 112) 110 15 (some 112)) 113) 110 16 (some 113)) 114) 110 17 (some 114)) 115) 110 18 (some 115)) 116) 110 19 (some 116)) 117) 110 20 (some 117)) 118) 110 21 (some 118)) 119) 110 22 (some 119)) 120) 110 23 (some 120)) 121) 110 24 (some 121)) 122) 110 25 (some 122)) 123) 110 26 (some 123)) 124) 110 27 (some 124)) 125) 110 28 (some 125)) 126) 110 29 (some 126)) 127) 110 30 (some 127)) 128) 110 31 (some 128)) 129) 110 32 (some 129)) 130) 110 33 (some 130)) 131) 110 34 (some 131)) 132) 110 35 (some 132)) 133) 110 36 (some 133)) 134) 110 37 (some 134)) 135) 110 38 (some 135)) 136) 110 39 (some 136)) 137) 110 40 (some 137)) 138) 110 41 (some 138)) 139) 110 42 (some 139))
set_option maxRecDepth 10000 in
theorem cc_X11_110 (iv : IV) (rv : RV) : Call 1 29 407 yX11_init cX11_init 1 none [aR (some 110)] 111 iv rv (fun r n' iv' rv' => r = none ∧ n' = 140 ∧ iv' = ciX11_110 iv ∧ rv' = crX11_110 rv) := by
  refine Call.of (L := [aR (some 110)]) (by decide) rfl (njL_use _ ⟨trivial, trivial⟩) rfl (by decide) (fun Γ X hR hi0 hc => ?_)
  have hi := hi0 rfl
  refine g_aload_n (q := 1) 0 X dX11_init_0 rfl rfl rfl ?_
  refine g_objInit (q := 4) X jo_X11 jo_1 jo_2 (by decide) (Nat.le_of_ble_eq_true rfl) (by decide) dX11_init_1 rfl ?_
  refine g_aload_n (q := 5) 0 X dX11_init_4 rfl rfl rfl ?_
  refine g_bipush (q := 7) 6 X dX11_init_5 rfl jb_6 jc_6 ?_
  refine g_newa (q := 9) (len := 6) .int X rfl (Or.inr (Or.inl rfl)) ja_int rfl (by decide) (by decide) (hc _ _ (by decide) (by decide)) dX11_init_7 rfl ?_
  refine g_putRF (q := 12) 11 14 X rfl rfl rfl hi jp_X11_9 (by decide) (by decide) rfl (by decide) dX11_init_9 rfl ?_
  refine g_aload_n (q := 13) 0 X dX11_init_12 rfl rfl rfl ?_
  refine g_bipush (q := 15) 6 X dX11_init_13 rfl jb_6 jc_6 ?_
  refine g_newa (q := 17) (len := 6) .int X rfl (Or.inr (Or.inl rfl)) ja_int rfl (by decide) (by decide) (hc _ _ (by decide) (by decide)) dX11_init_15 rfl ?_
  refine g_putRF (q := 20) 11 15 X rfl rfl rfl hi jp_X11_15 (by decide) (by decide) rfl (by decide) dX11_init_17 rfl ?_
  refine g_aload_n (q := 21) 0 X dX11_init_20 rfl rfl rfl ?_
  refine g_bipush (q := 23) 20 X dX11_init_21 rfl jb_20 jc_20 ?_
  refine g_newa (q := 25) (len := 20) .int X rfl (Or.inr (Or.inl rfl)) ja_int rfl (by decide) (by decide) (hc _ _ (by decide) (by decide)) dX11_init_23 rfl ?_
  refine g_putRF (q := 28) 11 16 X rfl rfl rfl hi jp_X11_18 (by decide) (by decide) rfl (by decide) dX11_init_25 rfl ?_
  refine g_aload_n (q := 29) 0 X dX11_init_28 rfl rfl rfl ?_
  refine g_bipush (q := 31) 20 X dX11_init_29 rfl jb_20 jc_20 ?_
  refine g_newa (q := 33) (len := 20) .int X rfl (Or.inr (Or.inl rfl)) ja_int rfl (by decide) (by decide) (hc _ _ (by decide) (by decide)) dX11_init_31 rfl ?_
  refine g_putRF (q := 36) 11 17 X rfl rfl rfl hi jp_X11_21 (by decide) (by decide) rfl (by decide) dX11_init_33 rfl ?_
  refine g_aload_n (q := 37) 0 X dX11_init_36 rfl rfl rfl ?_
  refine g_bipush (q := 39) 20 X dX11_init_37 rfl jb_20 jc_20 ?_
  refine g_newa (q := 41) (len := 20) .int X rfl (Or.inr (Or.inl rfl)) ja_int rfl (by decide) (by decide) (hc _ _ (by decide) (by decide)) dX11_init_39 rfl ?_
  refine g_putRF (q := 44) 11 18 X rfl rfl rfl hi jp_X11_24 (by decide) (by decide) rfl (by decide) dX11_init_41 rfl ?_
  refine g_aload_n (q := 45) 0 X dX11_init_44 rfl rfl rfl ?_
  refine g_bipush (q := 47) 20 X dX11_init_45 rfl jb_20 jc_20 ?_
  refine g_newa (q := 49) (len := 20) .int X rfl (Or.inr (Or.inl rfl)) ja_int rfl (by decide) (by decide) (hc _ _ (by decide) (by decide)) dX11_init_47 rfl ?_
  refine g_putRF (q := 52) 11 19 X rfl rfl rfl hi jp_X11_27 (by decide) (by decide) rfl (by decide) dX11_init_49 rfl ?_
  refine g_aload_n (q := 53) 0 X dX11_init_52 rfl rfl rfl ?_
  refine g_bipush (q := 55) 16 X dX11_init_53 rfl jb_16 jc_16 ?_
  refine g_newa (q := 57) (len := 16) .int X rfl (Or.inr (Or.inl rfl)) ja_int rfl (by decide) (by decide) (hc _ _ (by decide) (by decide)) dX11_init_55 rfl ?_
  refine g_putRF (q := 60) 11 20 X rfl rfl rfl hi jp_X11_30 (by decide) (by decide) rfl (by decide) dX11_init_57 rfl ?_
  refine g_aload_n (q := 61) 0 X dX11_init_60 rfl rfl rfl ?_
  refine g_bipush (q := 63) 16 X dX11_init_61 rfl jb_16 jc_16 ?_
  refine g_newa (q := 65) (len := 16) .int X rfl (Or.inr (Or.inl rfl)) ja_int rfl (by decide) (by decide) (hc _ _ (by decide) (by decide)) dX11_init_63 rfl ?_
  refine g_putRF (q := 68) 11 21 X rfl rfl rfl hi jp_X11_33 (by decide) (by decide) rfl (by decide) dX11_init_65 rfl ?_
  refine g_aload_n (q := 69) 0 X dX11_init_68 rfl rfl rfl ?_
  refine g_bipush (q := 71) 16 X dX11_init_69 rfl jb_16 jc_16 ?_
  refine g_newa (q := 73) (len := 16) .int X rfl (Or.inr (Or.inl rfl)) ja_int rfl (by decide) (by decide) (hc _ _ (by decide) (by decide)) dX11_init_71 rfl ?_
  refine g_putRF (q := 76) 11 22 X rfl rfl rfl hi jp_X11_36 (by decide) (by decide) rfl (by decide) dX11_init_73 rfl ?_
  refine g_aload_n (q := 77) 0 X dX11_init_76 rfl rfl rfl ?_
  refine g_bipush (q := 79) 16 X dX11_init_77 rfl jb_16 jc_16 ?_
  refine g_newa (q := 81) (len := 16) .int X rfl (Or.inr (Or.inl rfl)) ja_int rfl (by decide) (by decide) (hc _ _ (by decide) (by decide)) dX11_init_79 rfl ?_
  refine g_putRF (q := 84) 11 23 X rfl rfl rfl hi jp_X11_39 (by decide) (by decide) rfl (by decide) dX11_init_81 rfl ?_
  refine g_aload_n (q := 85) 0 X dX11_init_84 rfl rfl rfl ?_
  refine g_bipush (q := 87) 16 X dX11_init_85 rfl jb_16 jc_16 ?_
  refine g_newa (q := 89) (len := 16) .int X rfl (Or.inr (Or.inl rfl)) ja_int rfl (by decide) (by decide) (hc _ _ (by decide) (by decide)) dX11_init_87 rfl ?_
  refine g_putRF (q := 92) 11 24 X rfl rfl rfl hi jp_X11_42 (by decide) (by decide) rfl (by decide) dX11_init_89 rfl ?_
  refine g_aload_n (q := 93) 0 X dX11_init_92 rfl rfl rfl ?_
  refine g_bipush (q := 95) 16 X dX11_init_93 rfl jb_16 jc_16 ?_
  refine g_newa (q := 97) (len := 16) .int X rfl (Or.inr (Or.inl rfl)) ja_int rfl (by decide) (by decide) (hc _ _ (by decide) (by decide)) dX11_init_95 rfl ?_
  refine g_putRF (q := 100) 11 25 X rfl rfl rfl hi jp_X11_45 (by decide) (by decide) rfl (by decide) dX11_init_97 rfl ?_
  refine g_aload_n (q := 101) 0 X dX11_init_100 rfl rfl rfl ?_
  refine g_iconst (q := 102) 4 X dX11_init_101 rfl rfl jc_4 ?_
  refine g_newa (q := 104) (len := 4) .int X rfl (Or.inr (Or.inl rfl)) ja_int rfl (by decide) (by decide) (hc _ _ (by decide) (by decide)) dX11_init_102 rfl ?_
  refine g_putRF (q := 107) 11 26 X rfl rfl rfl hi jp_X11_48 (by decide) (by decide) rfl (by decide) dX11_init_104 rfl ?_
  refine g_aload_n (q := 108) 0 X dX11_init_107 rfl rfl rfl ?_
  refine g_iconst (q := 109) 4 X dX11_init_108 rfl rfl jc_4 ?_
  refine g_newa (q := 111) (len := 4) .int X rfl (Or.inr (Or.inl rfl)) ja_int rfl (by decide) (by decide) (hc _ _ (by decide) (by decide)) dX11_init_109 rfl ?_
  refine g_putRF (q := 114) 11 27 X rfl rfl rfl hi jp_X11_51 (by decide) (by decide) rfl (by decide) dX11_init_111 rfl ?_
  refine g_aload_n (q := 115) 0 X dX11_init_114 rfl rfl rfl ?_
  refine g_iconst (q := 116) 4 X dX11_init_115 rfl rfl jc_4 ?_
  refine g_newa (q := 118) (len := 4) .int X rfl (Or.inr (Or.inl rfl)) ja_int rfl (by decide) (by decide) (hc _ _ (by decide) (by decide)) dX11_init_116 rfl ?_
  refine g_putRF (q := 121) 11 28 X rfl rfl rfl hi jp_X11_54 (by decide) (by decide) rfl (by decide) dX11_init_118 rfl ?_
  refine g_aload_n (q := 122) 0 X dX11_init_121 rfl rfl rfl ?_
  refine g_iconst (q := 123) 3 X dX11_init_122 rfl rfl jc_3 ?_
  refine g_newa (q := 125) (len := 3) .boolean X rfl (Or.inr (Or.inr (Or.inr rfl))) ja_boolean rfl (by decide) (by decide) (hc _ _ (by decide) (by decide)) dX11_init_123 rfl ?_
  refine g_putRF (q := 128) 11 29 X rfl rfl rfl hi jp_X11_57 (by decide) (by decide) rfl (by decide) dX11_init_125 rfl ?_
  refine g_aload_n (q := 129) 0 X dX11_init_128 rfl rfl rfl ?_
  refine g_iconst (q := 130) 3 X dX11_init_129 rfl rfl jc_3 ?_
  refine g_newa (q := 132) (len := 3) .boolean X rfl (Or.inr (Or.inr (Or.inr rfl))) ja_boolean rfl (by decide) (by decide) (hc _ _ (by decide) (by decide)) dX11_init_130 rfl ?_
  refine g_putRF (q := 135) 11 30 X rfl rfl rfl hi jp_X11_61 (by decide) (by decide) rfl (by decide) dX11_init_132 rfl ?_
  refine g_aload_n (q := 136) 0 X dX11_init_135 rfl rfl rfl ?_
  refine g_iconst (q := 137) 3 X dX11_init_136 rfl rfl jc_3 ?_
  refine g_newa (q := 139) (len := 3) .boolean X rfl (Or.inr (Or.inr (Or.inr rfl))) ja_boolean rfl (by decide) (by decide) (hc _ _ (by decide) (by decide)) dX11_init_137 rfl ?_
  refine g_putRF (q := 142) 11 31 X rfl rfl rfl hi jp_X11_64 (by decide) (by decide) rfl (by decide) dX11_init_139 rfl ?_
  refine g_aload_n (q := 143) 0 X dX11_init_142 rfl rfl rfl ?_
  refine g_iconst (q := 144) 3 X dX11_init_143 rfl rfl jc_3 ?_
  refine g_newa (q := 146) (len := 3) .boolean X rfl (Or.inr (Or.inr (Or.inr rfl))) ja_boolean rfl (by decide) (by decide) (hc _ _ (by decide) (by decide)) dX11_init_144 rfl ?_
  refine g_putRF (q := 149) 11 32 X rfl rfl rfl hi jp_X11_67 (by decide) (by decide) rfl (by decide) dX11_init_146 rfl ?_
  refine g_aload_n (q := 150) 0 X dX11_init_149 rfl rfl rfl ?_
  refine g_bipush (q := 152) 6 X dX11_init_150 rfl jb_6 jc_6 ?_
  refine g_newa (q := 154) (len := 6) .int X rfl (Or.inr (Or.inl rfl)) ja_int rfl (by decide) (by decide) (hc _ _ (by decide) (by decide)) dX11_init_152 rfl ?_
  refine g_putRF (q := 157) 11 33 X rfl rfl rfl hi jp_X11_70 (by decide) (by decide) rfl (by decide) dX11_init_154 rfl ?_
  refine g_aload_n (q := 158) 0 X dX11_init_157 rfl rfl rfl ?_
  refine g_bipush (q := 160) 6 X dX11_init_158 rfl jb_6 jc_6 ?_
  refine g_newa (q := 162) (len := 6) .int X rfl (Or.inr (Or.inl rfl)) ja_int rfl (by decide) (by decide) (hc _ _ (by decide) (by decide)) dX11_init_160 rfl ?_
  refine g_putRF (q := 165) 11 34 X rfl rfl rfl hi jp_X11_73 (by decide) (by decide) rfl (by decide) dX11_init_162 rfl ?_
  refine g_aload_n (q := 166) 0 X dX11_init_165 rfl rfl rfl ?_
  refine g_bipush (q := 168) 6 X dX11_init_166 rfl jb_6 jc_6 ?_
  refine g_newa (q := 170) (len := 6) .int X rfl (Or.inr (Or.inl rfl)) ja_int rfl (by decide) (by decide) (hc _ _ (by decide) (by decide)) dX11_init_168 rfl ?_
  refine g_putRF (q := 173) 11 35 X rfl rfl rfl hi jp_X11_76 (by decide) (by decide) rfl (by decide) dX11_init_170 rfl ?_
  refine g_aload_n (q := 174) 0 X dX11_init_173 rfl rfl rfl ?_
  refine g_bipush (q := 176) 6 X dX11_init_174 rfl jb_6 jc_6 ?_
  refine g_newa (q := 178) (len := 6) .int X rfl (Or.inr (Or.inl rfl)) ja_int rfl (by decide) (by decide) (hc _ _ (by decide) (by decide)) dX11_init_176 rfl ?_
  refine g_putRF (q := 181) 11 36 X rfl rfl rfl hi jp_X11_79 (by decide) (by decide) rfl (by decide) dX11_init_178 rfl ?_
  refine g_aload_n (q := 182) 0 X dX11_init_181 rfl rfl rfl ?_
  refine g_bipush (q := 184) 6 X dX11_init_182 rfl jb_6 jc_6 ?_
  refine g_newa (q := 186) (len := 6) .int X rfl (Or.inr (Or.inl rfl)) ja_int rfl (by decide) (by decide) (hc _ _ (by decide) (by decide)) dX11_init_184 rfl ?_
  refine g_putRF (q := 189) 11 37 X rfl rfl rfl hi jp_X11_82 (by decide) (by decide) rfl (by decide) dX11_init_186 rfl ?_
  refine g_aload_n (q := 190) 0 X dX11_init_189 rfl rfl rfl ?_
  refine g_bipush (q := 192) 6 X dX11_init_190 rfl jb_6 jc_6 ?_
  refine g_newa (q := 194) (len := 6) .int X rfl (Or.inr (Or.inl rfl)) ja_int rfl (by decide) (by decide) (hc _ _ (by decide) (by decide)) dX11_init_192 rfl ?_
  refine g_putRF (q := 197) 11 38 X rfl rfl rfl hi jp_X11_85 (by decide) (by decide) rfl (by decide) dX11_init_194 rfl ?_
  refine g_aload_n (q := 198) 0 X dX11_init_197 rfl rfl rfl ?_
  refine g_bipush (q := 200) 6 X dX11_init_198 rfl jb_6 jc_6 ?_
  refine g_newa (q := 202) (len := 6) .int X rfl (Or.inr (Or.inl rfl)) ja_int rfl (by decide) (by decide) (hc _ _ (by decide) (by decide)) dX11_init_200 rfl ?_
  refine g_putRF (q := 205) 11 39 X rfl rfl rfl hi jp_X11_88 (by decide) (by decide) rfl (by decide) dX11_init_202 rfl ?_
  refine g_aload_n (q := 206) 0 X dX11_init_205 rfl rfl rfl ?_
  refine g_bipush (q := 208) 51 X dX11_init_206 rfl jb_51 jc_51 ?_
  refine g_newa (q := 210) (len := 51) .long X rfl (Or.inr (Or.inr (Or.inl rfl))) ja_long rfl (by decide) (by decide) (hc _ _ (by decide) (by decide)) dX11_init_208 rfl ?_
  refine g_putRF (q := 213) 11 40 X rfl rfl rfl hi jp_X11_91 (by decide) (by decide) rfl (by decide) dX11_init_210 rfl ?_
  refine g_aload_n (q := 214) 0 X dX11_init_213 rfl rfl rfl ?_
  refine g_bipush (q := 216) 51 X dX11_init_214 rfl jb_51 jc_51 ?_
  refine g_newa (q := 218) (len := 51) .int X rfl (Or.inr (Or.inl rfl)) ja_int rfl (by decide) (by decide) (hc _ _ (by decide) (by decide)) dX11_init_216 rfl ?_
  refine g_putRF (q := 221) 11 41 X rfl rfl rfl hi jp_X11_95 (by decide) (by decide) rfl (by decide) dX11_init_218 rfl ?_
  refine g_aload_n (q := 222) 0 X dX11_init_221 rfl rfl rfl ?_
  refine g_bipush (q := 224) 51 X dX11_init_222 rfl jb_51 jc_51 ?_
  refine g_newa (q := 226) (len := 51) .int X rfl (Or.inr (Or.inl rfl)) ja_int rfl (by decide) (by decide) (hc _ _ (by decide) (by decide)) dX11_init_224 rfl ?_
  refine g_putRF (q := 229) 11 42 X rfl rfl rfl hi jp_X11_98 (by decide) (by decide) rfl (by decide) dX11_init_226 rfl ?_
  exact g_vret (q := 0) X hR dX11_init_229 rfl ⟨rfl, rfl, rfl, rfl⟩
