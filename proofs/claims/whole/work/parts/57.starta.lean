/-! THE LAW'S START: strings -/
def sOwn : List String := ["TollBarsModel", "TollBars$Reader", "TollBarsModel", "TollBars$Reader", "TollBarsModel", "TollBarsModel", "TollBars$Reader", "TollBarsModel", "TollBars$Reader", "TollBars$Reader", "TollBarsModel", "TollBars$Reader", "TollBars$Reader", "TollBars$Reader", "TollBarsModel", "TollBars$Reader", "TollBarsModel", "TollBarsModel", "TollBarsModel", "TollBarsModel", "TollBarsModel", "TollBars$Reader", "TollBars$Reader", "TollBars$Reader", "TollBarsModel", "TollBarsModel", "TollBarsModel", "TollBarsModel", "TollBars$Reader", "TollBars", "TollBars$Reader", "TollBarsModel", "TollBars$Reader", "TollBars$Reader", "TollBarsModel", "TollBars$Reader", "TollBars$Reader", "TollBars$Reader", "TollBarsModel", "TollBarsModel", "TollBars$Reader", "TollBars$Reader", "TollBarsModel", "TollBarsModel", "TollBarsModel", "TollBars$Reader", "TollBars$Reader", "TollBarsModel", "TollBars$Reader", "TollBarsModel", "TollBars$Reader"]
def sIdx : List Nat := [384, 254, 147, 129, 343, 141, 127, 155, 136, 240, 390, 172, 158, 144, 145, 183, 382, 135, 376, 153, 357, 151, 181, 122, 151, 137, 355, 386, 170, 218, 100, 374, 166, 131, 339, 168, 179, 146, 388, 134, 79, 263, 149, 139, 353, 156, 109, 143, 117, 341, 177]
def sTm (i : Nat) : Term := .string (sOwn.getD i "") (sIdx.getD i 0)
def sVl (i : Nat) : Term := .field (sTm i) "java/lang/String" "value" "[B"
def sWd (i : Nat) : List Cond := [.exactly (sTm i) "java/lang/String", .eq (.field (sTm i) "java/lang/String" "coder" "B") (.int 0), .arrayOf (sVl i) .byte, .eq (.length (sVl i)) (.int (Int32.ofNat (sLen.getD i 0)))] ++ (List.range (sLen.getD i 0)).map fun j => .eq (.elem (sVl i) (.int (Int32.ofNat j))) (.int ((sByt.getD i []).getD j 0))
abbrev gvC : Cond := Jvm.Cond.and given_1 narrow_1
def fl0 : List Cond := flatC gvC
theorem sw_0 : (sWd 0).all (fun w => decide (w ∈ fl0)) = true := by decide +kernel
theorem sw_1 : (sWd 1).all (fun w => decide (w ∈ fl0)) = true := by decide +kernel
theorem sw_2 : (sWd 2).all (fun w => decide (w ∈ fl0)) = true := by decide +kernel
theorem sw_3 : (sWd 3).all (fun w => decide (w ∈ fl0)) = true := by decide +kernel
theorem sw_4 : (sWd 4).all (fun w => decide (w ∈ fl0)) = true := by decide +kernel
theorem sw_5 : (sWd 5).all (fun w => decide (w ∈ fl0)) = true := by decide +kernel
theorem sw_6 : (sWd 6).all (fun w => decide (w ∈ fl0)) = true := by decide +kernel
theorem sw_7 : (sWd 7).all (fun w => decide (w ∈ fl0)) = true := by decide +kernel
theorem sw_8 : (sWd 8).all (fun w => decide (w ∈ fl0)) = true := by decide +kernel
theorem sw_9 : (sWd 9).all (fun w => decide (w ∈ fl0)) = true := by decide +kernel
theorem sw_10 : (sWd 10).all (fun w => decide (w ∈ fl0)) = true := by decide +kernel
theorem sw_11 : (sWd 11).all (fun w => decide (w ∈ fl0)) = true := by decide +kernel
theorem sw_12 : (sWd 12).all (fun w => decide (w ∈ fl0)) = true := by decide +kernel
theorem sw_13 : (sWd 13).all (fun w => decide (w ∈ fl0)) = true := by decide +kernel
theorem sw_14 : (sWd 14).all (fun w => decide (w ∈ fl0)) = true := by decide +kernel
theorem sw_15 : (sWd 15).all (fun w => decide (w ∈ fl0)) = true := by decide +kernel
theorem sw_16 : (sWd 16).all (fun w => decide (w ∈ fl0)) = true := by decide +kernel
theorem sw_17 : (sWd 17).all (fun w => decide (w ∈ fl0)) = true := by decide +kernel
theorem sw_18 : (sWd 18).all (fun w => decide (w ∈ fl0)) = true := by decide +kernel
theorem sw_19 : (sWd 19).all (fun w => decide (w ∈ fl0)) = true := by decide +kernel
theorem sw_20 : (sWd 20).all (fun w => decide (w ∈ fl0)) = true := by decide +kernel
theorem sw_21 : (sWd 21).all (fun w => decide (w ∈ fl0)) = true := by decide +kernel
theorem sw_22 : (sWd 22).all (fun w => decide (w ∈ fl0)) = true := by decide +kernel
theorem sw_23 : (sWd 23).all (fun w => decide (w ∈ fl0)) = true := by decide +kernel
theorem sw_24 : (sWd 24).all (fun w => decide (w ∈ fl0)) = true := by decide +kernel
theorem sw_25 : (sWd 25).all (fun w => decide (w ∈ fl0)) = true := by decide +kernel
theorem sw_26 : (sWd 26).all (fun w => decide (w ∈ fl0)) = true := by decide +kernel
theorem sw_27 : (sWd 27).all (fun w => decide (w ∈ fl0)) = true := by decide +kernel
theorem sw_28 : (sWd 28).all (fun w => decide (w ∈ fl0)) = true := by decide +kernel
theorem sw_29 : (sWd 29).all (fun w => decide (w ∈ fl0)) = true := by decide +kernel
theorem sw_30 : (sWd 30).all (fun w => decide (w ∈ fl0)) = true := by decide +kernel
theorem sw_31 : (sWd 31).all (fun w => decide (w ∈ fl0)) = true := by decide +kernel
theorem sw_32 : (sWd 32).all (fun w => decide (w ∈ fl0)) = true := by decide +kernel
theorem sw_33 : (sWd 33).all (fun w => decide (w ∈ fl0)) = true := by decide +kernel
theorem sw_34 : (sWd 34).all (fun w => decide (w ∈ fl0)) = true := by decide +kernel
theorem sw_35 : (sWd 35).all (fun w => decide (w ∈ fl0)) = true := by decide +kernel
theorem sw_36 : (sWd 36).all (fun w => decide (w ∈ fl0)) = true := by decide +kernel
theorem sw_37 : (sWd 37).all (fun w => decide (w ∈ fl0)) = true := by decide +kernel
theorem sw_38 : (sWd 38).all (fun w => decide (w ∈ fl0)) = true := by decide +kernel
theorem sw_39 : (sWd 39).all (fun w => decide (w ∈ fl0)) = true := by decide +kernel
theorem sw_40 : (sWd 40).all (fun w => decide (w ∈ fl0)) = true := by decide +kernel
theorem sw_41 : (sWd 41).all (fun w => decide (w ∈ fl0)) = true := by decide +kernel
theorem sw_42 : (sWd 42).all (fun w => decide (w ∈ fl0)) = true := by decide +kernel
theorem sw_43 : (sWd 43).all (fun w => decide (w ∈ fl0)) = true := by decide +kernel
theorem sw_44 : (sWd 44).all (fun w => decide (w ∈ fl0)) = true := by decide +kernel
theorem sw_45 : (sWd 45).all (fun w => decide (w ∈ fl0)) = true := by decide +kernel
theorem sw_46 : (sWd 46).all (fun w => decide (w ∈ fl0)) = true := by decide +kernel
theorem sw_47 : (sWd 47).all (fun w => decide (w ∈ fl0)) = true := by decide +kernel
theorem sw_48 : (sWd 48).all (fun w => decide (w ∈ fl0)) = true := by decide +kernel
theorem sw_49 : (sWd 49).all (fun w => decide (w ∈ fl0)) = true := by decide +kernel
theorem sw_50 : (sWd 50).all (fun w => decide (w ∈ fl0)) = true := by decide +kernel
theorem sw_all : ∀ i, i < 51 → (sWd i).all (fun w => decide (w ∈ fl0)) = true := fun i h => match i, h with
  | 0, _ => sw_0
  | 1, _ => sw_1
  | 2, _ => sw_2
  | 3, _ => sw_3
  | 4, _ => sw_4
  | 5, _ => sw_5
  | 6, _ => sw_6
  | 7, _ => sw_7
  | 8, _ => sw_8
  | 9, _ => sw_9
  | 10, _ => sw_10
  | 11, _ => sw_11
  | 12, _ => sw_12
  | 13, _ => sw_13
  | 14, _ => sw_14
  | 15, _ => sw_15
  | 16, _ => sw_16
  | 17, _ => sw_17
  | 18, _ => sw_18
  | 19, _ => sw_19
  | 20, _ => sw_20
  | 21, _ => sw_21
  | 22, _ => sw_22
  | 23, _ => sw_23
  | 24, _ => sw_24
  | 25, _ => sw_25
  | 26, _ => sw_26
  | 27, _ => sw_27
  | 28, _ => sw_28
  | 29, _ => sw_29
  | 30, _ => sw_30
  | 31, _ => sw_31
  | 32, _ => sw_32
  | 33, _ => sw_33
  | 34, _ => sw_34
  | 35, _ => sw_35
  | 36, _ => sw_36
  | 37, _ => sw_37
  | 38, _ => sw_38
  | 39, _ => sw_39
  | 40, _ => sw_40
  | 41, _ => sw_41
  | 42, _ => sw_42
  | 43, _ => sw_43
  | 44, _ => sw_44
  | 45, _ => sw_45
  | 46, _ => sw_46
  | 47, _ => sw_47
  | 48, _ => sw_48
  | 49, _ => sw_49
  | 50, _ => sw_50
  | i + 51, h => absurd h (by omega)
