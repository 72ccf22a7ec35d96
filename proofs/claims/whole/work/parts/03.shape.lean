/-- what stands at each place, in the order of making -/
def shL : List (Nat ⊕ (FieldType × Nat)) := [.inl 10, .inr (.byte, 900), .inl 5, .inr (.int, 12), .inr (.int, 6), .inr (.int, 6), .inr (.int, 20), .inr (.int, 20), .inr (.int, 20), .inr (.int, 20), .inr (.int, 16), .inr (.int, 16), .inr (.int, 16), .inr (.int, 16), .inr (.int, 16), .inr (.int, 16), .inr (.int, 4), .inr (.int, 4), .inr (.int, 4), .inr (.int, 3), .inr (.int, 42), .inl 5, .inr (.int, 12), .inr (.int, 6), .inr (.int, 6), .inr (.int, 20), .inr (.int, 20), .inr (.int, 20), .inr (.int, 20), .inr (.int, 16), .inr (.int, 16), .inr (.int, 16), .inr (.int, 16), .inr (.int, 16), .inr (.int, 16), .inr (.int, 4), .inr (.int, 4), .inr (.int, 4), .inr (.int, 3), .inr (.int, 42), .inl 4, .inl 2, .inr (.long, 51), .inr (.int, 51), .inr (.int, 51), .inr (.int, 8), .inl 7, .inl 1, .inl 8, .inr (.int, 20), .inr (.int, 8), .inl 6, .inr (.int, 16), .inr (.int, 16), .inr (.boolean, 16), .inr (.int, 16), .inr (.int, 16), .inr (.int, 16), .inl 0, .inl 3, .inr (.int, 8), .inr (.int, 8), .inr (.int, 16), .inl 9, .inr (.int, 8), .inr (.int, 8), .inl 12, .inr (.byte, 900), .inr (.int, 16), .inr (.int, 16), .inr (.int, 8), .inr (.int, 8), .inr (.int, 8), .inr (.int, 8), .inr (.int, 8), .inr (.int, 64), .inr (.int, 64), .inr (.int, 8), .inr (.int, 8), .inr (.long, 1), .inl 11, .inr (.int, 6), .inr (.int, 6), .inr (.int, 20), .inr (.int, 20), .inr (.int, 20), .inr (.int, 20), .inr (.int, 16), .inr (.int, 16), .inr (.int, 16), .inr (.int, 16), .inr (.int, 16), .inr (.int, 16), .inr (.int, 4), .inr (.int, 4), .inr (.int, 4), .inr (.boolean, 3), .inr (.boolean, 3), .inr (.boolean, 3), .inr (.boolean, 3), .inr (.int, 6), .inr (.int, 6), .inr (.int, 6), .inr (.int, 6), .inr (.int, 6), .inr (.int, 6), .inr (.int, 6), .inr (.long, 51), .inr (.int, 51), .inr (.int, 51), .inl 11, .inr (.int, 6), .inr (.int, 6), .inr (.int, 20), .inr (.int, 20), .inr (.int, 20), .inr (.int, 20), .inr (.int, 16), .inr (.int, 16), .inr (.int, 16), .inr (.int, 16), .inr (.int, 16), .inr (.int, 16), .inr (.int, 4), .inr (.int, 4), .inr (.int, 4), .inr (.boolean, 3), .inr (.boolean, 3), .inr (.boolean, 3), .inr (.boolean, 3), .inr (.int, 6), .inr (.int, 6), .inr (.int, 6), .inr (.int, 6), .inr (.int, 6), .inr (.int, 6), .inr (.int, 6), .inr (.long, 51), .inr (.int, 51), .inr (.int, 51)]
def sh (k : Nat) : Nat ⊕ (FieldType × Nat) := shL.getD k (.inl 99)
def cR : Nat → String := fun c => match c with
  | 0 => RX0
  | 1 => RX1
  | 2 => RX2
  | 3 => RX3
  | 4 => RX4
  | 5 => RX5
  | 6 => RX6
  | 7 => RX7
  | 8 => RX8
  | 9 => RX9
  | 10 => RX10
  | 11 => RX11
  | _ => RX12
def cT : Nat → u_T := fun c => match c with
  | 0 => TX0
  | 1 => TX1
  | 2 => TX2
  | 3 => TX3
  | 4 => TX4
  | 5 => TX5
  | 6 => TX6
  | 7 => TX7
  | 8 => TX8
  | 9 => TX9
  | 10 => TX10
  | 11 => TX11
  | _ => TX12
def fty : Nat → Nat → FieldType := fun c => match c with
  | 0 => tyX0
  | 1 => tyX1
  | 2 => tyX2
  | 3 => tyX3
  | 4 => tyX4
  | 5 => tyX5
  | 6 => tyX6
  | 7 => tyX7
  | 8 => tyX8
  | 9 => tyX9
  | 10 => tyX10
  | 11 => tyX11
  | _ => tyX12
def nfd : Nat → Nat := fun c => match c with
  | 0 => 5
  | 1 => 4
  | 2 => 4
  | 3 => 3
  | 4 => 8
  | 5 => 18
  | 6 => 15
  | 7 => 6
  | 8 => 2
  | 9 => 5
  | 10 => 8
  | 11 => 43
  | _ => 39
def okw (w : Cond) : Bool := goodWord w || (match w with | .fieldLinkNest .. => true | .methodLinkNest .. => true | _ => false)
theorem cl_at : ∀ c, c < 13 → vwCl[c]? = some (cR c, cT c, nfd c) := fun c h => match c, h with
  | 0, _ => rfl
  | 1, _ => rfl
  | 2, _ => rfl
  | 3, _ => rfl
  | 4, _ => rfl
  | 5, _ => rfl
  | 6, _ => rfl
  | 7, _ => rfl
  | 8, _ => rfl
  | 9, _ => rfl
  | 10, _ => rfl
  | 11, _ => rfl
  | 12, _ => rfl
  | c + 13, h => absurd h (by omega)
theorem cl_in0 : (u_ws RX0 TX0 5).all (fun w => decide (w ∈ lw_tbl) && okw w) = true := by decide +kernel
theorem cl_in1 : (u_ws RX1 TX1 4).all (fun w => decide (w ∈ lw_tbl) && okw w) = true := by decide +kernel
theorem cl_in2 : (u_ws RX2 TX2 4).all (fun w => decide (w ∈ lw_tbl) && okw w) = true := by decide +kernel
theorem cl_in3 : (u_ws RX3 TX3 3).all (fun w => decide (w ∈ lw_tbl) && okw w) = true := by decide +kernel
theorem cl_in4 : (u_ws RX4 TX4 8).all (fun w => decide (w ∈ lw_tbl) && okw w) = true := by decide +kernel
theorem cl_in5 : (u_ws RX5 TX5 18).all (fun w => decide (w ∈ lw_tbl) && okw w) = true := by decide +kernel
theorem cl_in6 : (u_ws RX6 TX6 15).all (fun w => decide (w ∈ lw_tbl) && okw w) = true := by decide +kernel
theorem cl_in7 : (u_ws RX7 TX7 6).all (fun w => decide (w ∈ lw_tbl) && okw w) = true := by decide +kernel
theorem cl_in8 : (u_ws RX8 TX8 2).all (fun w => decide (w ∈ lw_tbl) && okw w) = true := by decide +kernel
theorem cl_in9 : (u_ws RX9 TX9 5).all (fun w => decide (w ∈ lw_tbl) && okw w) = true := by decide +kernel
theorem cl_in10 : (u_ws RX10 TX10 8).all (fun w => decide (w ∈ lw_tbl) && okw w) = true := by decide +kernel
theorem cl_in11 : (u_ws RX11 TX11 43).all (fun w => decide (w ∈ lw_tbl) && okw w) = true := by decide +kernel
theorem cl_in12 : (u_ws RX12 TX12 39).all (fun w => decide (w ∈ lw_tbl) && okw w) = true := by decide +kernel
theorem cl_in : ∀ c, c < 13 → (u_ws (cR c) (cT c) (nfd c)).all (fun w => decide (w ∈ lw_tbl) && okw w) = true := fun c h => match c, h with
  | 0, _ => cl_in0
  | 1, _ => cl_in1
  | 2, _ => cl_in2
  | 3, _ => cl_in3
  | 4, _ => cl_in4
  | 5, _ => cl_in5
  | 6, _ => cl_in6
  | 7, _ => cl_in7
  | 8, _ => cl_in8
  | 9, _ => cl_in9
  | 10, _ => cl_in10
  | 11, _ => cl_in11
  | 12, _ => cl_in12
  | c + 13, h => absurd h (by omega)
theorem cl_ty : ∀ c, c < 13 → ∀ k, k < nfd c → parseFieldDescriptor (cT c k).2.2.1 = some (fty c k) := fun c h => match c, h with
  | 0, _ => tyX0_ok
  | 1, _ => tyX1_ok
  | 2, _ => tyX2_ok
  | 3, _ => tyX3_ok
  | 4, _ => tyX4_ok
  | 5, _ => tyX5_ok
  | 6, _ => tyX6_ok
  | 7, _ => tyX7_ok
  | 8, _ => tyX8_ok
  | 9, _ => tyX9_ok
  | 10, _ => tyX10_ok
  | 11, _ => tyX11_ok
  | 12, _ => tyX12_ok
  | c + 13, h => absurd h (by omega)
theorem cl_nm : ∀ c, c < 13 → ∀ a, a < nfd c → ∀ b, b < nfd c → a ≠ b → (cT c a).2.1 ≠ (cT c b).2.1 := fun c h => match c, h with
  | 0, _ => nmX0
  | 1, _ => nmX1
  | 2, _ => nmX2
  | 3, _ => nmX3
  | 4, _ => nmX4
  | 5, _ => nmX5
  | 6, _ => nmX6
  | 7, _ => nmX7
  | 8, _ => nmX8
  | 9, _ => nmX9
  | 10, _ => nmX10
  | 11, _ => nmX11
  | 12, _ => nmX12
  | c + 13, h => absurd h (by omega)
