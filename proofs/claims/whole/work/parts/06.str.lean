/-- the String constants, by number: how long, and their bytes -/
def sLen : List Nat := [5, 3, 2, 2, 4, 6, 2, 4, 4, 6, 6, 13, 3, 3, 4, 4, 5, 5, 5, 3, 4, 4, 5, 4, 4, 3, 4, 5, 11, 25, 2, 5, 11, 2, 3, 9, 9, 14, 6, 5, 60, 74, 5, 4, 4, 14, 5, 4, 2, 5, 4]
def sB0 : List Nat := [97, 108, 105, 107, 101]
def sB1 : List Nat := [97, 108, 108]
def sB2 : List Nat := [97, 115]
def sB3 : List Nat := [97, 116]
def sB4 : List Nat := [98, 111, 116, 104]
def sB5 : List Nat := [98, 114, 105, 100, 103, 101]
def sB6 : List Nat := [98, 121]
def sB7 : List Nat := [99, 97, 114, 116]
def sB8 : List Nat := [99, 111, 105, 110]
def sB9 : List Nat := [99, 111, 112, 105, 101, 100]
def sB10 : List Nat := [99, 111, 112, 105, 101, 115]
def sB11 : List Nat := [99, 111, 112, 105, 101, 115, 32, 112, 97, 112, 101, 114, 115]
def sB12 : List Nat := [100, 97, 121]
def sB13 : List Nat := [102, 111, 114]
def sB14 : List Nat := [102, 114, 101, 101]
def sB15 : List Nat := [102, 114, 111, 109]
def sB16 : List Nat := [103, 105, 118, 101, 110]
def sB17 : List Nat := [103, 111, 111, 100, 115]
def sB18 : List Nat := [108, 97, 116, 101, 114]
def sB19 : List Nat := [108, 97, 119]
def sB20 : List Nat := [108, 101, 115, 115]
def sB21 : List Nat := [108, 105, 107, 101]
def sB22 : List Nat := [108, 111, 97, 100, 115]
def sB23 : List Nat := [108, 111, 110, 103]
def sB24 : List Nat := [108, 111, 115, 116]
def sB25 : List Nat := [109, 97, 110]
def sB26 : List Nat := [109, 111, 114, 101]
def sB27 : List Nat := [110, 97, 109, 101, 100]
def sB28 : List Nat := [110, 97, 109, 101, 100, 32, 97, 108, 105, 107, 101]
def sB29 : List Nat := [110, 111, 32, 115, 117, 99, 104, 32, 98, 114, 105, 100, 103, 101, 32, 111, 110, 32, 116, 104, 101, 32, 119, 97, 121]
def sB30 : List Nat := [111, 102]
def sB31 : List Nat := [111, 108, 100, 101, 114]
def sB32 : List Nat := [111, 108, 100, 101, 114, 32, 108, 97, 116, 101, 114]
def sB33 : List Nat := [111, 110]
def sB34 : List Nat := [111, 119, 110]
def sB35 : List Nat := [111, 119, 110, 32, 103, 105, 118, 101, 110]
def sB36 : List Nat := [111, 119, 110, 32, 116, 114, 97, 100, 101]
def sB37 : List Nat := [111, 119, 110, 32, 116, 114, 97, 100, 101, 32, 98, 111, 116, 104]
def sB38 : List Nat := [112, 97, 112, 101, 114, 115]
def sB39 : List Nat := [112, 108, 97, 99, 101]
def sB40 : List Nat := [112, 108, 97, 99, 101, 32, 103, 111, 111, 100, 115, 32, 109, 97, 110, 32, 114, 111, 97, 100, 32, 98, 114, 105, 100, 103, 101, 32, 116, 97, 107, 101, 32, 102, 114, 101, 101, 32, 97, 115, 32, 114, 101, 110, 101, 119, 32, 108, 111, 115, 116, 32, 108, 97, 119, 32, 99, 97, 114, 116]
def sB41 : List Nat := [112, 108, 97, 99, 101, 32, 103, 111, 111, 100, 115, 32, 109, 97, 110, 32, 114, 111, 97, 100, 32, 98, 114, 105, 100, 103, 101, 32, 116, 97, 107, 101, 32, 102, 114, 101, 101, 32, 97, 115, 32, 114, 101, 110, 101, 119, 32, 108, 111, 115, 116, 32, 108, 97, 119, 32, 99, 97, 114, 116, 32, 97, 108, 108, 32, 116, 111, 32, 99, 111, 112, 105, 101, 100]
def sB42 : List Nat := [114, 101, 110, 101, 119]
def sB43 : List Nat := [114, 111, 97, 100]
def sB44 : List Nat := [115, 97, 109, 101]
def sB45 : List Nat := [115, 97, 109, 101, 32, 109, 111, 114, 101, 32, 108, 101, 115, 115]
def sB46 : List Nat := [115, 105, 110, 99, 101]
def sB47 : List Nat := [116, 97, 107, 101]
def sB48 : List Nat := [116, 111]
def sB49 : List Nat := [116, 114, 97, 100, 101]
def sB50 : List Nat := [119, 105, 116, 104]
def sByN : List (List Nat) := [sB0, sB1, sB2, sB3, sB4, sB5, sB6, sB7, sB8, sB9, sB10, sB11, sB12, sB13, sB14, sB15, sB16, sB17, sB18, sB19, sB20, sB21, sB22, sB23, sB24, sB25, sB26, sB27, sB28, sB29, sB30, sB31, sB32, sB33, sB34, sB35, sB36, sB37, sB38, sB39, sB40, sB41, sB42, sB43, sB44, sB45, sB46, sB47, sB48, sB49, sB50]
def sByt : List (List Int32) := sByN.map fun l => l.map fun x => Int32.ofNat x
/-- which String constant stands at an entry of a pool: the file, the entry, the text, the number -/
def sTab : List (String × Nat × String × Nat) := [("TollBars$Reader", 79, "place goods man road bridge take free as renew lost law cart", 40), ("TollBars$Reader", 263, "place goods man road bridge take free as renew lost law cart all to copied", 41), ("TollBars$Reader", 100, "of", 30), ("TollBars$Reader", 109, "since", 46), ("TollBars$Reader", 117, "to", 48), ("TollBars$Reader", 122, "long", 23), ("TollBars$Reader", 127, "by", 6), ("TollBars$Reader", 129, "at", 3), ("TollBars$Reader", 131, "on", 33), ("TollBars$Reader", 254, "all", 1), ("TollBars$Reader", 136, "coin", 8), ("TollBars$Reader", 158, "day", 12), ("TollBars$Reader", 144, "for", 13), ("TollBars$Reader", 146, "own trade both", 37), ("TollBars$Reader", 151, "like", 21), ("TollBars$Reader", 156, "same more less", 45), ("TollBars$Reader", 240, "copied", 9), ("TollBars$Reader", 166, "older later", 32), ("TollBars$Reader", 168, "own given", 35), ("TollBars$Reader", 170, "named alike", 28), ("TollBars$Reader", 172, "copies papers", 11), ("TollBars$Reader", 177, "with", 50), ("TollBars$Reader", 179, "own trade", 36), ("TollBars$Reader", 181, "loads", 22), ("TollBars$Reader", 183, "from", 15), ("TollBars", 218, "no such bridge on the way", 29), ("TollBarsModel", 134, "place", 39), ("TollBarsModel", 135, "goods", 17), ("TollBarsModel", 137, "man", 25), ("TollBarsModel", 139, "road", 43), ("TollBarsModel", 141, "bridge", 5), ("TollBarsModel", 143, "take", 47), ("TollBarsModel", 145, "free", 14), ("TollBarsModel", 147, "as", 2), ("TollBarsModel", 149, "renew", 42), ("TollBarsModel", 151, "lost", 24), ("TollBarsModel", 153, "law", 19), ("TollBarsModel", 155, "cart", 7), ("TollBarsModel", 157, "all", 1), ("TollBarsModel", 159, "to", 48), ("TollBarsModel", 161, "copied", 9), ("TollBarsModel", 250, "of", 30), ("TollBarsModel", 259, "since", 46), ("TollBarsModel", 274, "long", 23), ("TollBarsModel", 300, "by", 6), ("TollBarsModel", 316, "at", 3), ("TollBarsModel", 317, "on", 33), ("TollBarsModel", 322, "coin", 8), ("TollBarsModel", 305, "day", 12), ("TollBarsModel", 337, "for", 13), ("TollBarsModel", 339, "own", 34), ("TollBarsModel", 341, "trade", 49), ("TollBarsModel", 343, "both", 4), ("TollBarsModel", 348, "like", 21), ("TollBarsModel", 353, "same", 44), ("TollBarsModel", 355, "more", 26), ("TollBarsModel", 357, "less", 20), ("TollBarsModel", 374, "older", 31), ("TollBarsModel", 376, "later", 18), ("TollBarsModel", 382, "given", 16), ("TollBarsModel", 384, "alike", 0), ("TollBarsModel", 386, "named", 27), ("TollBarsModel", 388, "papers", 38), ("TollBarsModel", 390, "copies", 10), ("TollBarsModel", 408, "with", 50), ("TollBarsModel", 410, "loads", 22), ("TollBarsModel", 412, "from", 15)]
def roomL : List Int := [8, 4, 6, 12, 8, 6, 6, 4, 4, 4, 3, 6]
def cntL : List Int := [0, 1, 2, 3, 4, 5, 6, 7, 8, 10, 11]
/-- what stands below the base and never changes: Strings and their bytes (from 1000 and from 1100 on), the rows ROOM (1990) and COUNTED (1991), one static of String -/
def SF (bs : Nat) (sa : Nat → Nat) (U : State) : Prop :=
  vk_S 51 sLen sByt (fun i => sa i) (fun i => sa (100 + i)) (fun q => bs ≤ q) U U.heap ∧ (∀ q ∈ sTab, vk_R q.1 q.2.1 q.2.2.1 (sa q.2.2.2) U) ∧
  (va_Z "TollBars" "ROOM" "[I" (.ref (sa 990)) (fun q => bs ≤ q) U U.heap ∧ va_T .int (sa 990) 12 (fun j => .int (Int32.ofInt (roomL.getD j 0))) (fun q => bs ≤ q) U U.heap) ∧
  (va_Z "TollBars" "COUNTED" "[I" (.ref (sa 991)) (fun q => bs ≤ q) U U.heap ∧ va_T .int (sa 991) 11 (fun j => .int (Int32.ofInt (cntL.getD j 0))) (fun q => bs ≤ q) U U.heap) ∧
  va_Z "java/lang/String" "COMPACT_STRINGS" "Z" (.int 1) (fun q => bs ≤ q) U U.heap ∧
  (va_Z "jdk/internal/util/Preconditions" "SIOOBE_FORMATTER" "Ljava/util/function/BiFunction;" .null (fun q => bs ≤ q) U U.heap ∨ va_Z "jdk/internal/util/Preconditions" "SIOOBE_FORMATTER" "Ljava/util/function/BiFunction;" (.ref (sa 992)) (fun q => bs ≤ q) U U.heap)
theorem SF.go {bs : Nat} {sa : Nat → Nat} {s U : State} (h : SF bs sa s) (hW : s.WarmedH U.vm) (hq : ∀ a : Nat, a < s.heap.size → ¬ bs ≤ a → U.heap[a]? = s.heap[a]?) : SF bs sa U :=
  ⟨vk_S.moved hW.alike (h.1.kept hq), fun q hqm => vk_R.warm hW (h.2.1 q hqm), ⟨va_Z.moved hW.alike (h.2.2.1.1.kept hq), va_T.moved hW.alike (h.2.2.1.2.kept hq)⟩,
   ⟨va_Z.moved hW.alike (h.2.2.2.1.1.kept hq), va_T.moved hW.alike (h.2.2.2.1.2.kept hq)⟩, va_Z.moved hW.alike (h.2.2.2.2.1.kept hq), h.2.2.2.2.2.elim (fun z => Or.inl (va_Z.moved hW.alike (z.kept hq))) (fun z => Or.inr (va_Z.moved hW.alike (z.kept hq)))⟩
theorem SF.same {bs : Nat} {sa : Nat → Nat} {s U : State} (h : SF bs sa s) (hv : U.vm = s.vm) (hh : U.heap = s.heap) : SF bs sa U :=
  h.go (by rw [hv]; exact State.WarmedH.refl s) (fun a _ _ => by rw [hh])
