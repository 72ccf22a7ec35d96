/-! THE LAW'S START: tables, kinds -/
theorem st_Tb {s : State} {b : Nat} (hts : ∀ w ∈ lw_tbl, w.before #[Value.ref b] s = true) : Tb s := by
  intro w hw ho
  have h1 := hts w hw
  unfold okw at ho
  rw [Bool.or_eq_true] at ho
  rcases ho with ho | ho
  · exact word_at (State.WarmedH.refl s) (good_of_word ho) h1
  · split at ho
    · exact va_Nw.of rfl h1
    · exact va_Nw.of rfl h1
    · cases ho
theorem st_inst : ∀ k, k < 13 → isW (.instantiable (cR k) (nfd k)) = true := by decide +kernel
theorem st_arr1 : isW (.arrayClass .byte) = true := by decide +kernel
theorem st_arr2 : isW (.arrayClass .int) = true := by decide +kernel
theorem st_arr3 : isW (.arrayClass .long) = true := by decide +kernel
theorem st_arr4 : isW (.arrayClass .boolean) = true := by decide +kernel
theorem st_A {s : State} (hT : Tb s) {ty : FieldType} (h : isW (.arrayClass ty) = true) (hp : va_RA s = va_RA s) : ∃ cA : ClassId, ArrOfT s cA ty ∧ s.vm.findClass ("[" ++ ty.toString) = some cA := by
  obtain ⟨c, k, comp, h1, h2, h3⟩ := Cond.arrayClass_spec (hT.at h #[])
  exact ⟨c, fun n z => ⟨(fun q => by intro hh; cases hh), k, h2, comp, h3⟩, h1⟩
theorem st_K {s : State} (hT : Tb s) : ∃ (D : va_G) (cA : FieldType → ClassId), va_K D vwCl (tys cA) s := by
  have h0 : ∀ k : Nat, ∃ q : ClassId × (Nat → Nat), k < 13 → u_Kn s (cR k) (cT k) (nfd k) q.1 q.2 := by
    intro k
    by_cases hk : k < 13
    · obtain ⟨c, iS, h⟩ := u_known (C := cR k) (T := cT k) (N := nfd k) (hT.cls hk #[]) (fun _ h => h) (hT.at (st_inst k hk) #[])
      exact ⟨(c, iS), fun _ => h⟩
    · exact ⟨(0, fun _ => 0), fun h => absurd h hk⟩
  obtain ⟨f, hf⟩ := Classical.axiomOfChoice h0
  obtain ⟨a1, b1, c1⟩ := st_A hT st_arr1 rfl
  obtain ⟨a2, b2, c2⟩ := st_A hT st_arr2 rfl
  obtain ⟨a3, b3, c3⟩ := st_A hT st_arr3 rfl
  obtain ⟨a4, b4, c4⟩ := st_A hT st_arr4 rfl
  refine ⟨(fun k => (f k).1, fun k => (f k).2), fun ty => match ty with | .byte => a1 | .int => a2 | .long => a3 | _ => a4, fun c q hq => ?_, fun k q hk => ?_⟩
  · have hc : c < 13 := (List.getElem?_eq_some_iff.mp hq).1
    rw [cl_at c hc] at hq
    cases hq
    exact hf c hc
  · match k, hk with
    | 0, hk => cases hk; exact ⟨b1, c1⟩
    | 1, hk => cases hk; exact ⟨b2, c2⟩
    | 2, hk => cases hk; exact ⟨b3, c3⟩
    | 3, hk => cases hk; exact ⟨b4, c4⟩
    | k + 4, hk => simp [tys] at hk
