/-! ===== what is known at the law's entry: the classes ===== -/
theorem kn_of {s : State} {args : Array Value} (hts : ∀ w ∈ gtbl, w.before args s = true) {ci N : Nat} {Cn : String} {T : u_T} {ty : Nat → FieldType} (hC0 : hC ci Cn T N ty) (hi : Cond.instantiable Cn N ∈ gtbl) : ∃ (cC : ClassId) (iS : Nat → Nat), ∀ q, vwCl[ci]? = some q → u_Kn s q.1 q.2.1 q.2.2 cC iS := by
  obtain ⟨cC, iS, h⟩ := u_known (C := Cn) (T := T) (N := N) (n := N) hts hC0.2.2.2.1 (hts _ hi)
  refine ⟨cC, iS, fun q hq => ?_⟩
  rw [hC0.2.2.1] at hq
  cases hq
  exact h
theorem kn_all {s : State} {args : Array Value} (hts : ∀ w ∈ gtbl, w.before args s = true) : ∃ (dC : Nat → ClassId) (dI : Nat → Nat → Nat), ∀ (c : Nat) (q : vw_C), vwCl[c]? = some q → u_Kn s q.1 q.2.1 q.2.2 (dC c) (dI c) := by
  have one : ∀ c : Nat, ∃ (cC : ClassId) (iS : Nat → Nat), ∀ q : vw_C, vwCl[c]? = some q → u_Kn s q.1 q.2.1 q.2.2 cC iS := by
    intro c
    match c with
    | 0 => exact kn_of hts kX0 isX0
    | 1 => exact kn_of hts kX1 isX1
    | 2 => exact kn_of hts kX2 isX2
    | 3 => exact kn_of hts kX3 isX3
    | 4 => exact kn_of hts kX4 isX4
    | 5 => exact kn_of hts kX5 isX5
    | 6 => exact kn_of hts kX6 isX6
    | 7 => exact kn_of hts kX7 isX7
    | 8 => exact kn_of hts kX8 isX8
    | 9 => exact kn_of hts kX9 isX9
    | 10 => exact kn_of hts kX10 isX10
    | 11 => exact kn_of hts kX11 isX11
    | c + 12 =>
      obtain ⟨cC, iS, -⟩ := kn_of hts kX0 isX0
      refine ⟨cC, iS, fun q hq => ?_⟩
      have : vwCl.length = 12 := by decide +kernel
      have := (List.getElem?_eq_some_iff.mp hq).1
      omega
  exact ⟨fun c => Classical.choose (one c), fun c => Classical.choose (Classical.choose_spec (one c)), fun c q hq => Classical.choose_spec (Classical.choose_spec (one c)) q hq⟩
theorem ar_of {s : State} {args : Array Value} {ty : FieldType} (h : (Cond.arrayClass ty).before args s = true) (hr : ∀ c, s.vm.findClass ("[" ++ ty.toString) = some c → va_RA s c ty) : ∃ c : ClassId, ArrOfT s c ty ∧ va_RA s c ty := by
  obtain ⟨c, k, comp, h1, h2, h3⟩ := Cond.arrayClass_spec h
  exact ⟨c, fun _ _ => ⟨(fun _ h => by cases h), k, h2, comp, h3⟩, hr c h1⟩
theorem ao_of {s : State} {C : String} (h : va_AO C s) : ∃ c : ClassId, ArrOfT s c (.object C) ∧ va_RA s c (.object C) := by
  obtain ⟨comp, c, k, h1, h2, h3, h4, h5⟩ := Cond.arrayOver_spec h
  exact ⟨c, fun _ _ => ⟨(fun _ h => by cases h), k, h3, comp, h4⟩, k, comp, h3, h4, h1, h5⟩
