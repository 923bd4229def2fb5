/-! ===== what is known at the entry: the rows of directions ===== -/
set_option maxRecDepth 100000 in
theorem dir_X {args : Array Value} {s : State} {A : Nat → Prop} (hgv : (Jvm.Cond.and given_1 narrow_1).before args s = true) (hl : (Cond.laysStatic "HeldPart" "DIRECTION_X" "[I").before args s = true) (hi : (Cond.initialized "HeldPart").before args s = true) (hA : ∀ a : Nat, a < s.heap.size → ¬ A a) : ∃ t : Nat, va_Z "HeldPart" "DIRECTION_X" "[I" (.ref t) A s s.heap ∧ va_T .int t 8 (fun j => .int (dirX j)) A s s.heap := by
  have hs := flat_of_before _ hgv
  have hel : ∀ j : Nat, j < 8 → (Term.elem (.static "HeldPart" "DIRECTION_X" "[I") (.int (Int32.ofNat j))).eval args s none [] s = some (.int (dirX j)) := by
    intro j hj
    match j, hj with
    | 0, _ => exact va_eqt (z := 1) (hs _ (by decide +kernel))
    | 1, _ => exact va_eqt (z := 1) (hs _ (by decide +kernel))
    | 2, _ => exact va_eqt (z := 0) (hs _ (by decide +kernel))
    | 3, _ => exact va_eqt (z := -1) (hs _ (by decide +kernel))
    | 4, _ => exact va_eqt (z := -1) (hs _ (by decide +kernel))
    | 5, _ => exact va_eqt (z := -1) (hs _ (by decide +kernel))
    | 6, _ => exact va_eqt (z := 0) (hs _ (by decide +kernel))
    | 7, _ => exact va_eqt (z := 1) (hs _ (by decide +kernel))
  obtain ⟨t, h1, h2⟩ := va_Tof (tm := .static "HeldPart" "DIRECTION_X" "[I") (ty := .int) (N := 8) (f := fun j => .int (dirX j)) (A := A) (by decide) (hs _ (by decide +kernel)) (va_eqt (z := 8) (hs _ (by decide +kernel))) hel hA
  exact ⟨t, va_Zof hl hi h1 hA, h2⟩
set_option maxRecDepth 100000 in
theorem dir_Y {args : Array Value} {s : State} {A : Nat → Prop} (hgv : (Jvm.Cond.and given_1 narrow_1).before args s = true) (hl : (Cond.laysStatic "HeldPart" "DIRECTION_Y" "[I").before args s = true) (hi : (Cond.initialized "HeldPart").before args s = true) (hA : ∀ a : Nat, a < s.heap.size → ¬ A a) : ∃ t : Nat, va_Z "HeldPart" "DIRECTION_Y" "[I" (.ref t) A s s.heap ∧ va_T .int t 8 (fun j => .int (dirY j)) A s s.heap := by
  have hs := flat_of_before _ hgv
  have hel : ∀ j : Nat, j < 8 → (Term.elem (.static "HeldPart" "DIRECTION_Y" "[I") (.int (Int32.ofNat j))).eval args s none [] s = some (.int (dirY j)) := by
    intro j hj
    match j, hj with
    | 0, _ => exact va_eqt (z := 0) (hs _ (by decide +kernel))
    | 1, _ => exact va_eqt (z := 1) (hs _ (by decide +kernel))
    | 2, _ => exact va_eqt (z := 1) (hs _ (by decide +kernel))
    | 3, _ => exact va_eqt (z := 1) (hs _ (by decide +kernel))
    | 4, _ => exact va_eqt (z := 0) (hs _ (by decide +kernel))
    | 5, _ => exact va_eqt (z := -1) (hs _ (by decide +kernel))
    | 6, _ => exact va_eqt (z := -1) (hs _ (by decide +kernel))
    | 7, _ => exact va_eqt (z := -1) (hs _ (by decide +kernel))
  obtain ⟨t, h1, h2⟩ := va_Tof (tm := .static "HeldPart" "DIRECTION_Y" "[I") (ty := .int) (N := 8) (f := fun j => .int (dirY j)) (A := A) (by decide) (hs _ (by decide +kernel)) (va_eqt (z := 8) (hs _ (by decide +kernel))) hel hA
  exact ⟨t, va_Zof hl hi h1 hA, h2⟩
