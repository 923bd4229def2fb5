/-! ===== the law's entry ===== -/
theorem str_of {s : State} {args : Array Value} {own tx : String} {k N : Nat} (hi : (Cond.instantiable own N).before args s = true) (h : (Cond.stringRef own k tx).before args s = true) : ∃ sa, vk_R own k tx sa s := by
  obtain ⟨cC, kC, hfc, -⟩ := Cond.instantiable_spec hi
  obtain ⟨kk, cf, i, a, -, -, -, -, -, he⟩ := Cond.stringRef_spec hfc h
  exact ⟨a, vk_R.of h he⟩
