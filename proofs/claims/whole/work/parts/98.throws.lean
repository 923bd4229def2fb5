/-! ===== what is known at the entry: what throws want ===== -/
theorem gt_of {s : State} {args : Array Value} (hts : ∀ w ∈ lw_tbl, w.before args s = true) : ∀ w ∈ gtbl, w.before args s = true := fun w hw => hts w (List.mem_filter.mp hw).1
theorem nt_of {s : State} {args : Array Value} (hts : ∀ w ∈ lw_tbl, w.before args s = true) : ∀ w ∈ ntbl, va_Nw w s := by
  intro w hw
  have h := List.mem_filter.mp hw
  have h2 := h.2
  refine va_Nw.of ?_ (hts w h.1)
  cases w <;> first | rfl | (simp [isN] at h2; done)
theorem dt_of {s : State} {args : Array Value} (hts : ∀ w ∈ lw_tbl, w.before args s = true) : ∀ w ∈ dtbl, va_Nw w s := by
  intro w hw
  have h := List.mem_filter.mp hw
  have h2 := h.2
  refine va_Nw.of ?_ (hts w h.1)
  cases w <;> first | rfl | (simp [isD] at h2; done)
