theorem zbI_f {v : Int32} (h : zbI v = true) : fits .boolean (.int v) = true := by
  simp only [zbI, Bool.or_eq_true, decide_eq_true_eq] at h
  rcases h with rfl | rfl <;> rfl
