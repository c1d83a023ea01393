theorem txref_in : ∀ q ∈ txW, Cond.stringRef q.1 q.2.1 q.2.2.1 ∈ lw_tbl := by decide +kernel
theorem txlen_in : ∀ q ∈ txW, q.2.2.2.length < 2 ^ 31 := by decide +kernel
