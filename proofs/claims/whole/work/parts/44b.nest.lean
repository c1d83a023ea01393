theorem nw_start {s : State} {b : Nat} (hts : ∀ w ∈ lw_tbl, w.before #[Value.ref b] s = true) : nwA s := by
  have hin : ∀ w ∈ nwL, w ∈ lw_tbl := by decide +kernel
  intro w hw
  exact va_Nw.of (List.all_eq_true.mp nwL_tab w hw) (hts w (hin w hw))
