theorem st_nw : ∀ q ∈ nwl, Cond.methodLinkNest q.1 q.2.1 q.2.2.1 q.2.2.2 ∈ lw_tbl := by decide +kernel
theorem st_N {args : Array Value} {s : State} (hl : ∀ w ∈ lw_tbl, w.before args s = true) : jN s := fun q hq => va_Nw.of rfl (hl _ (st_nw q hq))
