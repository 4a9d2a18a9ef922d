theorem zz (x y : Int64) : lg_cmp x y = 5 := by
  unfold lg_cmp
  trace_state
  sorry
