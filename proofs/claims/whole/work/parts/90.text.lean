theorem st_text {n0 : Nat} (hn : 2000000 ≤ n0) : St_text n0 := by
  sorry
