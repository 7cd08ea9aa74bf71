theorem t_lt {n : Nat} (h : n ≤ 20) (c : ¬ nI n = 20) : n < 20 := by
  rcases Nat.lt_or_ge n 20 with q | q
  · exact q
  · exact absurd (show nI n = nI 20 by rw [show n = 20 by omega]) c
