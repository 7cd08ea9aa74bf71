theorem f20r {n : Nat} (h : n + 20 ≤ 200) : nI n + 20 ≤ 200 := by
  rw [show (20 : Int32) = nI 20 from rfl, nI_add, show (200 : Int32) = nI 200 from rfl]
  exact nI_le h (by decide)
theorem f20 {n : Nat} (hn : n ≤ 200) (c : nI n + 20 ≤ 200) : n + 20 ≤ 200 := by
  rw [show (20 : Int32) = nI 20 from rfl, nI_add, show (200 : Int32) = nI 200 from rfl] at c
  exact (nI_leI (by omega) (by decide)).mp c
