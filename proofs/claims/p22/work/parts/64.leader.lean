theorem gt_n {k n : Nat} (h : ¬ nI n < nI k) (hn : n < 2 ^ 31) (hk : k < 2 ^ 31) : k ≤ n := (nI_leI hk hn).mp (Int32.not_lt.mp h)
