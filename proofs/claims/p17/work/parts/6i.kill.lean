theorem wi_in {x : Int32} {w : Nat} (hw : w ≤ 12) (h1 : ¬ x < 0) (h2 : ¬ nI w ≤ x) : vp_in x w := by
  obtain ⟨j, hj, rfl⟩ := nI_of h1
  exact vp_in_nI (Decidable.byContradiction fun q => h2 (nI_le (by omega) hj)) (by omega)
