theorem nb_in : ∀ w ∈ nbl ++ [Cond.castable nsN nsN], w ∈ lw_tbl := mem_pl [802, 804, 806, 800] (by decide +kernel)
theorem str_of {args : Array Value} {s : State} {k : Nat} {tx : String} (h : (Cond.exactly (.string "YamRiders" k) "java/lang/String").before args s = true) (h2 : (Cond.stringRef RX8 k tx).before args s = true) : ∃ sa : Nat, vk_R RX8 k tx sa s := by
  obtain ⟨a, _, _, _, q1, _⟩ := Cond.exactly_spec h
  exact ⟨a, vk_R.of h2 q1⟩
