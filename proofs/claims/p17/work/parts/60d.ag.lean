def AG (S T : Nat → Nat → Nat → Int32) : Prop := ∀ c, ¬ c / 16 ∈ [28, 31, 32, 33, 38, 41, 43, 44, 45] → T c = S c
theorem AG.rf {S : Nat → Nat → Nat → Int32} : AG S S := fun _ _ => rfl
theorem AG.tr {S T U : Nat → Nat → Nat → Int32} (h : AG S T) (g : AG T U) : AG S U := fun c hc => (g c hc).trans (h c hc)
theorem AG.up {S T : Nat → Nat → Nat → Int32} {c i j : Nat} {v : Int32} (h : AG S T) (hc : c / 16 ∈ [28, 31, 32, 33, 38, 41, 43, 44, 45]) : AG S (up3 T c i j v) := fun c' h' => (up3_c (fun q : c' = c => h' (by rw [q]; exact hc))).trans (h c' h')
theorem AG.k {S T U : Nat → Nat → Nat → Int32} {j : Nat} (h : AG S T) (hU : ∀ c i, ¬ (c / 16 = 38 ∧ i = j) → U c i = T c i) : AG S U := fun c hc => (funext fun i => hU c i (fun w => hc (by rw [w.1]; decide))).trans (h c hc)
theorem AG.fr {S T : Nat → Nat → Nat → Int32} (h : AG S T) : FR S T := ⟨h 416 (by decide), h 432 (by decide)⟩
