theorem law_L {L : Nat} (hL : L ≤ 6) (c : ¬ (Int32.ofNat L - 6) < 0) : L = 6 := by
  rcases (show L = 0 ∨ L = 1 ∨ L = 2 ∨ L = 3 ∨ L = 4 ∨ L = 5 ∨ L = 6 by omega) with rfl | rfl | rfl | rfl | rfl | rfl | rfl
  · exact absurd (by decide) c
  · exact absurd (by decide) c
  · exact absurd (by decide) c
  · exact absurd (by decide) c
  · exact absurd (by decide) c
  · exact absurd (by decide) c
  · rfl
theorem j12 {j : Nat} (h : j < 12) : j = 0 ∨ j = 1 ∨ j = 2 ∨ j = 3 ∨ j = 4 ∨ j = 5 ∨ j = 6 ∨ j = 7 ∨ j = 8 ∨ j = 9 ∨ j = 10 ∨ j = 11 := by omega
theorem st_ex (v : Int32) : ∃ j : Nat, j < 12 ∧ (¬ sp_st v = 0 → v = nI j) := by
  by_cases h : sp_st v = 0
  · exact ⟨0, by decide, fun q => absurd h q⟩
  · obtain ⟨j, hj, e⟩ := st_of h
    exact ⟨j, hj, fun _ => e⟩
theorem st_ex2 (u v : Int32) : ∃ i j : Nat, i < 12 ∧ j < 12 ∧ ¬ i = j ∧ (¬ sp_st u = 0 → ¬ sp_st v = 0 → ¬ u = v → u = nI i ∧ v = nI j) := by
  obtain ⟨i, hi, ei⟩ := st_ex u
  obtain ⟨j, hj, ej⟩ := st_ex v
  by_cases h : i = j
  · refine ⟨0, 1, by decide, by decide, by decide, fun a b c => absurd ?_ c⟩
    rw [ei a, ej b, h]
  · exact ⟨i, j, hi, hj, h, fun a b _ => ⟨ei a, ej b⟩⟩
theorem gr_at {r : Nat → Nat} {j : Nat} {v : Int32} (hj : j < 12) (h : v = nI j) : (fun i => if i < 12 then some (r i) else none) v.toNatClampNeg = some (r j) := by
  rw [h]
  show (if (nI j).toNatClampNeg < 12 then some (r (nI j).toNatClampNeg) else none) = some (r j)
  rw [nI_clamp (by omega), if_pos hj]
theorem gr_hy {r : Nat → Nat} {j : Nat} {v : Int32} (hj : j < 12) (h : ¬ sp_st v = 0 → v = nI j) : ¬ sp_st v = 0 → (fun i => if i < 12 then some (r i) else none) v.toNatClampNeg = some (r j) := fun q => gr_at hj (h q)
theorem gr_hy4 {r r' : Nat → Nat} {i j : Nat} {u v : Int32} (hi : i < 12) (hj : j < 12) (h : ¬ sp_st u = 0 → ¬ sp_st v = 0 → ¬ u = v → u = nI i ∧ v = nI j) : ¬ sp_st u = 0 → ¬ sp_st v = 0 → ¬ u = v → (fun i => if i < 12 then some (r i) else none) u.toNatClampNeg = some (r i) ∧ (fun i => if i < 12 then some (r i) else none) v.toNatClampNeg = some (r j) ∧ (fun i => if i < 12 then some (r' i) else none) u.toNatClampNeg = some (r' i) ∧ (fun i => if i < 12 then some (r' i) else none) v.toNatClampNeg = some (r' j) := fun a b c => ⟨gr_at hi (h a b c).1, gr_at hj (h a b c).2, gr_at hi (h a b c).1, gr_at hj (h a b c).2⟩
theorem at_eq (u v : Int32) : (if (sp_st u) = 0 then (-1 : Int32) else (if v = 0 then 0 else (if v = 1 then 0 else (if v = 2 then 0 else (-1))))) = (if (sp_st u) = 0 then (-1) else (if v < 0 then (-1) else (if v ≤ 2 then (if v = 0 then 0 else (if v = 1 then 0 else 0)) else (-1)))) := by
  by_cases h : sp_st u = 0
  · rw [if_pos h, if_pos h]
  · rw [if_neg h, if_neg h]
    by_cases h0 : v = 0
    · subst h0; rfl
    · rw [if_neg h0]
      by_cases h1 : v = 1
      · subst h1; rfl
      · rw [if_neg h1]
        by_cases h2 : v = 2
        · subst h2; rfl
        · rw [if_neg h2]
          have ho := sw_out0_2 h0 h1 h2
          by_cases h3 : v < 0
          · rw [if_pos h3]
          · rw [if_neg h3]
            by_cases h4 : v ≤ 2
            · exfalso
              rw [Int32.lt_iff_toInt_lt] at h3
              rw [Int32.le_iff_toInt_le] at h4
              have e0 : (0 : Int32).toInt = 0 := by decide
              have e2 : (2 : Int32).toInt = 2 := by decide
              omega
            · rw [if_neg h4]
theorem sw_out0_21 {x : Int32} (h0 : ¬ x = 0) (h1 : ¬ x = 1) (h2 : ¬ x = 2) (h3 : ¬ x = 3) (h4 : ¬ x = 4) (h5 : ¬ x = 5) (h6 : ¬ x = 6) (h7 : ¬ x = 7) (h8 : ¬ x = 8) (h9 : ¬ x = 9) (h10 : ¬ x = 10) (h11 : ¬ x = 11) (h12 : ¬ x = 12) (h13 : ¬ x = 13) (h14 : ¬ x = 14) (h15 : ¬ x = 15) (h16 : ¬ x = 16) (h17 : ¬ x = 17) (h18 : ¬ x = 18) (h19 : ¬ x = 19) (h20 : ¬ x = 20) (h21 : ¬ x = 21) : x.toInt < 0 ∨ 21 < x.toInt := by
  have g0 := sw_i (n := 0) (by decide) h0
  have g1 := sw_i (n := 1) (by decide) h1
  have g2 := sw_i (n := 2) (by decide) h2
  have g3 := sw_i (n := 3) (by decide) h3
  have g4 := sw_i (n := 4) (by decide) h4
  have g5 := sw_i (n := 5) (by decide) h5
  have g6 := sw_i (n := 6) (by decide) h6
  have g7 := sw_i (n := 7) (by decide) h7
  have g8 := sw_i (n := 8) (by decide) h8
  have g9 := sw_i (n := 9) (by decide) h9
  have g10 := sw_i (n := 10) (by decide) h10
  have g11 := sw_i (n := 11) (by decide) h11
  have g12 := sw_i (n := 12) (by decide) h12
  have g13 := sw_i (n := 13) (by decide) h13
  have g14 := sw_i (n := 14) (by decide) h14
  have g15 := sw_i (n := 15) (by decide) h15
  have g16 := sw_i (n := 16) (by decide) h16
  have g17 := sw_i (n := 17) (by decide) h17
  have g18 := sw_i (n := 18) (by decide) h18
  have g19 := sw_i (n := 19) (by decide) h19
  have g20 := sw_i (n := 20) (by decide) h20
  have g21 := sw_i (n := 21) (by decide) h21
  omega

theorem nwl_in : ∀ w ∈ nwl, w ∈ lw_tbl := mem_pl [102, 103, 251, 253, 247, 250, 96, 112, 137, 163, 244, 418, 745, 594, 603] (by decide +kernel)
theorem NW.start {args : Array Value} {s : State} (hts : ∀ w ∈ lw_tbl, w.before args s = true) : NW s := ⟨fun w hw => va_Nw.of (nwl_tab w hw) (hts w (nwl_in w hw)), va_AO.of (hts (.arrayOver (.object "YamRiders$Horse")) (List.mem_of_getElem? (i := 156) (by decide +kernel))), va_AO.of (hts (.arrayOver (.object "YamRiders$Tablet")) (List.mem_of_getElem? (i := 158) (by decide +kernel))), va_AO.of (hts (.arrayOver (.object "YamRiders$Rider")) (List.mem_of_getElem? (i := 160) (by decide +kernel))), (hts (.arrayOver (.array .int)) (List.mem_of_getElem? (i := 117) (by decide +kernel)))⟩
theorem inst_in0 : Cond.instantiable RX0 3 ∈ lw_tbl := List.mem_of_getElem? (i := 441) (by decide +kernel)
theorem inst_in1 : Cond.instantiable RX1 4 ∈ lw_tbl := List.mem_of_getElem? (i := 136) (by decide +kernel)
theorem inst_in2 : Cond.instantiable RX2 10 ∈ lw_tbl := List.mem_of_getElem? (i := 537) (by decide +kernel)
theorem inst_in3 : Cond.instantiable RX3 5 ∈ lw_tbl := List.mem_of_getElem? (i := 111) (by decide +kernel)
theorem inst_in4 : Cond.instantiable RX4 10 ∈ lw_tbl := List.mem_of_getElem? (i := 238) (by decide +kernel)
theorem inst_in5 : Cond.instantiable RX5 1 ∈ lw_tbl := List.mem_of_getElem? (i := 162) (by decide +kernel)
theorem inst_in6 : Cond.instantiable RX6 2 ∈ lw_tbl := List.mem_of_getElem? (i := 463) (by decide +kernel)
theorem inst_in7 : Cond.instantiable RX7 2 ∈ lw_tbl := List.mem_of_getElem? (i := 95) (by decide +kernel)
theorem inst_in8 : Cond.instantiable RX8 15 ∈ lw_tbl := List.mem_of_getElem? (i := 87) (by decide +kernel)
theorem inst_in9 : Cond.instantiable RX9 47 ∈ lw_tbl := List.mem_of_getElem? (i := 880) (by decide +kernel)
