def PQc (c x : Nat → Nat → Int) (lf G T : Nat → Int) : Prop := (∀ i, i < 12 → 0 ≤ G i) ∧ (∀ i, i < 12 → ∀ k, k < 12 → c i k < 1000000 → T k ≤ G i + c i k) ∧ (∀ i, i < 12 → ∀ k, k < 12 → 0 < x i k → c i k < 1000000 ∧ T k = G i + c i k) ∧ (∀ i, i < 12 → 0 < lf i → G i = 0) ∧ ∀ k, k < 12 → ∃ i, i < 12 ∧ c i k < 1000000 ∧ T k = G i + c i k
def MTc (c : Nat → Nat → Int) : Prop := (∀ i, i < 12 → c i i = 0) ∧ (∀ i, i < 12 → ∀ k, k < 12 → c i k = c k i) ∧ (∀ i, i < 12 → ∀ k, k < 12 → 0 ≤ c i k ∧ (c i k < 1000000 → c i k ≤ 528)) ∧ ∀ i, i < 12 → ∀ k, k < 12 → ∀ j, j < 12 → c i k < 1000000 → c k j < 1000000 → c i j ≤ c i k + c k j
def LBc (c x : Nat → Nat → Int) (lf g u : Nat → Int) : Prop := (∀ i, i < 12 → 0 ≤ g i ∧ g i ≤ 1000000 ∧ 0 ≤ u i ∧ u i ≤ 1000000 ∧ (g i < 1000000 → g i ≤ 20000)) ∧ (∀ i, i < 12 → ∀ k, k < 12 → g i < 1000000 → c i k < 1000000 → u k ≤ g i + c i k) ∧ (∀ i, i < 12 → ∀ k, k < 12 → 0 < x i k → u k < 1000000 → g i ≤ u k - c i k) ∧ (∀ k, k < 12 → u k < 1000000 → ∃ i, i < 12 ∧ g i < 1000000 ∧ c i k < 1000000 ∧ u k = g i + c i k) ∧ ∀ i, i < 12 → 0 < lf i → g i = 0
theorem cl_q {c x : Nat → Nat → Int} {lf g u : Nat → Int} {i k : Nat} (hM : MTc c) (hL : LBc c x lf g u) (hi : i < 12) (hk : k < 12) (h : c i k < 1000000) (z : u i < 1000000) : u k < 1000000 := by
  obtain ⟨j, hj, a, b, _⟩ := hL.2.2.2.1 i hi z
  have t := hM.2.2.2 j hj i hi k hk b h
  have b1 := (hM.2.2.1 j hj i hi).2 b
  have b2 := (hM.2.2.1 i hi k hk).2 h
  have g1 := (hL.1 j hj).2.2.2.2 a
  have := hL.2.1 j hj k hk a (by omega)
  omega
def pgw (u g G : Nat → Int) : Nat → Int := fun i => if u i < 1000000 then g i else G i
theorem PQ_n {c x x' : Nat → Nat → Int} {lf lf' G T g u : Nat → Int} (hM : MTc c) (hP : PQc c x lf G T) (hL : LBc c x lf g u) (hD : ∀ i, i < 12 → ∀ k, k < 12 → 0 < x' i k → 0 < x i k ∨ (g i < 1000000 ∧ c i k < 1000000 ∧ u k < 1000000 ∧ u k = g i + c i k)) (hF : ∀ i, i < 12 → 0 < lf' i → 0 < lf i ∨ g i = 0) : PQc c x' lf' (pgw u g G) (pgw u u T) := by
  have cl : ∀ i, i < 12 → ∀ k, k < 12 → c i k < 1000000 → (u i < 1000000 ↔ u k < 1000000) := fun i hi k hk h => ⟨fun z => cl_q hM hL hi hk h z, fun z => cl_q hM hL hk hi (by rw [← hM.2.1 i hi k hk]; exact h) z⟩
  refine ⟨fun i hi => ?_, fun i hi k hk h => ?_, fun i hi k hk h => ?_, fun i hi h => ?_, fun k hk => ?_⟩
  · unfold pgw
    have a := hP.1 i hi
    have b := hL.1 i hi
    split <;> omega
  · unfold pgw
    by_cases z : u i < 1000000
    · rw [if_pos z, if_pos ((cl i hi k hk h).mp z)]
      by_cases y : g i < 1000000
      · exact hL.2.1 i hi k hk y h
      · have := hL.1 k hk
        have := (hM.2.2.1 i hi k hk).1
        have := hL.1 i hi
        omega
    · rw [if_neg z, if_neg (fun y => z ((cl i hi k hk h).mpr y))]; exact hP.2.1 i hi k hk h
  · rcases hD i hi k hk h with q | ⟨q1, q2, q3, q4⟩
    · obtain ⟨a, b⟩ := hP.2.2.1 i hi k hk q
      refine ⟨a, ?_⟩
      unfold pgw
      by_cases z : u k < 1000000
      · rw [if_pos z, if_pos ((cl i hi k hk a).mpr z)]
        have e := hL.2.2.1 i hi k hk q z
        have c0 := (hM.2.2.1 i hi k hk).1
        have f := hL.2.1 i hi k hk (by omega) a
        omega
      · rw [if_neg z, if_neg (fun y => z ((cl i hi k hk a).mp y))]; exact b
    · refine ⟨q2, ?_⟩
      unfold pgw
      rw [if_pos q3, if_pos ((cl i hi k hk q2).mpr q3)]; exact q4
  · have g0 : g i = 0 := by
      rcases hF i hi h with q | q
      · exact hL.2.2.2.2 i hi q
      · exact q
    have := hL.2.1 i hi i hi (by omega) (by rw [hM.1 i hi]; omega)
    rw [hM.1 i hi] at this
    unfold pgw
    rw [if_pos (by omega)]; exact g0
  · unfold pgw
    by_cases z : u k < 1000000
    · obtain ⟨i, hi, a, b, e⟩ := hL.2.2.2.1 k hk z
      exact ⟨i, hi, b, by rw [if_pos z, if_pos ((cl i hi k hk b).mpr z)]; exact e⟩
    · obtain ⟨i, hi, a, e⟩ := hP.2.2.2.2 k hk
      exact ⟨i, hi, a, by rw [if_neg z, if_neg (fun y => z ((cl i hi k hk a).mp y))]; exact e⟩
theorem PQ_0 {c x : Nat → Nat → Int} {lf : Nat → Int} (hM : MTc c) (h0 : ∀ i, i < 12 → ∀ k, k < 12 → x i k = 0) : PQc c x lf (fun _ => 0) (fun _ => 0) := by
  refine ⟨fun _ _ => Int.le_refl _, fun i hi k hk _ => ?_, fun i hi k hk h => ?_, fun _ _ _ => rfl, fun k hk => ⟨k, hk, ?_, ?_⟩⟩
  · have := (hM.2.2.1 i hi k hk).1
    show (0 : Int) ≤ 0 + c i k
    omega
  · rw [h0 i hi k hk] at h; omega
  · rw [hM.1 k hk]; omega
  · rw [hM.1 k hk]; rfl
theorem PQ_lip {c x : Nat → Nat → Int} {lf G T : Nat → Int} {a b : Nat} (hM : MTc c) (hP : PQc c x lf G T) (ha : a < 12) (hb : b < 12) (h : c a b < 1000000) : T b ≤ T a + c a b := by
  obtain ⟨i, hi, q, e⟩ := hP.2.2.2.2 a ha
  have t := hM.2.2.2 i hi a ha b hb q h
  have b1 := (hM.2.2.1 i hi a ha).2 q
  have b2 := (hM.2.2.1 a ha b hb).2 h
  have := hP.2.1 i hi b hb (by omega)
  omega
