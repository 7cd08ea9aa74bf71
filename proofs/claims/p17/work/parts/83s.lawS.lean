theorem ST_l {S T : Nat → Nat → Nat → Int32} {g g2 n : Nat} {fk fa : Int32} {P f lw lw2 : Nat → Int32} (hB : Byt P n) (L : RLw S g lw) (C : STx (TC P) P fk f) (hs : STS S T g g2 fk f) (M : STx (TM P) P fa lw2) (hz : ¬ fa = 0 → lw2 = lw) : RLw T g2 lw2 := by
  obtain ⟨e1, e2⟩ := STx_u hB C M
  rcases hs with ⟨c1, c2, c3⟩ | ⟨c1, c2, c3⟩
  · intro k hk
    rw [c2, ← e2 c1 k hk]
  · rw [c2, c3, hz (fun w => c1 (e1.mpr w))]; exact L
theorem rng_v : ∀ j, j < 6 → rngK j (v00 j) := by unfold rngK v00; decide
theorem PR_rng {T : Nat → Int32 → Nat → Nat → Int32 → Prop} {P : Nat → Int32} : ∀ k i g v, PRo (SCo T P) 0 g00 v00 k i g v → ∀ j, j < 6 → rngK j (v j)
  | 0, i, g, v, h => by
    rw [h.2.2]
    exact rng_v
  | k + 1, i, g, v, h => by
    obtain ⟨i', g', v', kk, x, a, b, c, d⟩ := h
    have ih := PR_rng k i' g' v' a
    obtain ⟨i2, _, _, t2, e2, _, r, _⟩ := SC_hd.mp b
    intro j hj
    rw [d]
    by_cases q : j = kk
    · rw [q, up_s]; exact r
    · rw [up_n q]; exact ih j hj
theorem rng_iv {f : Nat → Int32} (h : ∀ j, j < 6 → rngK j (f j)) : (1 ≤ (f 0).toInt ∧ (f 0).toInt ≤ 9) ∧ ∀ k, k < 6 → 0 ≤ (f k).toInt ∧ (f k).toInt ≤ 50 := by
  refine ⟨?_, fun k hk => ?_⟩
  · have := h 0 (by decide)
    unfold rngK at this
    rw [if_pos rfl, if_pos rfl] at this; exact this
  · have := h k hk
    unfold rngK at this
    by_cases c : k = 0
    · rw [if_pos c, if_pos c] at this; omega
    · rw [if_neg c, if_neg c] at this
      by_cases d : k < 3
      · rw [if_pos d] at this; omega
      · rw [if_neg d] at this; omega
theorem ST_iv {S T : Nat → Nat → Nat → Int32} {g g2 : Nat} {fk : Int32} {P f : Nat → Int32} (C : STx (TC P) P fk f) (hs : STS S T g g2 fk f) (h : IVl S g) : IVl T g2 := by
  rcases hs with ⟨c1, c2, c3⟩ | ⟨c1, c2, c3⟩
  · obtain ⟨vf, ⟨k, i, g', v, a, b⟩, e⟩ := C
    have ev : ∀ j, j < 6 → f j = v j := fun j hj => by
      rcases b with ⟨_, _, z⟩ | ⟨_, _, z⟩
      · rw [e c1 j hj, z]
      · exact absurd c1 z
    have R := PR_rng k i g' v a
    unfold IVl
    rw [c2]
    exact rng_iv (fun j hj => by rw [ev j hj]; exact R j hj)
  · rw [c2, c3]; exact h
theorem STS_k {S T : Nat → Nat → Nat → Int32} {g g2 : Nat} {fk : Int32} {f : Nat → Int32} (hs : STS S T g g2 fk f) {c : Nat} (hc : ¬ c / 16 = 14) : T c = S c := by
  rcases hs with ⟨_, _, c3⟩ | ⟨_, c2, _⟩
  · exact funext fun i => c3 c i (fun w => hc w.1)
  · rw [c2]
