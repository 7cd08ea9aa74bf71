theorem ltr_0 : ∀ a, a < 4 → ∀ b, b < 4 → ltr a 0 = ltr b 0 → a = b := by decide
theorem LW_1 {k : Nat} : 1 ≤ LW k := by unfold LW; split <;> omega
theorem SC_u {P g : Nat → Int32} {n i0 kk i4 kk2 j4 : Nat} {v v2 : Int32} (hB : Byt P n) (h : SCo (TC P) P g i0 kk v i4) (h' : SCo (TC P) P g i0 kk2 v2 j4) : kk = kk2 ∧ v = v2 ∧ i4 = j4 := by
  obtain ⟨tk0, t0, e0, va0, w, i2, h0, hw, h1, hg, t2, e2, h2, hr, t3, va3, h3⟩ := h
  obtain ⟨tk0', t0', e0', va0', w', i2', h0', hw', h1', hg', t2', e2', h2', hr', t3', va3', h3'⟩ := h'
  obtain ⟨a1, a2, a3, _⟩ := TC_u hB h0 h0'
  subst a1; subst a2; subst a3
  have ew : w = w' := by
    have x := hw.2.2.2 0 LW_1
    have y := hw'.2.2.2 0 LW_1
    exact ltr_0 w hw.1 w' hw'.1 (x.symm.trans y)
  subst ew
  have E : kk = kk2 ∧ i2 = i2' := by
    rcases h1 with ⟨b1, b2, b3⟩ | ⟨b1, t1, e1, va1, b2, b3, b4, b5, b6⟩
    · rcases h1' with ⟨c1, c2, c3⟩ | ⟨c1, _⟩
      · exact ⟨b2.trans c2.symm, b3.trans c3.symm⟩
      · omega
    · rcases h1' with ⟨c1, c2, c3⟩ | ⟨c1, u1, f1, vb1, c2, c3, c4, c5, c6⟩
      · omega
      · obtain ⟨_, _, d3, d4⟩ := TC_u hB b2 c2
        have d5 := d4 rfl
        rw [d5] at c5
        exact ⟨by omega, by rw [b6, c6, d3]⟩
  obtain ⟨ek, ei⟩ := E
  subst ek; subst ei
  obtain ⟨_, _, d3, d4⟩ := TC_u hB h2 h2'
  subst d3
  obtain ⟨_, _, d5, _⟩ := TC_u hB h3 h3'
  exact ⟨rfl, (d4 rfl).symm, d5.symm⟩
def PRo (R : (Nat → Int32) → Nat → Nat → Int32 → Nat → Prop) (i0 : Nat) (g0 v0 : Nat → Int32) : Nat → Nat → (Nat → Int32) → (Nat → Int32) → Prop
  | 0, i, g, v => i = i0 ∧ g = g0 ∧ v = v0
  | k + 1, i, g, v => ∃ (i' : Nat) (g' v' : Nat → Int32) (kk : Nat) (x : Int32), PRo R i0 g0 v0 k i' g' v' ∧ R g' i' kk x i ∧ g = upd g' kk 1 ∧ v = upd v' kk x
theorem PR_c {R R' : (Nat → Int32) → Nat → Nat → Int32 → Nat → Prop} {i0 : Nat} {g0 v0 : Nat → Int32} (h : ∀ g i kk x j, R g i kk x j → R' g i kk x j) : ∀ k i g v, PRo R i0 g0 v0 k i g v → PRo R' i0 g0 v0 k i g v
  | 0, _, _, _, q => q
  | k + 1, i, g, v, ⟨i', g', v', kk, x, q, r, e1, e2⟩ => ⟨i', g', v', kk, x, PR_c h k i' g' v' q, h _ _ _ _ _ r, e1, e2⟩
theorem PR_u {R : (Nat → Int32) → Nat → Nat → Int32 → Nat → Prop} {i0 : Nat} {g0 v0 : Nat → Int32} (hu : ∀ g i kk x j kk2 x2 j2, R g i kk x j → R g i kk2 x2 j2 → kk = kk2 ∧ x = x2 ∧ j = j2) : ∀ k i g v i2 g2 v2, PRo R i0 g0 v0 k i g v → PRo R i0 g0 v0 k i2 g2 v2 → i = i2 ∧ g = g2 ∧ v = v2
  | 0, _, _, _, _, _, _, ⟨a, b, c⟩, ⟨d, e, f⟩ => ⟨a.trans d.symm, b.trans e.symm, c.trans f.symm⟩
  | k + 1, i, g, v, i2, g2, v2, ⟨i', g', v', kk, x, q, r, e1, e2⟩, ⟨j', h', w', ll, y, q2, r2, f1, f2⟩ => by
    obtain ⟨a, b, c⟩ := PR_u hu k _ _ _ _ _ _ q q2
    subst a; subst b; subst c
    obtain ⟨d, e, f⟩ := hu _ _ _ _ _ _ _ _ r r2
    subst d; subst e; subst f
    exact ⟨rfl, e1.trans f1.symm, e2.trans f2.symm⟩
theorem PR_lt {R : (Nat → Int32) → Nat → Nat → Int32 → Nat → Prop} {i0 : Nat} {g0 v0 : Nat → Int32} : ∀ m k i g v, k < m → PRo R i0 g0 v0 m i g v → ∃ (i' : Nat) (g' v' : Nat → Int32) (kk : Nat) (x : Int32) (j : Nat), PRo R i0 g0 v0 k i' g' v' ∧ R g' i' kk x j
  | 0, k, _, _, _, h, _ => absurd h (by omega)
  | m + 1, k, i, g, v, h, ⟨i', g', v', kk, x, q, r, _, _⟩ => by
    by_cases e : k = m
    · subst e; exact ⟨i', g', v', kk, x, i, q, r⟩
    · exact PR_lt m k i' g' v' (by omega) q
def ENo (T : Nat → Int32 → Nat → Nat → Int32 → Prop) (i : Nat) : Prop := ∃ t e va, T i 0 t e va
theorem EN_cm {P : Nat → Int32} {n i : Nat} (hB : Byt P n) : ENo (TC P) i ↔ ENo (TM P) i := by
  constructor
  · intro ⟨t, e, va, h⟩
    obtain ⟨mk, s, f, nu, M⟩ := TM_ex hB i
    obtain ⟨a, _, _, _⟩ := CM_c h M (by decide)
    rw [a] at M
    exact ⟨s, f, nu, M⟩
  · intro ⟨t, e, va, h⟩
    refine ⟨t, e, va, h.1, ?_⟩
    rcases h.2 with m | ⟨_, m2, _⟩ | ⟨_, _, _, m2, _⟩ | ⟨_, m, _, _, _, m2, _⟩
    · exact Or.inl m
    · exact absurd m2 (by decide)
    · exact absurd m2 (by decide)
    · rcases m2 with ⟨m2, _⟩ | ⟨m2, _⟩ | ⟨m2, _⟩
      · exact absurd m2 (by decide)
      · exact absurd m2 (by decide)
      · exact absurd m2 (by decide)
def STo (T : Nat → Int32 → Nat → Nat → Int32 → Prop) (P : Nat → Int32) (g0 v0 : Nat → Int32) (fk : Int32) (vf : Nat → Int32) : Prop := ∃ (k i : Nat) (g v : Nat → Int32), PRo (SCo T P) 0 g0 v0 k i g v ∧ ((ENo T i ∧ fk = 0 ∧ vf = v) ∨ (¬ ENo T i ∧ (¬ ∃ kk x j, SCo T P g i kk x j) ∧ ¬ fk = 0))
theorem no_end {P g : Nat → Int32} {n i kk j : Nat} {x : Int32} (hB : Byt P n) (h : SCo (TC P) P g i kk x j) : ¬ ENo (TC P) i := fun ⟨t, e, va, w⟩ => by
  obtain ⟨tk0, t0, e0, va0, k, i2, h0, hw, _⟩ := h
  obtain ⟨a, _⟩ := TC_u hB h0 w
  rw [hw.2.1] at a
  exact absurd a (by decide)
theorem ST_u {P g0 v0 vf wf : Nat → Int32} {n : Nat} {a b : Int32} (hB : Byt P n) (C : STo (TC P) P g0 v0 a vf) (M : STo (TM P) P g0 v0 b wf) : (a = 0 ↔ b = 0) ∧ (a = 0 → vf = wf) := by
  obtain ⟨k, i, g, v, h1, h2⟩ := C
  obtain ⟨m, j, g', v', q1, q2⟩ := M
  have q1 := PR_c (R' := SCo (TC P) P) (fun _ _ _ _ _ r => SC_mc hB r) m j g' v' q1
  have q2 : (ENo (TC P) j ∧ b = 0 ∧ wf = v') ∨ (¬ ENo (TC P) j ∧ (¬ ∃ kk x j2, SCo (TC P) P g' j kk x j2) ∧ ¬ b = 0) := by
    rcases q2 with ⟨x, y⟩ | ⟨x, y, z⟩
    · exact Or.inl ⟨(EN_cm hB).mpr x, y⟩
    · exact Or.inr ⟨fun w => x ((EN_cm hB).mp w), fun ⟨kk, x2, j2, w⟩ => y ⟨kk, x2, j2, SC_cm hB w⟩, z⟩
  have U := PR_u (R := SCo (TC P) P) (i0 := 0) (g0 := g0) (v0 := v0) (fun _ _ _ _ _ _ _ _ r s => SC_u hB r s)
  have ekm : k = m := by
    rcases Nat.lt_trichotomy k m with c | c | c
    · exfalso
      obtain ⟨i', g2, v2, kk, x, j2, r1, r2⟩ := PR_lt m k j g' v' c q1
      obtain ⟨e1, e2, _⟩ := U k _ _ _ _ _ _ h1 r1
      subst e1; subst e2
      rcases h2 with ⟨w, _⟩ | ⟨_, w, _⟩
      · exact no_end hB r2 w
      · exact w ⟨kk, x, j2, r2⟩
    · exact c
    · exfalso
      obtain ⟨i', g2, v2, kk, x, j2, r1, r2⟩ := PR_lt k m i g v c h1
      obtain ⟨e1, e2, _⟩ := U m _ _ _ _ _ _ q1 r1
      subst e1; subst e2
      rcases q2 with ⟨w, _⟩ | ⟨_, w, _⟩
      · exact no_end hB r2 w
      · exact w ⟨kk, x, j2, r2⟩
  subst ekm
  obtain ⟨e1, e2, e3⟩ := U k _ _ _ _ _ _ h1 q1
  subst e1; subst e2; subst e3
  rcases h2 with ⟨x1, x2, x3⟩ | ⟨x1, x2, x3⟩
  · rcases q2 with ⟨y1, y2, y3⟩ | ⟨y1, _⟩
    · exact ⟨⟨fun _ => y2, fun _ => x2⟩, fun _ => x3.trans y3.symm⟩
    · exact absurd x1 y1
  · rcases q2 with ⟨y1, _⟩ | ⟨y1, y2, y3⟩
    · exact absurd y1 x1
    · exact ⟨⟨fun w => absurd w x3, fun w => absurd w y3⟩, fun w => absurd w x3⟩
def wN (P : Nat → Int32) (t : Nat) : Nat → Int
  | 0 => 0
  | m + 1 => 256 * wN P t m + (P (t + m)).toInt
def wK (k : Nat) : Int := if k = 0 then 1953067621 else if k = 1 then 1919251316 else if k = 2 then 114853572732274 else 1801807216
theorem ch_e {x y : Int32} (n : Int) (h : x.toInt = n) (hy : y.toInt = n) : x = y := Int32.toInt_inj.mp (h.trans hy.symm)
theorem wd_4 {P : Nat → Int32} {t m k : Nat} (hk : k = 0 ∨ k = 1 ∨ k = 3) (hS : allS P t m) (hm : 1 ≤ m) (hm7 : m ≤ 7) : wN P t m = wK k ↔ (m = 4 ∧ ∀ j, j < 4 → P (t + j) = ltr k j) := by
  have b0 : isS (P (t + 0)) := hS 0 (by omega)
  unfold isS at b0
  have w1 : wN P t 1 = 256 * 0 + (P (t + 0)).toInt := rfl
  have w2 : wN P t 2 = 256 * wN P t 1 + (P (t + 1)).toInt := rfl
  have w3 : wN P t 3 = 256 * wN P t 2 + (P (t + 2)).toInt := rfl
  have w4 : wN P t 4 = 256 * wN P t 3 + (P (t + 3)).toInt := rfl
  have w5 : wN P t 5 = 256 * wN P t 4 + (P (t + 4)).toInt := rfl
  have w6 : wN P t 6 = 256 * wN P t 5 + (P (t + 5)).toInt := rfl
  have w7 : wN P t 7 = 256 * wN P t 6 + (P (t + 6)).toInt := rfl
  have B : ∀ j, j < m → 97 ≤ (P (t + j)).toInt ∧ (P (t + j)).toInt ≤ 122 := fun j hj => hS j hj
  have hm' : m = 1 ∨ m = 2 ∨ m = 3 ∨ m = 4 ∨ m = 5 ∨ m = 6 ∨ m = 7 := by omega
  have K : wK k = 1953067621 ∧ k = 0 ∨ wK k = 1919251316 ∧ k = 1 ∨ wK k = 1801807216 ∧ k = 3 := by
    rcases hk with h | h | h
    · subst h; exact Or.inl ⟨rfl, rfl⟩
    · subst h; exact Or.inr (Or.inl ⟨rfl, rfl⟩)
    · subst h; exact Or.inr (Or.inr ⟨rfl, rfl⟩)
  constructor
  · intro h
    rcases hm' with e | e | e | e | e | e | e
    · subst e; have := B 0 (by omega); omega
    · subst e; have := B 0 (by omega); have := B 1 (by omega); omega
    · subst e; have := B 0 (by omega); have := B 1 (by omega); have := B 2 (by omega); omega
    · subst e
      have c0 := B 0 (by omega)
      have c1 := B 1 (by omega)
      have c2 := B 2 (by omega)
      have c3 := B 3 (by omega)
      refine ⟨rfl, ?_⟩
      rcases K with ⟨K, ek⟩ | ⟨K, ek⟩ | ⟨K, ek⟩
      · subst ek
        have d0 : (P (t + 0)).toInt = 116 := by omega
        have d1 : (P (t + 1)).toInt = 105 := by omega
        have d2 : (P (t + 2)).toInt = 114 := by omega
        have d3 : (P (t + 3)).toInt = 101 := by omega
        intro j hj
        have : j = 0 ∨ j = 1 ∨ j = 2 ∨ j = 3 := by omega
        rcases this with e | e | e | e <;> subst e
        · exact ch_e 116 d0 (by decide)
        · exact ch_e 105 d1 (by decide)
        · exact ch_e 114 d2 (by decide)
        · exact ch_e 101 d3 (by decide)
      · subst ek
        have d0 : (P (t + 0)).toInt = 114 := by omega
        have d1 : (P (t + 1)).toInt = 101 := by omega
        have d2 : (P (t + 2)).toInt = 115 := by omega
        have d3 : (P (t + 3)).toInt = 116 := by omega
        intro j hj
        have : j = 0 ∨ j = 1 ∨ j = 2 ∨ j = 3 := by omega
        rcases this with e | e | e | e <;> subst e
        · exact ch_e 114 d0 (by decide)
        · exact ch_e 101 d1 (by decide)
        · exact ch_e 115 d2 (by decide)
        · exact ch_e 116 d3 (by decide)
      · subst ek
        have d0 : (P (t + 0)).toInt = 107 := by omega
        have d1 : (P (t + 1)).toInt = 101 := by omega
        have d2 : (P (t + 2)).toInt = 101 := by omega
        have d3 : (P (t + 3)).toInt = 112 := by omega
        intro j hj
        have : j = 0 ∨ j = 1 ∨ j = 2 ∨ j = 3 := by omega
        rcases this with e | e | e | e <;> subst e
        · exact ch_e 107 d0 (by decide)
        · exact ch_e 101 d1 (by decide)
        · exact ch_e 101 d2 (by decide)
        · exact ch_e 112 d3 (by decide)
    · subst e; have := B 0 (by omega); have := B 1 (by omega); have := B 2 (by omega); have := B 3 (by omega); have := B 4 (by omega); omega
    · subst e; have := B 0 (by omega); have := B 1 (by omega); have := B 2 (by omega); have := B 3 (by omega); have := B 4 (by omega); have := B 5 (by omega); omega
    · subst e; have := B 0 (by omega); have := B 1 (by omega); have := B 2 (by omega); have := B 3 (by omega); have := B 4 (by omega); have := B 5 (by omega); have := B 6 (by omega); omega
  · intro ⟨e, h⟩
    subst e
    rcases K with ⟨K, ek⟩ | ⟨K, ek⟩ | ⟨K, ek⟩
    · subst ek
      have d0 : (P (t + 0)).toInt = 116 := by rw [h 0 (by omega)]; decide
      have d1 : (P (t + 1)).toInt = 105 := by rw [h 1 (by omega)]; decide
      have d2 : (P (t + 2)).toInt = 114 := by rw [h 2 (by omega)]; decide
      have d3 : (P (t + 3)).toInt = 101 := by rw [h 3 (by omega)]; decide
      omega
    · subst ek
      have d0 : (P (t + 0)).toInt = 114 := by rw [h 0 (by omega)]; decide
      have d1 : (P (t + 1)).toInt = 101 := by rw [h 1 (by omega)]; decide
      have d2 : (P (t + 2)).toInt = 115 := by rw [h 2 (by omega)]; decide
      have d3 : (P (t + 3)).toInt = 116 := by rw [h 3 (by omega)]; decide
      omega
    · subst ek
      have d0 : (P (t + 0)).toInt = 107 := by rw [h 0 (by omega)]; decide
      have d1 : (P (t + 1)).toInt = 101 := by rw [h 1 (by omega)]; decide
      have d2 : (P (t + 2)).toInt = 101 := by rw [h 2 (by omega)]; decide
      have d3 : (P (t + 3)).toInt = 112 := by rw [h 3 (by omega)]; decide
      omega
theorem wd_6 {P : Nat → Int32} {t m : Nat} (hS : allS P t m) (hm : 1 ≤ m) (hm7 : m ≤ 7) : wN P t m = wK 2 ↔ (m = 6 ∧ ∀ j, j < 6 → P (t + j) = ltr 2 j) := by
  have w1 : wN P t 1 = 256 * 0 + (P (t + 0)).toInt := rfl
  have w2 : wN P t 2 = 256 * wN P t 1 + (P (t + 1)).toInt := rfl
  have w3 : wN P t 3 = 256 * wN P t 2 + (P (t + 2)).toInt := rfl
  have w4 : wN P t 4 = 256 * wN P t 3 + (P (t + 3)).toInt := rfl
  have w5 : wN P t 5 = 256 * wN P t 4 + (P (t + 4)).toInt := rfl
  have w6 : wN P t 6 = 256 * wN P t 5 + (P (t + 5)).toInt := rfl
  have w7 : wN P t 7 = 256 * wN P t 6 + (P (t + 6)).toInt := rfl
  have B : ∀ j, j < m → 97 ≤ (P (t + j)).toInt ∧ (P (t + j)).toInt ≤ 122 := fun j hj => hS j hj
  have hm' : m = 1 ∨ m = 2 ∨ m = 3 ∨ m = 4 ∨ m = 5 ∨ m = 6 ∨ m = 7 := by omega
  have K : wK 2 = 114853572732274 := rfl
  constructor
  · intro h
    rcases hm' with e | e | e | e | e | e | e
    · subst e; have := B 0 (by omega); omega
    · subst e; have := B 0 (by omega); have := B 1 (by omega); omega
    · subst e; have := B 0 (by omega); have := B 1 (by omega); have := B 2 (by omega); omega
    · subst e; have := B 0 (by omega); have := B 1 (by omega); have := B 2 (by omega); have := B 3 (by omega); omega
    · subst e; have := B 0 (by omega); have := B 1 (by omega); have := B 2 (by omega); have := B 3 (by omega); have := B 4 (by omega); omega
    · subst e
      have c0 := B 0 (by omega)
      have c1 := B 1 (by omega)
      have c2 := B 2 (by omega)
      have c3 := B 3 (by omega)
      have c4 := B 4 (by omega)
      have c5 := B 5 (by omega)
      refine ⟨rfl, ?_⟩
      have d0 : (P (t + 0)).toInt = 104 := by omega
      have d1 : (P (t + 1)).toInt = 117 := by omega
      have d2 : (P (t + 2)).toInt = 110 := by omega
      have d3 : (P (t + 3)).toInt = 103 := by omega
      have d4 : (P (t + 4)).toInt = 101 := by omega
      have d5 : (P (t + 5)).toInt = 114 := by omega
      intro j hj
      have : j = 0 ∨ j = 1 ∨ j = 2 ∨ j = 3 ∨ j = 4 ∨ j = 5 := by omega
      rcases this with e | e | e | e | e | e <;> subst e
      · exact ch_e 104 d0 (by decide)
      · exact ch_e 117 d1 (by decide)
      · exact ch_e 110 d2 (by decide)
      · exact ch_e 103 d3 (by decide)
      · exact ch_e 101 d4 (by decide)
      · exact ch_e 114 d5 (by decide)
    · subst e; have := B 0 (by omega); have := B 1 (by omega); have := B 2 (by omega); have := B 3 (by omega); have := B 4 (by omega); have := B 5 (by omega); have := B 6 (by omega); omega
  · intro ⟨e, h⟩
    subst e
    have d0 : (P (t + 0)).toInt = 104 := by rw [h 0 (by omega)]; decide
    have d1 : (P (t + 1)).toInt = 117 := by rw [h 1 (by omega)]; decide
    have d2 : (P (t + 2)).toInt = 110 := by rw [h 2 (by omega)]; decide
    have d3 : (P (t + 3)).toInt = 103 := by rw [h 3 (by omega)]; decide
    have d4 : (P (t + 4)).toInt = 101 := by rw [h 4 (by omega)]; decide
    have d5 : (P (t + 5)).toInt = 114 := by rw [h 5 (by omega)]; decide
    omega
