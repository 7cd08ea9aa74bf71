def PBy (a : Nat → Int32) (n : Nat) : Nat → Int32 := fun i => if i < n then a i else -1
theorem PB_i {a : Nat → Int32} {n i : Nat} (h : i < n) : PBy a n i = a i := if_pos h
theorem PB_o {a : Nat → Int32} {n i : Nat} (h : n ≤ i) : PBy a n i = -1 := if_neg (by omega)
theorem PB_e {a f : Nat → Int32} {n : Nat} (h : ∀ i, i < n → a i = f i &&& 255) : PBy a n = sp_pk f n := funext fun i => by
  unfold PBy sp_pk
  by_cases c : i < n
  · rw [if_pos c, if_neg (by omega)]; exact h i c
  · rw [if_neg c, if_pos (by omega)]
def yn (Q : Prop) (r : Int32) : Prop := r = 0 ↔ ¬ Q
theorem yn_0 {Q : Prop} (h : ¬ Q) : yn Q 0 := ⟨fun _ => h, fun _ => rfl⟩
theorem yn_1 {Q : Prop} (h : Q) : yn Q 1 := ⟨fun w => absurd w (by decide), fun w => absurd h w⟩
theorem yn_n {Q : Prop} {r : Int32} (h : yn Q r) (c : r = 0) : ¬ Q := h.mp c
theorem yn_y {Q : Prop} {r : Int32} (h : yn Q r) (c : ¬ r = 0) : Q := Classical.byContradiction fun w => c (h.mpr w)
theorem c48 : (48 : Int32).toInt = 48 := by decide
theorem c57 : (57 : Int32).toInt = 57 := by decide
theorem c65 : (65 : Int32).toInt = 65 := by decide
theorem c90 : (90 : Int32).toInt = 90 := by decide
theorem c97 : (97 : Int32).toInt = 97 := by decide
theorem c122 : (122 : Int32).toInt = 122 := by decide
def RWi (P : Nat → Int32) (t k : Nat) (x1 x2 va : Int32) : Prop := (∀ j, j < k → LOx (P (t + j))) ∧ ∃ a b : Nat, x1 = nI a ∧ x2 = nI b ∧ a ≤ k ∧ b ≤ k ∧ (a = k ↔ allS P t k) ∧ (b = k ↔ allD P t k) ∧ (k ≤ 3 → allD P t k → va.toInt = nuV P t k)
theorem RW_0 {P : Nat → Int32} {t : Nat} : RWi P t 0 0 0 0 := ⟨fun _ h => absurd h (by omega), 0, 0, rfl, rfl, Nat.le_refl _, Nat.le_refl _, ⟨fun _ _ h => absurd h (by omega), fun _ => rfl⟩, ⟨fun _ _ h => absurd h (by omega), fun _ => rfl⟩, fun _ _ => by show (0 : Int32).toInt = 0; decide⟩
theorem S_D {x : Int32} (a : isS x) (b : isD x) : False := by unfold isS at a; unfold isD at b; omega
theorem RW_o {P : Nat → Int32} {t k : Nat} {x1 x2 va : Int32} (h : RWi P t k x1 x2 va) (hL : LOx (P (t + k))) (hS : ¬ isS (P (t + k))) (hD : ¬ isD (P (t + k))) : RWi P t (k + 1) x1 x2 va := by
  obtain ⟨h1, a, b, e1, e2, h2, h3, h4, h5, h6⟩ := h
  refine ⟨fun j hj => ?_, a, b, e1, e2, by omega, by omega, ⟨fun w => by omega, fun w => absurd (w k (by omega)) hS⟩, ⟨fun w => by omega, fun w => absurd (w k (by omega)) hD⟩, fun _ w => absurd (w k (by omega)) hD⟩
  by_cases z : j = k
  · rw [z]; exact hL
  · exact h1 j (by omega)
theorem RW_S {P : Nat → Int32} {t k : Nat} {x1 x2 va : Int32} (h : RWi P t k x1 x2 va) (hS : isS (P (t + k))) : RWi P t (k + 1) (x1 + 1) x2 va := by
  obtain ⟨h1, a, b, e1, e2, h2, h3, h4, h5, h6⟩ := h
  refine ⟨fun j hj => ?_, a + 1, b, by rw [e1]; exact nI_1 a, e2, by omega, by omega, ⟨fun w j hj => ?_, fun w => ?_⟩, ⟨fun w => by omega, fun w => (S_D hS (w k (by omega))).elim⟩, fun _ w => (S_D hS (w k (by omega))).elim⟩
  · by_cases z : j = k
    · rw [z]; exact Or.inl hS
    · exact h1 j (by omega)
  · by_cases z : j = k
    · rw [z]; exact hS
    · exact h4.mp (by omega) j (by omega)
  · have := h4.mpr (fun j hj => w j (by omega))
    omega
theorem RW_D {P : Nat → Int32} {t k : Nat} {x1 x2 va va' : Int32} (h : RWi P t k x1 x2 va) (hk : k < 200) (hD : isD (P (t + k))) (hv : (x2 + 1 ≤ 3 ∧ va' = ((va * 10) + P (t + k)) - 48) ∨ ¬ x2 + 1 ≤ 3) : RWi P t (k + 1) x1 (x2 + 1) va' := by
  obtain ⟨h1, a, b, e1, e2, h2, h3, h4, h5, h6⟩ := h
  have e3 : x2 + 1 = nI (b + 1) := by rw [e2]; exact nI_1 b
  refine ⟨fun j hj => ?_, a, b + 1, e1, e3, by omega, by omega, ⟨fun w => by omega, fun w => (S_D (w k (by omega)) hD).elim⟩, ⟨fun w j hj => ?_, fun w => ?_⟩, fun k3 w => ?_⟩
  · by_cases z : j = k
    · rw [z]; exact Or.inr (Or.inr hD)
    · exact h1 j (by omega)
  · by_cases z : j = k
    · rw [z]; exact hD
    · exact h5.mp (by omega) j (by omega)
  · have := h5.mpr (fun j hj => w j (by omega))
    omega
  · have w' : allD P t k := fun j hj => w j (by omega)
    have eb := h5.mpr w'
    subst eb
    have c := h6 (by omega) w'
    have r := nu_rng b (by omega) w'
    have e : nuV P t (b + 1) = 10 * nuV P t b + ((P (t + b)).toInt - 48) := rfl
    have d := hD
    unfold isD at d
    rcases hv with ⟨_, q⟩ | q
    · have ex : va = nI va.toInt.toNat := eq_I.mpr (by rw [nI_toInt (by omega)]; omega)
      have ey : P (t + b) = nI (P (t + b)).toInt.toNat := eq_I.mpr (by rw [nI_toInt (by omega)]; omega)
      rw [q, Int32.mul_comm va 10, nm_a ex ey (by omega), nI_toInt (by omega)]
      omega
    · exfalso
      refine q ?_
      rw [e3, show (3 : Int32) = nI 3 from rfl]; exact nI_le (by omega) (by decide)
def RWf (P : Nat → Int32) (t e : Nat) (tk va : Int32) : Prop := ∃ m, e = t + m ∧ RNp LOx P t m ∧ TKo tk P t m ∧ (tk = 2 → va.toInt = nuV P t m)
theorem RW_e {P : Nat → Int32} {t k : Nat} {x1 x2 va tk : Int32} (h : RWi P t k x1 x2 va) (hk : k ≤ 200) (hn : ¬ LOx (P (t + k))) (ht : (tk = 1 ∧ ¬ nI k ≤ 0 ∧ x1 = nI k) ∨ (tk = 2 ∧ ¬ nI k ≤ 0 ∧ nI k ≤ 3 ∧ x2 = nI k) ∨ (tk = 4 ∧ (nI k ≤ 0 ∨ ¬ x1 = nI k) ∧ (nI k ≤ 0 ∨ ¬ nI k ≤ 3 ∨ ¬ x2 = nI k))) : RWf P t (t + k) tk va := by
  obtain ⟨h1, a, b, e1, e2, h2, h3, h4, h5, h6⟩ := h
  have z1 : ¬ nI k ≤ 0 ↔ 1 ≤ k := by
    constructor
    · intro w; rcases Nat.eq_zero_or_pos k with z | z
      · subst z; exact absurd (Int32.le_refl _) w
      · exact z
    · intro w; exact nI_nle (by omega) (by omega)
  have z3 : nI k ≤ 3 ↔ k ≤ 3 := by rw [show (3 : Int32) = nI 3 from rfl]; exact nI_leI (by omega) (by decide)
  have za : x1 = nI k ↔ a = k := by rw [e1]; exact nI_eq (by omega) (by omega)
  have zb : x2 = nI k ↔ b = k := by rw [e2]; exact nI_eq (by omega) (by omega)
  refine ⟨k, rfl, ⟨h1, hn⟩, ?_, fun w => ?_⟩
  · rcases ht with ⟨c1, c2, c3⟩ | ⟨c1, c2, c3, c4⟩ | ⟨c1, c2, c3⟩
    · exact Or.inl ⟨c1, z1.mp c2, h4.mp (za.mp c3)⟩
    · exact Or.inr (Or.inl ⟨c1, z1.mp c2, z3.mp c3, h5.mp (zb.mp c4)⟩)
    · refine Or.inr (Or.inr ⟨c1, fun w => ?_, fun w => ?_⟩)
      · rcases c2 with c | c
        · exact z1.mpr w.1 c
        · exact c (za.mpr (h4.mpr w.2))
      · rcases c3 with c | c | c
        · exact z1.mpr w.1 c
        · exact c (z3.mpr w.2.1)
        · exact c (zb.mpr (h5.mpr w.2.2))
  · rcases ht with ⟨c1, _⟩ | ⟨_, _, c3, c4⟩ | ⟨c1, _⟩
    · rw [w] at c1; exact absurd c1 (by decide)
    · exact h6 (z3.mp c3) (h5.mp (zb.mp c4))
    · rw [w] at c1; exact absurd c1 (by decide)
theorem TC_w {P : Nat → Int32} {i t e : Nat} {tk va : Int32} (SK : SKp P i t) (h1 : ¬ P t = -1) (h2 : ¬ P t = 59) (h : RWf P t e tk va) : TC P i tk t e va := by
  obtain ⟨m, e1, e2, e3, e4⟩ := h
  exact ⟨SK, Or.inr (Or.inr ⟨h1, h2, m, e2, e1, e3, e4⟩)⟩
theorem PB_m {a : Nat → Int32} {n t : Nat} (hB : Byt (PBy a n) n) (h : t < n) : ¬ PBy a n t = -1 := fun w => by
  have := hB.1 t h
  rw [w] at this
  exact absurd this.1 (by decide)
def NWn (tk va p0 p1 rv fk fk2 : Int32) : Prop := (rv = 1 ∧ tk = 2 ∧ p0 ≤ va ∧ va ≤ p1 ∧ fk2 = fk) ∨ (rv = 0 ∧ ¬ (tk = 2 ∧ p0 ≤ va ∧ va ≤ p1) ∧ ¬ fk2 = 0)
def lsK (kk : Nat) : Int32 := if kk = 0 then 1 else 0
def msK (kk : Nat) : Int32 := if kk = 0 then 9 else if kk < 3 then 50 else 20
theorem rK_e {kk : Nat} {v : Int32} : rngK kk v ↔ lsK kk ≤ v ∧ v ≤ msK kk := by
  unfold rngK lsK msK
  rw [le_i, le_i]
  by_cases c : kk = 0
  · rw [if_pos c, if_pos c, if_pos c, if_pos c]; exact Iff.rfl
  · rw [if_neg c, if_neg c, if_neg c, if_neg c]
    by_cases d : kk < 3
    · rw [if_pos d, if_pos d]; exact Iff.rfl
    · rw [if_neg d, if_neg d]; exact Iff.rfl
