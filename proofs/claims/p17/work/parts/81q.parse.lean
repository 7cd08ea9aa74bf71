theorem SK_ex {P : Nat → Int32} {n : Nat} (hB : Byt P n) : ∀ d i, n ≤ i + d → ∃ t, SKp P i t
  | 0, i, h => ⟨i, Nat.le_refl _, fun k h1 h2 => absurd h1 (by omega), by rw [hB.2 i (by omega)]; decide⟩
  | d + 1, i, h => by
    by_cases c : bl (P i) = 0
    · exact ⟨i, Nat.le_refl _, fun k h1 h2 => absurd h1 (by omega), c⟩
    · obtain ⟨t, h1, h2, h3⟩ := SK_ex hB d (i + 1) (by omega)
      refine ⟨t, by omega, fun k k1 k2 => ?_, h3⟩
      by_cases z : k = i
      · rw [z]; exact c
      · exact h2 k (by omega) k2
theorem RN_ex {Q : Int32 → Prop} {P : Nat → Int32} {n : Nat} (hB : Byt P n) (hq : ¬ Q (-1)) : ∀ d t, n ≤ t + d → ∃ m, RNp Q P t m
  | 0, t, h => ⟨0, fun k h1 => absurd h1 (by omega), by rw [Nat.add_zero, hB.2 t (by omega)]; exact hq⟩
  | d + 1, t, h => by
    by_cases c : Q (P t)
    · obtain ⟨m, h1, h2⟩ := RN_ex hB hq d (t + 1) (by omega)
      refine ⟨m + 1, fun k hk => ?_, ?_⟩
      · by_cases z : k = 0
        · rw [z, Nat.add_zero]; exact c
        · have := h1 (k - 1) (by omega)
          rw [show t + 1 + (k - 1) = t + k by omega] at this; exact this
      · rw [show t + (m + 1) = t + 1 + m by omega]; exact h2
    · exact ⟨0, fun k h1 => absurd h1 (by omega), by rw [Nat.add_zero]; exact c⟩
theorem LO_m1 : ¬ LOx (-1) := by unfold LOx isS cap isD; decide
theorem SD_m1 : ¬ SDx (-1) := by unfold SDx isS isD; decide
theorem nu_rng {P : Nat → Int32} {t : Nat} : ∀ m, m ≤ 3 → allD P t m → 0 ≤ nuV P t m ∧ nuV P t m ≤ 999
  | 0, _, _ => by show 0 ≤ (0 : Int) ∧ (0 : Int) ≤ 999; omega
  | 1, _, h => by
    have a := h 0 (by omega)
    unfold isD at a
    show 0 ≤ 10 * 0 + ((P (t + 0)).toInt - 48) ∧ _
    have : nuV P t 1 = 10 * 0 + ((P (t + 0)).toInt - 48) := rfl
    rw [this]; omega
  | 2, _, h => by
    have a := h 0 (by omega)
    have b := h 1 (by omega)
    unfold isD at a b
    have : nuV P t 2 = 10 * (10 * 0 + ((P (t + 0)).toInt - 48)) + ((P (t + 1)).toInt - 48) := rfl
    rw [this]; omega
  | 3, _, h => by
    have a := h 0 (by omega)
    have b := h 1 (by omega)
    have c := h 2 (by omega)
    unfold isD at a b c
    have : nuV P t 3 = 10 * (10 * (10 * 0 + ((P (t + 0)).toInt - 48)) + ((P (t + 1)).toInt - 48)) + ((P (t + 2)).toInt - 48) := rfl
    rw [this]; omega
  | m + 4, h, _ => absurd h (by omega)
theorem TKo_ex {P : Nat → Int32} {t m : Nat} : ∃ (tk va : Int32), TKo tk P t m ∧ (tk = 2 → va.toInt = nuV P t m) := by
  rcases Classical.em (1 ≤ m ∧ allS P t m) with a | a
  · exact ⟨1, 0, Or.inl ⟨rfl, a.1, a.2⟩, fun w => absurd w (by decide)⟩
  · rcases Classical.em (1 ≤ m ∧ m ≤ 3 ∧ allD P t m) with b | b
    · have r := nu_rng m b.2.1 b.2.2
      refine ⟨2, nI (nuV P t m).toNat, Or.inr (Or.inl ⟨rfl, b.1, b.2.1, b.2.2⟩), fun _ => ?_⟩
      rw [nI_toInt (by omega)]; omega
    · exact ⟨4, 0, Or.inr (Or.inr ⟨rfl, a, b⟩), fun w => absurd w (by decide)⟩
theorem TC_ex {P : Nat → Int32} {n : Nat} (hB : Byt P n) (i : Nat) : ∃ (tk : Int32) (t e : Nat) (va : Int32), TC P i tk t e va := by
  obtain ⟨t, ht⟩ := SK_ex hB n i (by omega)
  by_cases c1 : P t = -1
  · exact ⟨0, t, t, 0, ht, Or.inl ⟨c1, rfl, rfl⟩⟩
  · by_cases c2 : P t = 59
    · exact ⟨3, t, t + 1, 0, ht, Or.inr (Or.inl ⟨c2, rfl, rfl⟩)⟩
    · obtain ⟨m, hm⟩ := RN_ex (Q := LOx) hB LO_m1 n t (by omega)
      obtain ⟨tk, va, h1, h2⟩ := TKo_ex (P := P) (t := t) (m := m)
      exact ⟨tk, t, t + m, va, ht, Or.inr (Or.inr ⟨c1, c2, m, hm, rfl, h1, h2⟩)⟩
theorem TM_ex {P : Nat → Int32} {n : Nat} (hB : Byt P n) (i : Nat) : ∃ (tk : Int32) (t e : Nat) (va : Int32), TM P i tk t e va := by
  obtain ⟨t, ht⟩ := SK_ex hB n i (by omega)
  by_cases c1 : P t = -1
  · exact ⟨0, t, t, 0, ht, Or.inl ⟨c1, rfl, rfl⟩⟩
  · by_cases c2 : P t = 59
    · exact ⟨3, t, t + 1, 0, ht, Or.inr (Or.inl ⟨c2, rfl, rfl⟩)⟩
    · rcases Classical.em (SDx (P t)) with c3 | c3
      · obtain ⟨m, hm⟩ := RN_ex (Q := SDx) hB SD_m1 n t (by omega)
        obtain ⟨tk, va, h1, h2⟩ := TKo_ex (P := P) (t := t) (m := m)
        refine ⟨tk, t, t + m, va, ht, Or.inr (Or.inr (Or.inr ⟨c3, m, hm, ?_, rfl, h1, h2⟩))⟩
        rcases Nat.eq_zero_or_pos m with z | z
        · rw [z, RNp, Nat.add_zero] at hm; exact absurd c3 hm.2
        · exact z
      · exact ⟨4, t, t + 1, 0, ht, Or.inr (Or.inr (Or.inl ⟨c1, c2, c3, rfl, rfl⟩))⟩
theorem TC_u {P : Nat → Int32} {n i t e s f : Nat} {tk va mk nu : Int32} (hB : Byt P n) (C : TC P i tk t e va) (D : TC P i mk s f nu) : mk = tk ∧ s = t ∧ f = e ∧ (tk = 2 → nu = va) := by
  have et := SK_u C.1 D.1
  subst et
  rcases C.2 with ⟨c1, c2, c3⟩ | ⟨c1, c2, c3⟩ | ⟨c1, c2, m, c3, c4, c5, c6⟩
  · rcases D.2 with ⟨_, d2, d3⟩ | ⟨d1, _, _⟩ | ⟨d1, _⟩
    · exact ⟨d2.trans c2.symm, rfl, d3.trans c3.symm, fun w => absurd (c2.symm.trans w) (by decide)⟩
    · rw [c1] at d1; exact absurd d1 (by decide)
    · exact absurd c1 d1
  · rcases D.2 with ⟨d1, _, _⟩ | ⟨_, d2, d3⟩ | ⟨_, d1, _⟩
    · rw [c1] at d1; exact absurd d1 (by decide)
    · exact ⟨d2.trans c2.symm, rfl, d3.trans c3.symm, fun w => absurd (c2.symm.trans w) (by decide)⟩
    · exact absurd c1 d1
  · rcases D.2 with ⟨d1, _, _⟩ | ⟨d1, _, _⟩ | ⟨_, _, k, d3, d4, d5, d6⟩
    · exact absurd d1 c1
    · exact absurd d1 c2
    · have := RN_u c3 d3
      subst this
      refine ⟨TKo_u d5 c5, rfl, by omega, fun w => ?_⟩
      exact Int32.toInt_inj.mp ((d6 ((TKo_u d5 c5).trans w)).trans (c6 w).symm)
theorem TM_u {P : Nat → Int32} {n i t e s f : Nat} {tk va mk nu : Int32} (hB : Byt P n) (C : TM P i tk t e va) (D : TM P i mk s f nu) : mk = tk ∧ s = t ∧ f = e ∧ (tk = 2 → nu = va) := by
  have et := SK_u C.1 D.1
  subst et
  rcases C.2 with ⟨c1, c2, c3⟩ | ⟨c1, c2, c3⟩ | ⟨c0, c1, c2, c3, c4⟩ | ⟨c1, m, c3, c4, c5, c6, c7⟩
  · rcases D.2 with ⟨_, d2, d3⟩ | ⟨d1, _, _⟩ | ⟨d1, _⟩ | ⟨d1, _⟩
    · exact ⟨d2.trans c2.symm, rfl, d3.trans c3.symm, fun w => absurd (c2.symm.trans w) (by decide)⟩
    · rw [c1] at d1; exact absurd d1 (by decide)
    · exact absurd c1 d1
    · rw [c1] at d1; exact absurd d1 SD_m1
  · rcases D.2 with ⟨d1, _, _⟩ | ⟨_, d2, d3⟩ | ⟨_, d1, _⟩ | ⟨d1, _⟩
    · rw [c1] at d1; exact absurd d1 (by decide)
    · exact ⟨d2.trans c2.symm, rfl, d3.trans c3.symm, fun w => absurd (c2.symm.trans w) (by decide)⟩
    · exact absurd c1 d1
    · rw [c1] at d1; exact d1.elim (fun w => absurd w sS_59) (fun w => absurd w sD_59)
  · rcases D.2 with ⟨d1, _, _⟩ | ⟨d1, _, _⟩ | ⟨_, _, _, d3, d4⟩ | ⟨d1, _⟩
    · exact absurd d1 c0
    · exact absurd d1 c1
    · exact ⟨d3.trans c3.symm, rfl, d4.trans c4.symm, fun w => absurd (c3.symm.trans w) (by decide)⟩
    · exact absurd d1 c2
  · rcases D.2 with ⟨d1, _, _⟩ | ⟨d1, _, _⟩ | ⟨_, _, d1, _⟩ | ⟨_, k, d3, d4, d5, d6, d7⟩
    · rw [d1] at c1; exact absurd c1 SD_m1
    · rw [d1] at c1; exact c1.elim (fun w => absurd w sS_59) (fun w => absurd w sD_59)
    · exact absurd c1 d1
    · have := RN_u c3 d3
      subst this
      refine ⟨TKo_u d6 c6, rfl, by omega, fun w => ?_⟩
      exact Int32.toInt_inj.mp ((d7 ((TKo_u d6 c6).trans w)).trans (c7 w).symm)
def LW (k : Nat) : Nat := if k = 2 then 6 else 4
def ltr (k j : Nat) : Int32 := match k, j with
  | 0, 0 => 116 | 0, 1 => 105 | 0, 2 => 114 | 0, 3 => 101
  | 1, 0 => 114 | 1, 1 => 101 | 1, 2 => 115 | 1, 3 => 116
  | 2, 0 => 104 | 2, 1 => 117 | 2, 2 => 110 | 2, 3 => 103 | 2, 4 => 101 | 2, 5 => 114
  | 3, 0 => 107 | 3, 1 => 101 | 3, 2 => 101 | 3, 3 => 112
  | _, _ => 0
def WDc (P : Nat → Int32) (t e : Nat) (tk : Int32) (k : Nat) : Prop := k < 4 ∧ tk = 1 ∧ e = t + LW k ∧ ∀ j, j < LW k → P (t + j) = ltr k j
def rngK (k : Nat) (v : Int32) : Prop := (if k = 0 then 1 else 0) ≤ v.toInt ∧ v.toInt ≤ (if k = 0 then 9 else if k < 3 then 50 else 20)
def SCo (T : Nat → Int32 → Nat → Nat → Int32 → Prop) (P : Nat → Int32) (g : Nat → Int32) (i0 kk : Nat) (v : Int32) (i4 : Nat) : Prop := ∃ (tk0 : Int32) (t0 e0 : Nat) (va0 : Int32) (w i2 : Nat), T i0 tk0 t0 e0 va0 ∧ WDc P t0 e0 tk0 w ∧ ((w < 3 ∧ kk = w ∧ i2 = e0) ∨ (w = 3 ∧ ∃ (t1 e1 : Nat) (va1 : Int32), T e0 2 t1 e1 va1 ∧ 1 ≤ va1.toInt ∧ va1.toInt ≤ 3 ∧ (kk : Int) = 2 + va1.toInt ∧ i2 = e1)) ∧ g kk = 0 ∧ ∃ (t2 e2 : Nat), T i2 2 t2 e2 v ∧ rngK kk v ∧ ∃ (t3 : Nat) (va3 : Int32), T e2 3 t3 i4 va3
theorem SC_cm {P g : Nat → Int32} {n i0 kk i4 : Nat} {v : Int32} (hB : Byt P n) (h : SCo (TC P) P g i0 kk v i4) : SCo (TM P) P g i0 kk v i4 := by
  obtain ⟨tk0, t0, e0, va0, w, i2, h0, hw, h1, hg, t2, e2, h2, hr, t3, va3, h3⟩ := h
  have cv : ∀ {i tk t e va}, TC P i tk t e va → ¬ tk = 4 → ∃ nu, TM P i tk t e nu ∧ (tk = 2 → nu = va) := fun {i tk t e va} C hn => by
    obtain ⟨mk, s, f, nu, M⟩ := TM_ex hB i
    obtain ⟨a, b, c, d⟩ := CM_c C M hn
    rw [a, b, c] at M
    exact ⟨nu, M, d⟩
  obtain ⟨nu0, M0, _⟩ := cv h0 (by rw [hw.2.1]; decide)
  obtain ⟨nu2, M2, e2v⟩ := cv h2 (by decide)
  obtain ⟨nu3, M3, _⟩ := cv h3 (by decide)
  rw [e2v rfl] at M2
  refine ⟨tk0, t0, e0, nu0, w, i2, M0, hw, ?_, hg, t2, e2, M2, hr, t3, nu3, M3⟩
  rcases h1 with h1 | ⟨a, t1, e1, va1, b, c⟩
  · exact Or.inl h1
  · obtain ⟨nu1, M1, ev⟩ := cv b (by decide)
    rw [ev rfl] at M1
    exact Or.inr ⟨a, t1, e1, va1, M1, c⟩
theorem SC_mc {P g : Nat → Int32} {n i0 kk i4 : Nat} {v : Int32} (hB : Byt P n) (h : SCo (TM P) P g i0 kk v i4) : SCo (TC P) P g i0 kk v i4 := by
  obtain ⟨tk0, t0, e0, va0, w, i2, h0, hw, h1, hg, t2, e2, h2, hr, t3, va3, h3⟩ := h
  have cv : ∀ {i tk t e va s2 f2 mk2 nu2}, TM P i tk t e va → (tk = 1 ∨ tk = 2) → TM P e mk2 s2 f2 nu2 → ¬ mk2 = 4 → ∃ nu, TC P i tk t e nu ∧ (tk = 2 → nu = va) := fun {i tk t e va s2 f2 mk2 nu2} M hn N hm => by
    obtain ⟨ck, s, f, nu, C⟩ := TC_ex hB i
    have n4 := CM_m C M N hn hm
    obtain ⟨a, b, c, d⟩ := CM_c C M n4
    rw [← a, ← b, ← c] at C
    exact ⟨nu, C, fun z => (d (a.symm.trans z)).symm⟩
  obtain ⟨nu2, C2, e2v⟩ := cv h2 (Or.inr rfl) h3 (by decide)
  rw [e2v rfl] at C2
  have C3 : ∃ nu3, TC P e2 3 t3 i4 nu3 := by
    obtain ⟨ck, s, f, nu, C⟩ := TC_ex hB e2
    have et := SK_u C.1 h3.1
    subst et
    rcases h3.2 with ⟨_, m2, _⟩ | ⟨m1, _, m3⟩ | ⟨_, _, _, m2, _⟩ | ⟨_, m, _, _, _, m2, _⟩
    · exact absurd m2 (by decide)
    · exact ⟨0, C.1, Or.inr (Or.inl ⟨m1, rfl, m3⟩)⟩
    · exact absurd m2 (by decide)
    · rcases m2 with ⟨m2, _⟩ | ⟨m2, _⟩ | ⟨m2, _⟩
      · exact absurd m2 (by decide)
      · exact absurd m2 (by decide)
      · exact absurd m2 (by decide)
  obtain ⟨nu3, C3⟩ := C3
  rcases h1 with ⟨a, b, c⟩ | ⟨a, t1, e1, va1, M1, c1, c2, c3, c4⟩
  · subst c
    obtain ⟨nu0, C0, _⟩ := cv h0 (Or.inl hw.2.1) h2 (by decide)
    exact ⟨tk0, t0, _, nu0, w, _, C0, hw, Or.inl ⟨a, b, rfl⟩, hg, t2, e2, C2, hr, t3, nu3, C3⟩
  · subst c4
    obtain ⟨nu0, C0, _⟩ := cv h0 (Or.inl hw.2.1) M1 (by decide)
    obtain ⟨nu1, C1, ev⟩ := cv M1 (Or.inr rfl) h2 (by decide)
    rw [ev rfl] at C1
    exact ⟨tk0, t0, e0, nu0, w, _, C0, hw, Or.inr ⟨a, t1, _, va1, C1, c1, c2, c3, rfl⟩, hg, t2, e2, C2, hr, t3, nu3, C3⟩
