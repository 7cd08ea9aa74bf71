theorem nI_inJ {m n : Nat} (h : nI m = nI n) (hm : m < 2 ^ 31) (hn : n < 2 ^ 31) : m = n := by
  have e := congrArg Int32.toInt h
  rw [nI_toInt hm, nI_toInt hn] at e
  omega
def FEn (p0 : Int32) (l : Nat) (rv : Int32) (l2 : Nat) : Prop := (rv = 0 ∧ l2 = l ∧ (p0 < 0 ∨ nI l < p0)) ∨ (rv = 1 ∧ p0 = nI l2 ∧ l2 ≤ l)
theorem FEn.u {p0 a b : Int32} {l l' x y : Nat} (hl : l ≤ 200) (e : l = l') (h : FEn p0 l a x) (g : FEn p0 l' b y) : a = b ∧ x = y := by
  subst e
  rcases h with ⟨h0, h1, h⟩ | ⟨h0, h, h2⟩
  · rcases g with ⟨g0, g1, g⟩ | ⟨g0, g, g2⟩
    · exact ⟨h0.trans g0.symm, h1.trans g1.symm⟩
    · exfalso
      rw [g] at h
      rcases h with h | h
      · exact absurd h (nI_pos (by omega))
      · exact absurd (nI_le g2 (by omega)) (Int32.not_le.mpr h)
  · rcases g with ⟨g0, g1, g⟩ | ⟨g0, g, g2⟩
    · exfalso
      rw [h] at g
      rcases g with g | g
      · exact absurd g (nI_pos (by omega))
      · exact absurd (nI_le h2 (by omega)) (Int32.not_le.mpr g)
    · exact ⟨h0.trans g0.symm, nI_inJ (h.symm.trans g) (by omega) (by omega)⟩
def FFd (l : Nat) (rv : Int32) (n2 : Nat) : Prop := n2 ≤ 200 ∧ ((n2 = l ∧ rv = -1 ∧ 200 < l + 20) ∨ (n2 = l + 20 ∧ rv = nI (l + 20)))
theorem FFd.u {a b : Int32} {l l' x y : Nat} (e : l = l') (h : x ≤ 200 ∧ ((x = l ∧ a = -1 ∧ 200 < l + 20) ∨ (x = l + 20 ∧ a = nI (l + 20)))) (g : y ≤ 200 ∧ ((y = l' ∧ b = -1 ∧ 200 < l' + 20) ∨ (y = l' + 20 ∧ b = nI (l' + 20)))) : a = b ∧ x = y := by
  subst e
  obtain ⟨h', h⟩ := h
  obtain ⟨g', g⟩ := g
  rcases h with ⟨h0, h1, h⟩ | ⟨h0, h1⟩
  · rcases g with ⟨g0, g1, g⟩ | ⟨g0, g1⟩
    · exact ⟨h1.trans g1.symm, h0.trans g0.symm⟩
    · exfalso; omega
  · rcases g with ⟨g0, g1, g⟩ | ⟨g0, g1⟩
    · exfalso; omega
    · exact ⟨h1.trans g1.symm, h0.trans g0.symm⟩
def FHo (p0 p1 : Int32) (n : Nat) (rv : Int32) (n2 : Nat) : Prop := (rv = -1 ∧ n2 = n ∧ (60 ≤ n ∨ sp_st p0 = 0 ∨ p1 < 0 ∨ 100 < p1)) ∨ (rv = nI n ∧ n2 = n + 1 ∧ n < 60 ∧ ¬ sp_st p0 = 0 ∧ ¬ p1 < 0 ∧ ¬ 100 < p1)
theorem FHo.u {p0 p1 a b : Int32} {n n' x y : Nat} (e : n = n') (h : FHo p0 p1 n a x) (g : FHo p0 p1 n' b y) : a = b ∧ x = y := by
  subst e
  rcases h with ⟨h0, h1, h⟩ | ⟨h0, h1, h2, h3, h4, h5⟩
  · rcases g with ⟨g0, g1, g⟩ | ⟨g0, g1, g2, g3, g4, g5⟩
    · exact ⟨h0.trans g0.symm, h1.trans g1.symm⟩
    · exfalso
      rcases h with h | h | h | h
      · omega
      · exact g3 h
      · exact g4 h
      · exact g5 h
  · rcases g with ⟨g0, g1, g⟩ | ⟨g0, g1, g2, g3, g4, g5⟩
    · exfalso
      rcases g with g | g | g | g
      · omega
      · exact h3 g
      · exact h4 g
      · exact h5 g
    · exact ⟨h0.trans g0.symm, h1.trans g1.symm⟩
def FTb (p0 : Int32) (n : Nat) (rv : Int32) (n2 : Nat) : Prop := (rv = -1 ∧ n2 = n ∧ (20 ≤ n ∨ p0 < 1 ∨ 3 < p0)) ∨ (rv = nI n ∧ n2 = n + 1 ∧ n < 20 ∧ ¬ p0 < 1 ∧ ¬ 3 < p0)
theorem FTb.u {p0 a b : Int32} {n n' x y : Nat} (e : n = n') (h : FTb p0 n a x) (g : FTb p0 n' b y) : a = b ∧ x = y := by
  subst e
  rcases h with ⟨h0, h1, h⟩ | ⟨h0, h1, h2, h4, h5⟩
  · rcases g with ⟨g0, g1, g⟩ | ⟨g0, g1, g2, g4, g5⟩
    · exact ⟨h0.trans g0.symm, h1.trans g1.symm⟩
    · exfalso
      rcases h with h | h | h
      · omega
      · exact g4 h
      · exact g5 h
  · rcases g with ⟨g0, g1, g⟩ | ⟨g0, g1, g2, g4, g5⟩
    · exfalso
      rcases g with g | g | g
      · omega
      · exact h4 g
      · exact h5 g
    · exact ⟨h0.trans g0.symm, h1.trans g1.symm⟩
def FNx (n : Nat) (rv : Int32) (n2 : Nat) : Prop := (rv = -1 ∧ n2 = n ∧ 9999 ≤ n) ∨ (rv = nI (n + 1) ∧ n2 = n + 1 ∧ n < 9999)
theorem FNx.u {a b : Int32} {n n' x y : Nat} (e : n = n') (h : FNx n a x) (g : FNx n' b y) : a = b ∧ x = y := by
  subst e
  rcases h with ⟨h0, h1, h⟩ | ⟨h0, h1, h⟩
  · rcases g with ⟨g0, g1, g⟩ | ⟨g0, g1, g⟩
    · exact ⟨h0.trans g0.symm, h1.trans g1.symm⟩
    · exfalso; omega
  · rcases g with ⟨g0, g1, g⟩ | ⟨g0, g1, g⟩
    · exfalso; omega
    · exact ⟨h0.trans g0.symm, h1.trans g1.symm⟩
theorem nI_geN {m n : Nat} (c : nI m ≤ nI n) (hm : m < 2 ^ 31) (hn : n < 2 ^ 31) : m ≤ n := by
  rw [Int32.le_iff_toInt_le, nI_toInt hm, nI_toInt hn] at c
  omega
theorem nI_eqN {m n : Nat} (c : nI m = nI n) (hm : m < 2 ^ 31) (hn : n < 2 ^ 31) : n ≤ m := by
  have := nI_inJ c hm hn
  omega
theorem nI_neN {m n : Nat} (c : ¬ nI m = nI n) (h : m ≤ n) : m < n := by
  rcases Nat.lt_or_ge m n with q | q
  · exact q
  · exact absurd (by rw [show m = n by omega]) c
theorem nI_s11 (n : Nat) : nI (n + 1) - 1 = nI n := by
  rw [← nI_1 n]
  exact Int32.add_sub_cancel (nI n) 1
theorem nI_nleN {m n : Nat} (c : ¬ nI n ≤ nI m) (hm : m < 2 ^ 31) (hn : n < 2 ^ 31) : m < n := by
  rcases Nat.lt_or_ge m n with q | q
  · exact q
  · exact absurd (nI_le q hm) c
theorem nI_ltN {m n : Nat} (c : nI m < nI n) (hm : m < 2 ^ 31) (hn : n < 2 ^ 31) : m < n := by
  rw [Int32.lt_iff_toInt_lt, nI_toInt hm, nI_toInt hn] at c
  omega
