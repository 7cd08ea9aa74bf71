def PT (S : Nat → Nat → Nat → Int32) (g : Nat → Int32) (u v n : Nat) (p : Nat → Nat) : Prop := p 0 = u ∧ (∀ j, j < n → ¬ p j = v ∧ NXs S g (p j) (p (j + 1))) ∧ ∀ j, j ≤ n → p j < 12
theorem PT_0 {S : Nat → Nat → Nat → Int32} {g : Nat → Int32} {u v : Nat} (hu : u < 12) : PT S g u v 0 (fun _ => u) := ⟨rfl, fun j h => absurd h (by omega), fun _ _ => hu⟩
def pnx (p : Nat → Nat) (n y : Nat) : Nat → Nat := fun j => if j ≤ n then p j else y
theorem pnx_s {p : Nat → Nat} {n y : Nat} : pnx p n y (n + 1) = y := if_neg (by omega)
theorem pnx_o {p : Nat → Nat} {n y j : Nat} (h : j ≤ n) : pnx p n y j = p j := if_pos h
theorem PT_s {S : Nat → Nat → Nat → Int32} {g : Nat → Int32} {u v n y : Nat} {p : Nat → Nat} (h : PT S g u v n p) (hne : ¬ p n = v) (hy : y < 12) (hN : NXs S g (p n) y) : PT S g u v (n + 1) (pnx p n y) := by
  refine ⟨?_, fun j hj => ?_, fun j hj => ?_⟩
  · rw [pnx_o (Nat.zero_le _)]; exact h.1
  · rw [pnx_o (by omega : j ≤ n)]
    by_cases q : j = n
    · subst q; rw [pnx_s]; exact ⟨hne, hN⟩
    · rw [pnx_o (by omega : j + 1 ≤ n)]; exact h.2.1 j (by omega)
  · by_cases q : j ≤ n
    · rw [pnx_o q]; exact h.2.2 j q
    · rw [show j = n + 1 by omega, pnx_s]; exact hy
def cpN (g : Nat → Int32) (y : Int32) : Nat → Nat
  | 0 => 0
  | n + 1 => cpN g y n + (if g n < y then 1 else 0)
theorem cpN_le {g : Nat → Int32} {y : Int32} : ∀ n, cpN g y n ≤ n
  | 0 => Nat.le_refl _
  | n + 1 => by
    show cpN g y n + (if g n < y then 1 else 0) ≤ n + 1
    have := cpN_le (g := g) (y := y) n
    split <;> omega
theorem cpN_s {g : Nat → Int32} {y : Int32} {s : Nat} (h : ¬ g s < y) : ∀ n, s < n → cpN g y n + 1 ≤ n
  | 0, q => by omega
  | n + 1, q => by
    show cpN g y n + (if g n < y then 1 else 0) + 1 ≤ n + 1
    by_cases e : s = n
    · subst e; rw [if_neg h]; have := cpN_le (g := g) (y := y) s; omega
    · have := cpN_s h n (by omega)
      split <;> omega
theorem cpN_m {g : Nat → Int32} {y z : Int32} (h : y.toInt ≤ z.toInt) : ∀ n, cpN g y n ≤ cpN g z n
  | 0 => Nat.le_refl _
  | n + 1 => by
    show cpN g y n + (if g n < y then 1 else 0) ≤ cpN g z n + (if g n < z then 1 else 0)
    have := cpN_m (g := g) h n
    by_cases q : g n < y
    · have q2 : g n < z := by rw [lt_i] at q ⊢; omega
      rw [if_pos q, if_pos q2]; omega
    · rw [if_neg q]; split <;> omega
theorem cpN_l {g : Nat → Int32} {y z : Int32} {t : Nat} (h : y.toInt ≤ z.toInt) (h1 : ¬ g t < y) (h2 : g t < z) : ∀ n, t < n → cpN g y n + 1 ≤ cpN g z n
  | 0, q => by omega
  | n + 1, q => by
    show cpN g y n + (if g n < y then 1 else 0) + 1 ≤ cpN g z n + (if g n < z then 1 else 0)
    by_cases e : t = n
    · subst e; rw [if_neg h1, if_pos h2]; have := cpN_m (g := g) h t; omega
    · have := cpN_l h h1 h2 n (by omega)
      by_cases q : g n < y
      · have q2 : g n < z := by rw [lt_i] at q ⊢; omega
        rw [if_pos q, if_pos q2]; omega
      · rw [if_neg q]; split <;> omega
theorem cp_ir {x : Int32} : ¬ x < x := by rw [lt_i]; omega
theorem cp_lt {g : Nat → Int32} {s t : Nat} (ht : t < 12) (h : (g t).toInt < (g s).toInt) : cpN g (g t) 12 + 1 ≤ cpN g (g s) 12 := cpN_l (by omega) cp_ir (by rw [lt_i]; exact h) 12 ht
theorem cp_11 {g : Nat → Int32} {s : Nat} (hs : s < 12) : cpN g (g s) 12 + 1 ≤ 12 := cpN_s cp_ir 12 hs
theorem NC_d {S : Nat → Nat → Nat → Int32} {g : Nat → Int32} {v x y : Nat} (hrg : RgS S) (hL : L1 (hF S) (sF S) v g) (hx : x < 12) (hy : y < 12) (h : NC S g x y) : (g y).toInt < (g x).toInt ∧ ¬ S 416 x y = 0 := by
  by_cases z : S 416 x y = 0
  · exact absurd (tmN_z z) h.1
  · obtain ⟨t1, t2, t3, t4⟩ := tmN_p hrg hx hy z
    have e := h.2
    rw [t1] at e
    have b := hL.1 y hy
    have e2 := congrArg Int32.toInt e
    rw [a_i (by omega) (by omega)] at e2
    exact ⟨by omega, z⟩
theorem PT_x {S : Nat → Nat → Nat → Int32} {g : Nat → Int32} {v x : Nat} (hrg : RgS S) (hL : L1 (hF S) (sF S) v g) (hX : FXa (hF S) (sF S) g) (hx : x < 12) (hne : ¬ x = v) (hf : (g x).toInt < 1000000) : ∃ y, y < 12 ∧ NC S g x y := by
  rcases hL.2.2 x hx with q | q | ⟨y, hy, hr, q⟩
  · exact absurd q hne
  · omega
  · have f := hX x hx y hy hr
    rw [hF_at hy] at hr q f
    rw [sF_at hy] at q f
    obtain ⟨t1, t2, t3, t4⟩ := tmN_p hrg hx hy hr
    have b := hL.1 y hy
    refine ⟨y, hy, tmN_m hrg hx hy hr, ?_⟩
    rw [t1]
    apply Int32.toInt_inj.mp
    rw [a_i (by omega) (by omega)]
    omega
theorem PT_c {S : Nat → Nat → Nat → Int32} {g : Nat → Int32} {u v n : Nat} {p : Nat → Nat} (hrg : RgS S) (hL : L1 (hF S) (sF S) v g) (h : PT S g u v n p) (hf : (g u).toInt < 1000000) : ∀ j, j ≤ n → cpN g (g (p j)) 12 + j ≤ 11 ∧ (g (p j)).toInt < 1000000 ∧ ∀ i, i < j → (g (p j)).toInt < (g (p i)).toInt := by
  intro j
  induction j with
  | zero =>
    intro hj
    have := cp_11 (g := g) (h.2.2 0 hj)
    rw [h.1] at this ⊢
    exact ⟨by omega, hf, fun i hi => absurd hi (by omega)⟩
  | succ j ih =>
    intro hj
    obtain ⟨a, b, c⟩ := ih (by omega)
    have d := (NC_d hrg hL (h.2.2 j (by omega)) (h.2.2 (j + 1) hj) (h.2.1 j (by omega)).2.1).1
    have e := cp_lt (g := g) (h.2.2 (j + 1) hj) d
    refine ⟨by omega, by omega, fun i hi => ?_⟩
    by_cases q : i = j
    · rw [q]; exact d
    · have := c i (by omega); omega
theorem PT_11 {S : Nat → Nat → Nat → Int32} {g : Nat → Int32} {u v : Nat} {p : Nat → Nat} (hrg : RgS S) (hL : L1 (hF S) (sF S) v g) (hX : FXa (hF S) (sF S) g) (h : PT S g u v 11 p) (hf : (g u).toInt < 1000000) : p 11 = v := by
  obtain ⟨a, b, c⟩ := PT_c hrg hL h hf 11 (Nat.le_refl _)
  by_cases q : p 11 = v
  · exact q
  · exfalso
    obtain ⟨y, hy, hN⟩ := PT_x hrg hL hX (h.2.2 11 (Nat.le_refl _)) q b
    have := cp_lt (g := g) hy (NC_d hrg hL (h.2.2 11 (Nat.le_refl _)) hy hN).1
    omega
theorem NX_c {S T : Nat → Nat → Nat → Int32} {g : Nat → Int32} {u v : Nat} (f : FR S T) (e : T 496 0 = g) (h : NXs T (T 496 0) u v) : NXs S g u v := by
  unfold NXs NC at h ⊢
  rw [e, tmN_fr f] at h
  refine ⟨h.1, fun z hz q => h.2 z hz ?_⟩
  rw [tmN_fr f]; exact q
def WAY (S : Nat → Nat → Nat → Int32) (g : Nat → Int32) (u v w : Nat) (a : Nat → Int32) : Prop := ∃ (p : Nat → Nat) (n : Nat), w = n + 1 ∧ n ≤ 11 ∧ PT S g u v n p ∧ p n = v ∧ ∀ j, j ≤ n → a j = nI (p j)
def LG (S T : Nat → Nat → Nat → Int32) (p0 p1 rv : Int32) : Prop := (rv = -1 ∧ (sp_st p0 = 0 ∨ sp_st p1 = 0)) ∨ ∃ (u v : Nat), u < 12 ∧ v < 12 ∧ p0 = nI u ∧ p1 = nI v ∧ L1 (hF S) (sF S) v (T 496 0) ∧ FXa (hF S) (sF S) (T 496 0) ∧ rv = if T 496 0 u < 1000000 then T 496 0 u else -1
theorem LG.lt {S T : Nat → Nat → Nat → Int32} {p0 p1 rv : Int32} (h : LG S T p0 p1 rv) : LT S p0 p1 rv := by
  rcases h with h | ⟨u, v, h1, h2, h3, h4, h5, h6, h7⟩
  · exact Or.inl h
  · exact Or.inr ⟨u, v, _, h1, h2, h3, h4, h5, h6, h7⟩
theorem LG_o {S T : Nat → Nat → Nat → Int32} {p0 p1 rv : Int32} (h : LG S T p0 p1 rv) (c : ¬ rv = -1) : ∃ u v : Nat, u < 12 ∧ v < 12 ∧ p0 = nI u ∧ p1 = nI v ∧ L1 (hF S) (sF S) v (T 496 0) ∧ FXa (hF S) (sF S) (T 496 0) ∧ (T 496 0 u).toInt < 1000000 := by
  rcases h with h | ⟨u, v, h1, h2, h3, h4, h5, h6, h7⟩
  · exact absurd h.1 c
  · refine ⟨u, v, h1, h2, h3, h4, h5, h6, ?_⟩
    by_cases q : T 496 0 u < 1000000
    · rw [lt_i, far_i] at q; exact q
    · rw [if_neg q] at h7; exact absurd h7 c
def NOW (S : Nat → Nat → Nat → Int32) (p0 p1 : Int32) : Prop := (sp_st p0 = 0 ∨ sp_st p1 = 0) ∨ ∃ (u v : Nat) (g : Nat → Int32), u < 12 ∧ v < 12 ∧ p0 = nI u ∧ p1 = nI v ∧ L1 (hF S) (sF S) v g ∧ FXa (hF S) (sF S) g ∧ ¬ (g u).toInt < 1000000
theorem LG_n {S T : Nat → Nat → Nat → Int32} {p0 p1 rv : Int32} (h : LG S T p0 p1 rv) (c : rv = -1) : NOW S p0 p1 := by
  rcases h with h | ⟨u, v, h1, h2, h3, h4, h5, h6, h7⟩
  · exact Or.inl h.2
  · refine Or.inr ⟨u, v, _, h1, h2, h3, h4, h5, h6, fun q => ?_⟩
    have q2 : T 496 0 u < 1000000 := by rw [lt_i, far_i]; exact q
    rw [if_pos q2] at h7
    have := (h5.1 u h1).1
    rw [← h7, c] at this
    exact absurd this (by decide)
def WYS (S : Nat → Nat → Nat → Int32) (p0 p1 : Int32) (w : Nat) (a : Nat → Int32) : Prop := ∃ (u v : Nat) (g : Nat → Int32), u < 12 ∧ v < 12 ∧ p0 = nI u ∧ p1 = nI v ∧ L1 (hF S) (sF S) v g ∧ FXa (hF S) (sF S) g ∧ (g u).toInt < 1000000 ∧ WAY S g u v w a
theorem RgS.hh {S : Nat → Nat → Nat → Int32} (h : RgS S) : Rng (hF S) := fun i hi => (h (i / 12) (by omega) (i % 12) (by omega)).1
theorem RgS.hs {S : Nat → Nat → Nat → Int32} (h : RgS S) : Rng (sF S) := fun i hi => (h (i / 12) (by omega) (i % 12) (by omega)).2
theorem NX_u {S : Nat → Nat → Nat → Int32} {g f : Nat → Int32} {x y z : Nat} (hg : ∀ i, i < 12 → g i = f i) (hx : x < 12) (hy : y < 12) (hz : z < 12) (a : NXs S g x y) (b : NXs S f x z) : y = z := by
  have e : ∀ i, i < 12 → (NC S g x i ↔ NC S f x i) := fun i hi => by unfold NC; rw [hg i hi, hg x hx]
  rcases Nat.lt_trichotomy y z with q | q | q
  · exact absurd ((e y hy).mp a.1) (b.2 y q)
  · exact q
  · exact absurd ((e z hz).mpr b.1) (a.2 z q)
theorem PT_u {S : Nat → Nat → Nat → Int32} {g f : Nat → Int32} {u v n m : Nat} {p q : Nat → Nat} (hg : ∀ i, i < 12 → g i = f i) (a : PT S g u v n p) (ea : p n = v) (b : PT S f u v m q) (eb : q m = v) : n = m ∧ ∀ j, j ≤ n → p j = q j := by
  have I : ∀ j, j ≤ n → j ≤ m → p j = q j := by
    intro j
    induction j with
    | zero => intro _ _; rw [a.1, b.1]
    | succ j ih =>
      intro h1 h2
      have e := ih (by omega) (by omega)
      have x := (a.2.1 j (by omega)).2
      have y := (b.2.1 j (by omega)).2
      rw [← e] at y
      exact NX_u hg (a.2.2 j (by omega)) (a.2.2 _ h1) (b.2.2 _ h2) x y
  rcases Nat.lt_trichotomy n m with c | c | c
  · exact absurd ((I n (Nat.le_refl _) (by omega)).symm.trans ea) (b.2.1 n c).1
  · exact ⟨c, fun j hj => I j hj (by omega)⟩
  · exact absurd ((I m (by omega) (Nat.le_refl _)).trans eb) (a.2.1 m c).1
