theorem ab_eq {S T : Nat → Nat → Nat → Int32} (h : ABs S T) : rdS T = rdS S ∧ tI T = tI S ∧ lI T = lI S ∧ spI T = spI S := by
  have e1 := h 416 (by decide) (by decide)
  have e2 := h 432 (by decide) (by decide)
  have e3 := h 720 (by decide) (by decide)
  have e4 := h 656 (by decide) (by decide)
  refine ⟨?_, ?_, ?_, ?_⟩
  · funext u v; unfold rdS; rw [e1]
  · funext u v; unfold tI tmN; rw [e1, e2]
  · funext u v; unfold lI; rw [e3]
  · funext v; unfold spI; rw [e4]
theorem ABs.tr {S T U : Nat → Nat → Nat → Int32} (h : ABs S T) (g : ABs T U) : ABs S U := fun c h1 h2 => (g c h1 h2).trans (h c h1 h2)
theorem CBs.b {S T U : Nat → Nat → Nat → Int32} {pi : Nat → Int} (h : ABs S T) : CBs T U pi ↔ CBs S U pi := by
  obtain ⟨a, b, c, d⟩ := ab_eq h
  unfold CBs
  rw [a, b, c, d]
theorem PCs.b {S T : Nat → Nat → Nat → Int32} {pi : Nat → Int} (h : ABs S T) : PCs T pi ↔ PCs S pi := by
  obtain ⟨a, b, c, d⟩ := ab_eq h
  unfold PCs
  rw [a, b, c, d]
def INk (S T : Nat → Nat → Nat → Int32) (k : Nat) : Prop := ABs S T ∧ ∀ v, v < k → (0 < spI S v ∧ paI T v = 0 ∨ ¬ 0 < spI S v ∧ paI T v = 1000000) ∧ frI T v = -1
theorem IN9_0 {S : Nat → Nat → Nat → Int32} : INk S S 0 := ⟨ABs.rf, fun _ w => absurd w (by omega)⟩
theorem IN_s {S T : Nat → Nat → Nat → Int32} {k : Nat} {x : Int32} (h : INk S T k) (hx : (¬ T 656 0 k ≤ 0 ∧ x = 0) ∨ (T 656 0 k ≤ 0 ∧ x = 1000000)) : INk S (up3 (up3 T 688 0 k x) 704 0 k (-1)) (k + 1) := by
  refine ⟨ABs.up (ABs.up h.1 (Or.inl rfl)) (Or.inr rfl), fun v hv => ?_⟩
  have e6 : T 656 = S 656 := h.1 656 (by decide) (by decide)
  unfold paI frI
  by_cases z : v = k
  · subst z
    rw [up3_c (by decide), up3_s, up3_s]
    refine ⟨?_, by decide⟩
    rw [e6] at hx
    unfold spI
    rcases hx with ⟨a, b⟩ | ⟨a, b⟩
    · rw [le_i, show (0 : Int32).toInt = 0 from by decide] at a
      exact Or.inl ⟨by omega, by rw [b]; decide⟩
    · rw [le_i, show (0 : Int32).toInt = 0 from by decide] at a
      exact Or.inr ⟨by omega, by rw [b]; exact far_i⟩
  · rw [up3_c (by decide), up3_n z, up3_n z, up3_c (by decide)]
    exact h.2 v (by omega)
theorem IN_cb {S T : Nat → Nat → Nat → Int32} {pi : Nat → Int} (hPC : PCs S pi) (h : INk S T 12) : CBs S T pi := by
  refine ⟨fun _ => 0, 0, fun v hv => ?_, fun v hv s => ?_, fun v hv s => ?_⟩
  · have a := hPC.1 v hv
    rcases (h.2 v hv).1 with ⟨q, e⟩ | ⟨q, e⟩
    · have z := hPC.2.2 v hv q
      exact ⟨by omega, by omega, Nat.le_refl _⟩
    · exact ⟨by omega, by omega, Nat.le_refl _⟩
  · rcases (h.2 v hv).1 with ⟨q, e⟩ | ⟨q, e⟩
    · exact ⟨e, (h.2 v hv).2⟩
    · exact absurd s q
  · rcases (h.2 v hv).1 with ⟨q, e⟩ | ⟨q, e⟩
    · exact absurd q s
    · exact Or.inl ⟨e, (h.2 v hv).2⟩
def PSk (S R T : Nat → Nat → Nat → Int32) (pi : Nat → Int) (i : Nat) (x : Int32) : Prop := ABs S T ∧ CBs S T pi ∧ (∀ v, v < 12 → paI T v ≤ paI R v) ∧ (∀ u, u < i → ∀ v, v < 12 → rdS S u v → paI R u < 1000000 → paI T v ≤ paI R u + rcC (tI S) (lI S) u v) ∧ (x = 0 → ∀ v, v < 12 → paI T v = paI R v)
theorem PK_0 {S R : Nat → Nat → Nat → Int32} {pi : Nat → Int} (hA : ABs S R) (h : CBs S R pi) : PSk S R R pi 0 0 := ⟨hA, h, fun _ _ => Int.le_refl _, fun _ w => absurd w (by omega), fun _ _ _ => rfl⟩
theorem PK_n {S R T : Nat → Nat → Nat → Int32} {pi : Nat → Int} {i : Nat} {x : Int32} (hi : i < 12) (h : PSk S R T pi i x) (c : 1000000 ≤ T 688 0 i) : PSk S R T pi (i + 1) x := by
  obtain ⟨a, b, c1, d, e⟩ := h
  refine ⟨a, b, c1, fun u hu v hv hr hf => ?_, e⟩
  by_cases z : u = i
  · subst z
    rw [le_i, far_i] at c
    have := c1 u hi
    unfold paI at this hf
    omega
  · exact d u (by omega) v hv hr hf
theorem PK_s {S R T U : Nat → Nat → Nat → Int32} {pi : Nat → Int} {i : Nat} {x r y : Int32} (hi : i < 12) (h : PSk S R T pi i x) (g : SFk T U pi i 12 r) (hy : y = 0 → x = 0 ∧ r = 0) : PSk S R U pi (i + 1) y := by
  obtain ⟨a, b, c1, d, e⟩ := h
  obtain ⟨a', b', c1', d', e', f'⟩ := g
  obtain ⟨q1, q2, q3, q4⟩ := ab_eq a
  refine ⟨a.tr a', (CBs.b a).mp b', fun v hv => Int.le_trans (c1' v hv) (c1 v hv), fun u hu v hv hr hf => ?_, fun w v hv => ?_⟩
  · by_cases z : u = i
    · subst z
      have k := d' v hv (by rw [q1]; exact hr)
      rw [q2, q3] at k
      have := c1 u hi
      omega
    · have k := d u (by omega) v hv hr hf
      have := c1' v hv
      omega
  · obtain ⟨w1, w2⟩ := hy w
    rw [f' w2 v hv, e w1 v hv]
theorem PK_e {S R T : Nat → Nat → Nat → Int32} {pi : Nat → Int} {x : Int32} (h : PSk S R T pi 12 x) : PSb (rdS S) (tI S) (lI S) (paI R) (paI T) ∧ (x = 0 → FXb (rdS S) (tI S) (lI S) (paI T)) := by
  obtain ⟨a, b, c1, d, e⟩ := h
  refine ⟨⟨c1, fun u hu v hv hr hf => d u hu v hv hr hf⟩, fun w u hu v hv hr hf => ?_⟩
  rw [e w u hu] at hf ⊢
  exact d u hu v hv hr hf
def RJk (S T : Nat → Nat → Nat → Int32) (pi D : Nat → Int) (j : Nat) (x : Int32) : Prop := ABs S T ∧ CBs S T pi ∧ (x = 0 → FXb (rdS S) (tI S) (lI S) (paI T)) ∧ (nS (paI T) D 12 = 12 ∨ j + 1 ≤ nS (paI T) D 12)
def DDs (S : Nat → Nat → Nat → Int32) (pi D : Nat → Int) : Prop := (∃ fd kd cd, CBc (rdS S) (tI S) (lI S) (spI S) pi D fd kd cd) ∧ FXb (rdS S) (tI S) (lI S) D
theorem DD_ex {S T : Nat → Nat → Nat → Int32} {pi : Nat → Int} (hSy : Sy S) (hPC : PCs S pi) (h : CBs S T pi) : ∃ D, DDs S pi D := by
  obtain ⟨k, clk, h⟩ := h
  obtain ⟨D, fd, kd, cd, a, b⟩ := CB_ex hPC (fun u => rd_ir hSy) ((sI (paI T) 12).toNat + 1) (paI T) (frI T) k clk (by omega) h
  exact ⟨D, ⟨fd, kd, cd, a⟩, b⟩
theorem RJ_0 {S T : Nat → Nat → Nat → Int32} {pi D : Nat → Int} (hPC : PCs S pi) (h : INk S T 12) (hD : DDs S pi D) : RJk S T pi D 0 1 := by
  refine ⟨h.1, IN_cb hPC h, fun w => absurd w (by decide), ?_⟩
  obtain ⟨⟨fd, kd, cd, hD⟩, _⟩ := hD
  rcases Classical.em (∃ v, v < 12 ∧ 0 < spI S v) with ⟨v, hv, s⟩ | no
  · refine Or.inr (nS_1 12 hv ?_)
    rw [(hD.2.1 v hv s).1]
    rcases (h.2 v hv).1 with ⟨_, e⟩ | ⟨q, _⟩
    · exact e
    · exact absurd s q
  · refine Or.inl ?_
    have far : ∀ (m v : Nat), v < 12 → wk (D v - pi v) (kd v) cd ≤ m → D v = 1000000 := by
      intro m
      induction m with
      | zero =>
        intro v hv hm
        rcases hD.2.2 v hv (fun s => no ⟨v, hv, s⟩) with ⟨q, _⟩ | ⟨q, u, hu, _, hr, q1, q2, q3⟩
        · exact q
        · have lt : wk (D u - pi u) (kd u) cd < wk (D v - pi v) (kd v) cd := wk_lt (by have := (hD.1 u hu).1; omega) (hD.1 u hu).2.2 q3
          omega
      | succ m ih =>
        intro v hv hm
        rcases hD.2.2 v hv (fun s => no ⟨v, hv, s⟩) with ⟨q, _⟩ | ⟨q, u, hu, _, hr, q1, q2, q3⟩
        · exact q
        · have lt : wk (D u - pi u) (kd u) cd < wk (D v - pi v) (kd v) cd := wk_lt (by have := (hD.1 u hu).1; omega) (hD.1 u hu).2.2 q3
          have := ih u hu (by omega)
          omega
    have c : ∀ n, n ≤ 12 → nS (paI T) D n = n := by
      intro n
      induction n with
      | zero => intro _; rfl
      | succ n ih =>
        intro hn
        show nS (paI T) D n + (if paI T n = D n then 1 else 0) = n + 1
        have e : paI T n = D n := by
          rw [far _ n (by omega) (Nat.le_refl _)]
          rcases (h.2 n (by omega)).1 with ⟨q, _⟩ | ⟨_, e⟩
          · exact absurd ⟨n, by omega, q⟩ no
          · exact e
        rw [if_pos e, ih (by omega)]
    exact c 12 (Nat.le_refl _)
theorem RJ_s {S R T : Nat → Nat → Nat → Int32} {pi D : Nat → Int} {j : Nat} {x y : Int32} (h : RJk S R pi D j x) (hD : DDs S pi D) (g : PSk S R T pi 12 y) : RJk S T pi D (j + 1) y := by
  obtain ⟨a, ⟨k1, c1, b⟩, c, d⟩ := h
  obtain ⟨⟨fd, kd, cd, hD⟩, dX⟩ := hD
  obtain ⟨p1, p2⟩ := PK_e g
  have g' := g
  obtain ⟨ga, ⟨k2, c2, gb⟩, _⟩ := g'
  refine ⟨ga, ⟨k2, c2, gb⟩, p2, ?_⟩
  have s := PS_s b gb hD dX p1
  have m : nS (paI R) D 12 ≤ nS (paI T) D 12 := by
    refine nS_mo 12 (fun v hv e => ?_)
    have lo := CB_lo gb (fun v hv s => (hD.2.1 v hv s).1) (fun v hv => (hD.1 v hv).2.1) dX _ v hv (Nat.le_refl _)
    have := p1.1 v hv
    omega
  have t := nS_le (P := paI T) (D := D) 12
  rcases d with q | q
  · exact Or.inl (by omega)
  · rcases s with z | z
    · exact Or.inl (by omega)
    · exact Or.inr (by omega)
theorem RJ_e {S T : Nat → Nat → Nat → Int32} {pi D : Nat → Int} {x : Int32} {j : Nat} (h : RJk S T pi D j x) (hD : DDs S pi D) (hj : j = 12 ∨ x = 0) : ABs S T ∧ CBs S T pi ∧ FXb (rdS S) (tI S) (lI S) (paI T) := by
  obtain ⟨a, b, c, d⟩ := h
  refine ⟨a, b, ?_⟩
  rcases hj with e | e
  · have t := nS_le (P := paI T) (D := D) 12
    have n12 : nS (paI T) D 12 = 12 := by rcases d with q | q <;> omega
    have all := nS_all 12 n12
    intro u hu v hv hr hf
    rw [all u hu] at hf ⊢
    rw [all v hv]
    exact hD.2 u hu v hv hr hf
  · exact c e
