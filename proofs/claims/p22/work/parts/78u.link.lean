def rdS (S : Nat → Nat → Nat → Int32) (u v : Nat) : Prop := u < 12 ∧ v < 12 ∧ ¬ S 416 u v = 0
def tI (S : Nat → Nat → Nat → Int32) (u v : Nat) : Int := if u < 12 ∧ v < 12 then (tmN S u v).toInt else 0
def lI (S : Nat → Nat → Nat → Int32) (u v : Nat) : Int := (S 720 u v).toInt
def spI (S : Nat → Nat → Nat → Int32) (v : Nat) : Int := (S 656 0 v).toInt
def paI (S : Nat → Nat → Nat → Int32) (v : Nat) : Int := (S 688 0 v).toInt
def frI (S : Nat → Nat → Nat → Int32) (v : Nat) : Int := (S 704 0 v).toInt
theorem rd_sy {S : Nat → Nat → Nat → Int32} {u v : Nat} (hSy : Sy S) (h : rdS S u v) : rdS S v u := ⟨h.2.1, h.1, by rw [← ((hSy u h.1).2 v h.2.1).1]; exact h.2.2⟩
theorem rd_ir {S : Nat → Nat → Nat → Int32} {u : Nat} (hSy : Sy S) : ¬ rdS S u u := fun h => h.2.2 (hSy u h.1).1
theorem tI_sy {S : Nat → Nat → Nat → Int32} (hSy : Sy S) (u v : Nat) : tI S u v = tI S v u := by
  unfold tI
  by_cases c : u < 12 ∧ v < 12
  · rw [if_pos c, if_pos ⟨c.2, c.1⟩]
    have e := (hSy u c.1).2 v c.2
    unfold tmN
    rw [e.1, e.2]
  · rw [if_neg c, if_neg (fun w => c ⟨w.2, w.1⟩)]
theorem tI_r {S : Nat → Nat → Nat → Int32} {u v : Nat} (hRg : RgS S) (h : rdS S u v) : tI S u v = (tmN S u v).toInt ∧ 1 ≤ tI S u v ∧ tI S u v ≤ 48 := by
  obtain ⟨e1, e2, e3, e4⟩ := tmN_p hRg h.1 h.2.1 h.2.2
  have e : tI S u v = (tmN S u v).toInt := if_pos ⟨h.1, h.2.1⟩
  have a := (hRg u h.1 v h.2.1)
  refine ⟨e, ?_, ?_⟩
  · rw [e, e1]; exact e3
  · rw [e, e1, e2]; omega
def ABs (S T : Nat → Nat → Nat → Int32) : Prop := ∀ c, ¬ c = 688 → ¬ c = 704 → T c = S c
theorem ABs.rf {S : Nat → Nat → Nat → Int32} : ABs S S := fun _ _ _ => rfl
theorem ABs.up {S T : Nat → Nat → Nat → Int32} {c i j : Nat} {v : Int32} (h : ABs S T) (hc : c = 688 ∨ c = 704) : ABs S (up3 T c i j v) := fun c' h1 h2 => by
  rw [up3_c (fun q : c' = c => by rcases hc with w | w; exact h1 (q.trans w); exact h2 (q.trans w))]
  exact h c' h1 h2
def CBs (S T : Nat → Nat → Nat → Int32) (pi : Nat → Int) : Prop := ∃ k clk, CBc (rdS S) (tI S) (lI S) (spI S) pi (paI T) (frI T) k clk
def PCs (S : Nat → Nat → Nat → Int32) (pi : Nat → Int) : Prop := PCc (rdS S) (tI S) (lI S) (spI S) pi
def poS (S : Nat → Nat → Nat → Int32) (u v : Nat) (p : Int32) : Int32 := if S 720 v u ≤ 0 then p else -p
theorem neg_i {x : Int32} (h : -1000000 ≤ x.toInt ∧ x.toInt ≤ 1000000) : (-x).toInt = -x.toInt := by
  rw [Int32.toInt_neg, bm32 (by omega) (by omega)]
theorem po_i {S T : Nat → Nat → Nat → Int32} {u v : Nat} (hRg : RgS S) (hA : ABs S T) (h : rdS S u v) : (poS T u v (tmN T u v)).toInt = rcC (tI S) (lI S) u v := by
  obtain ⟨e, a, b⟩ := tI_r hRg h
  have et : tmN T u v = tmN S u v := by
    unfold tmN
    rw [hA 416 (by decide) (by decide), hA 432 (by decide) (by decide)]
  unfold poS rcC lI
  rw [et, hA 720 (by decide) (by decide)]
  by_cases c : S 720 v u ≤ 0
  · have c' := c
    rw [le_i, show (0 : Int32).toInt = 0 from by decide] at c'
    rw [if_pos c, if_neg (by omega), e]
  · have c' := c
    rw [le_i, show (0 : Int32).toInt = 0 from by decide] at c'
    rw [if_neg c, if_pos (by omega), neg_i (by omega), e]
def SFk (S T : Nat → Nat → Nat → Int32) (pi : Nat → Int) (u k : Nat) (x : Int32) : Prop := ABs S T ∧ CBs S T pi ∧ (∀ v, v < 12 → paI T v ≤ paI S v) ∧ (∀ v, v < k → rdS S u v → paI T v ≤ paI S u + rcC (tI S) (lI S) u v) ∧ paI T u = paI S u ∧ (x = 0 → ∀ v, v < 12 → paI T v = paI S v)
theorem SF_0 {S : Nat → Nat → Nat → Int32} {pi : Nat → Int} {u : Nat} (h : CBs S S pi) : SFk S S pi u 0 0 := ⟨ABs.rf, h, fun _ _ => Int.le_refl _, fun _ w => absurd w (by omega), rfl, fun _ _ _ => rfl⟩
theorem SF_n {S T : Nat → Nat → Nat → Int32} {pi : Nat → Int} {u k : Nat} {x : Int32} (h : SFk S T pi u k x) (c : tmN T u k = -1) (hRg : RgS S) : SFk S T pi u (k + 1) x := by
  obtain ⟨a, b, c1, d, e, f⟩ := h
  refine ⟨a, b, c1, fun v hv hr => ?_, e, f⟩
  by_cases z : v = k
  · subst z
    exfalso
    have et : tmN T u v = tmN S u v := by
      unfold tmN
      rw [a 416 (by decide) (by decide), a 432 (by decide) (by decide)]
    rw [et] at c
    exact tmN_m hRg hr.1 hr.2.1 hr.2.2 c
  · exact d v (by omega) hr
theorem pa_add {S T : Nat → Nat → Nat → Int32} {pi : Nat → Int} {u k : Nat} (hPC : PCs S pi) (hRg : RgS S) (hA : ABs S T) (hB : CBs S T pi) (hr : rdS S u k) : (T 688 0 u + poS T u k (tmN T u k)).toInt = paI T u + rcC (tI S) (lI S) u k := by
  obtain ⟨kk, clk, hB⟩ := hB
  have a := hB.1 u hr.1
  have b := hPC.1 u hr.1
  have e := po_i (T := T) hRg hA hr
  obtain ⟨e1, e2, e3⟩ := tI_r hRg hr
  have r : -48 ≤ rcC (tI S) (lI S) u k ∧ rcC (tI S) (lI S) u k ≤ 48 := by
    unfold rcC; split <;> omega
  show (T 688 0 u + _).toInt = (T 688 0 u).toInt + _
  have a1 : pi u ≤ (T 688 0 u).toInt ∧ (T 688 0 u).toInt ≤ 1000000 := ⟨a.1, a.2.1⟩
  rw [a_i (by omega) (by omega), e]
theorem SF_k {S T : Nat → Nat → Nat → Int32} {pi : Nat → Int} {u k : Nat} {x : Int32} (hPC : PCs S pi) (hRg : RgS S) (h : SFk S T pi u k x) (c : T 688 0 k ≤ T 688 0 u + poS T u k (tmN T u k)) : SFk S T pi u (k + 1) x := by
  obtain ⟨a, b, c1, d, e, f⟩ := h
  refine ⟨a, b, c1, fun v hv hr => ?_, e, f⟩
  by_cases z : v = k
  · subst z
    have q := pa_add hPC hRg a b hr
    rw [le_i, q, e] at c
    exact c
  · exact d v (by omega) hr
theorem SF_u {S T : Nat → Nat → Nat → Int32} {pi : Nat → Int} {u k : Nat} {x : Int32} (hPC : PCs S pi) (hSy : Sy S) (hRg : RgS S) (h : SFk S T pi u k x) (hu : u < 12) (hk : k < 12) (ht : ¬ tmN T u k = -1) (hf : paI S u < 1000000) (c : ¬ T 688 0 k ≤ T 688 0 u + poS T u k (tmN T u k)) : SFk S (up3 (up3 T 688 0 k (T 688 0 u + poS T u k (tmN T u k))) 704 0 k (nI u)) pi u (k + 1) 1 := by
  obtain ⟨a, b, c1, d, e, f⟩ := h
  have hr : rdS S u k := ⟨hu, hk, fun w => ht (by
    have et : tmN T u k = tmN S u k := by
      unfold tmN
      rw [a 416 (by decide) (by decide), a 432 (by decide) (by decide)]
    rw [et]; exact tmN_z w)⟩
  have q := pa_add hPC hRg a b hr
  have ne : ¬ u = k := fun w => rd_ir hSy (w ▸ hr : rdS S u u)
  rw [le_i, q] at c
  have ep : paI (up3 (up3 T 688 0 k (T 688 0 u + poS T u k (tmN T u k))) 704 0 k (nI u)) = uf (paI T) k (paI T u + rcC (tI S) (lI S) u k) := funext fun v => by
    unfold paI
    rw [up3_c (by decide)]
    by_cases z : v = k
    · subst z; rw [up3_s, uf_s]; exact q
    · rw [up3_n z, uf_n z]
  have ef : frI (up3 (up3 T 688 0 k (T 688 0 u + poS T u k (tmN T u k))) 704 0 k (nI u)) = uf (frI T) k (u : Int) := funext fun v => by
    unfold frI
    by_cases z : v = k
    · subst z; rw [up3_s, uf_s, nI_toInt (by omega)]
    · rw [up3_n z, uf_n z, up3_c (by decide)]
  have c' : paI T u + rcC (tI S) (lI S) u k < paI T k := Int.lt_of_not_ge c
  refine ⟨ABs.up (ABs.up a (Or.inl rfl)) (Or.inr rfl), ?_, fun v hv => ?_, fun v hv hr2 => ?_, ?_, fun w => absurd w (by decide)⟩
  · obtain ⟨kk, clk, hB⟩ := b
    refine ⟨uf kk k (clk + 1), clk + 1, ?_⟩
    rw [ep, ef]
    exact CB_u hPC hB hu hk hr ne (by rw [e]; exact hf) c'
  · rw [ep]
    by_cases z : v = k
    · subst z; rw [uf_s]; have := c1 v hv; omega
    · rw [uf_n z]; exact c1 v hv
  · rw [ep]
    by_cases z : v = k
    · subst z; rw [uf_s, e]; exact Int.le_refl _
    · rw [uf_n z]; exact d v (by omega) hr2
  · rw [ep, uf_n ne]; exact e
