def fI (f : Nat → Int32) (i : Nat) : Int := (f i).toInt
theorem cI_u {l : Nat → Int32} {a b i k : Nat} {x : Int32} (hb : b < 12) (hk : k < 12) : cI (upd l (12 * a + b) x) i k = u2 (cI l) a b x.toInt i k := by
  by_cases e : i = a ∧ k = b
  · obtain ⟨e1, e2⟩ := e
    subst e1; subst e2
    rw [u2_s]
    show (upd l (12 * i + k) x (12 * i + k)).toInt = _
    rw [up_s]
  · rw [u2_n e]
    show (upd l (12 * a + b) x (12 * i + k)).toInt = (l (12 * i + k)).toInt
    rw [up_n (fun w => e ⟨by omega, by omega⟩)]
theorem cI_row {l : Nat → Int32} {a b i : Nat} {x : Int32} {d : Int} (hb : b < 12) (hx : x.toInt = cI l a b + d) : sI (cI (upd l (12 * a + b) x) i) 12 = sI (cI l i) 12 + (if i = a then d else 0) := by
  have e : sI (cI (upd l (12 * a + b) x) i) 12 = sI (u2 (cI l) a b (cI l a b + d) i) 12 := sI_c 12 (fun k hk => by
    show cI (upd l (12 * a + b) x) i k = u2 (cI l) a b (cI l a b + d) i k
    rw [cI_u hb hk, hx])
  rw [e, u2_row hb]
theorem cI_col {l : Nat → Int32} {a b k : Nat} {x : Int32} {d : Int} (ha : a < 12) (hb : b < 12) (hk : k < 12) (hx : x.toInt = cI l a b + d) : sI (fun i => cI (upd l (12 * a + b) x) i k) 12 = sI (fun i => cI l i k) 12 + (if k = b then d else 0) := by
  have e : sI (fun i => cI (upd l (12 * a + b) x) i k) 12 = sI (fun i => u2 (cI l) a b (cI l a b + d) i k) 12 := sI_c 12 (fun i _ => by
    show cI (upd l (12 * a + b) x) i k = u2 (cI l) a b (cI l a b + d) i k
    rw [cI_u hb hk, hx])
  rw [e, u2_col ha]
theorem cI_cost {l : Nat → Int32} {c : Nat → Nat → Int} {a b : Nat} {x : Int32} {d : Int} (ha : a < 12) (hb : b < 12) (hx : x.toInt = cI l a b + d) : sJ (fun i k => c i k * cI (upd l (12 * a + b) x) i k) = sJ (fun i k => c i k * cI l i k) + c a b * d := by
  rw [← u2_cost ha hb]
  refine sJ_c (fun i hi k hk => ?_)
  show c i k * cI (upd l (12 * a + b) x) i k = c i k * u2 (cI l) a b (cI l a b + d) i k
  rw [cI_u hb hk, hx]
section RF
variable {c led lf tg tt gb tb : Nat → Int32} {G T : Nat → Int} {kg kt : Nat → Nat} {clk : Nat}
theorem RQ_t {i k : Nat} (h : CH c led lf G T tg tt gb tb kg kt clk) (hX : FXc c led tg tt) (hk : k < 12) (hi : i < 12) (e : tb k = nI i) : (tg i).toInt < 1000000 ∧ (tt k).toInt < 1000000 ∧ cI c i k < 1000000 ∧ (tt k).toInt = (tg i).toInt + cI c i k := by
  rcases h.2.2.2.1 k hk with ⟨w, _⟩ | ⟨i', hi', w, q1, q2, q3, q4, _⟩
  · rw [w] at e; exact absurd e.symm (nI_m (by omega))
  · rw [w] at e
    have := nI_inj (by omega) (by omega) e
    subst this
    have f := (hX i' hi' k hk).1 q1 q3
    exact ⟨q1, q2, q3, by unfold cI; omega⟩
theorem RQ_g {i k : Nat} (h : CH c led lf G T tg tt gb tb kg kt clk) (hX : FXc c led tg tt) (hi : i < 12) (hk : k < 12) (e : gb i = nI k) : (tg i).toInt < 1000000 ∧ (tt k).toInt < 1000000 ∧ 0 < cI led i k ∧ (tg i).toInt = (tt k).toInt - cI c i k := by
  rcases h.2.2.1 i hi with ⟨w, _⟩ | ⟨k', hk', w, q1, q2, q3, q4, _⟩
  · rw [w] at e; exact absurd e.symm (nI_m (by omega))
  · rw [w] at e
    have := nI_inj (by omega) (by omega) e
    subst this
    have f := (hX i hi k' hk').2 q3 q1
    exact ⟨q2, q1, q3, by unfold cI; omega⟩
theorem RQ_0 {i : Nat} (h : CH c led lf G T tg tt gb tb kg kt clk) (hi : i < 12) (hf : ¬ 0 ≤ gb i) (h1 : (tg i).toInt < 1000000) : (tg i).toInt = 0 ∧ 0 < (lf i).toInt := by
  rcases h.2.2.1 i hi with ⟨_, q⟩ | ⟨k, hk, a, _⟩
  · omega
  · rw [a] at hf; exact absurd (nI_pos' (by omega)) hf
def CGk (c led tg tt : Nat → Int32) (G T : Nat → Int) (kg kt : Nat → Nat) (clk to k9 : Nat) (l : Nat → Int32) : Prop := (∀ i, i < 12 → ∀ k, k < 12 → 0 ≤ cI l i k ∧ cI l i k ≤ cI led i k + 1) ∧ (∀ i, i < 12 → wk ((tg i).toInt - G i) (kg i) clk < wk ((tt k9).toInt - T k9) (kt k9) clk → ∀ k, k < 12 → cI l i k = cI led i k) ∧ (∀ i, i < 12 → sI (cI l i) 12 = sI (cI led i) 12) ∧ (∀ k, k < 12 → sI (fun i => cI l i k) 12 = sI (fun i => cI led i k) 12 + (if k = to then 1 else 0) - (if k = k9 then 1 else 0)) ∧ sJ (fun i k => cI c i k * cI l i k) = sJ (fun i k => cI c i k * cI led i k) + (tt to).toInt - (tt k9).toInt
def LEb (led : Nat → Int32) : Prop := ∀ i, i < 12 → ∀ k, k < 12 → 0 ≤ cI led i k ∧ cI led i k ≤ 1000
theorem CG_0 {to : Nat} (hl : LEb led) : CGk c led tg tt G T kg kt clk to to led := by
  refine ⟨fun i hi k hk => ?_, fun _ _ _ _ _ => rfl, fun _ _ => rfl, fun k hk => ?_, ?_⟩
  · have := hl i hi k hk; omega
  · omega
  · omega
theorem i1 : (1 : Int32).toInt = 1 := by decide
theorem CG_s {l l1 l2 : Nat → Int32} {to k9 i q : Nat} (hC : CH c led lf G T tg tt gb tb kg kt clk) (hX : FXc c led tg tt) (hl : LEb led) (h : CGk c led tg tt G T kg kt clk to k9 l) (hk9 : k9 < 12) (hi : i < 12) (hq : q < 12) (ei : tb k9 = nI i) (hwi : wk ((tg i).toInt - G i) (kg i) clk < wk ((tt k9).toInt - T k9) (kt k9) clk) (eq : gb i = nI q) (hwq : wk ((tt q).toInt - T q) (kt q) clk < wk ((tg i).toInt - G i) (kg i) clk) (e1 : l1 = upd l (12 * i + k9) (l (12 * i + k9) + 1)) (e2 : l2 = upd l1 (12 * i + q) (l1 (12 * i + q) - 1)) : CGk c led tg tt G T kg kt clk to q l2 := by
  obtain ⟨t1, t2, t3, t4⟩ := RQ_t hC hX hk9 hi ei
  obtain ⟨g1, g2, g3, g4⟩ := RQ_g hC hX hi hq eq
  obtain ⟨a1, a2, a3, a4, a5⟩ := h
  have nq : ¬ q = k9 := fun w => by rw [w] at hwq; omega
  have b1 := a1 i hi k9 hk9
  have b2 := hl i hi k9 hk9
  have u1 := a2 i hi hwi k9 hk9
  have u3 := a2 i hi hwi q hq
  have x1 : (l (12 * i + k9) + 1).toInt = cI l i k9 + 1 := by
    unfold cI at b1 b2 ⊢
    rw [a_i (by rw [i1]; omega) (by rw [i1]; omega), i1]
  have c1 : ∀ a b, b < 12 → cI l1 a b = u2 (cI l) i k9 (cI l i k9 + 1) a b := fun a b hb => by rw [e1, cI_u hk9 hb, x1]
  have d1 : cI l1 i q = cI l i q := by rw [c1 i q hq, u2_n (fun w => nq w.2)]
  have x2 : (l1 (12 * i + q) - 1).toInt = cI l1 i q + -1 := by
    have z : (l1 (12 * i + q)).toInt = cI led i q := by show cI l1 i q = _; rw [d1, u3]
    have b3 := hl i hi q hq
    rw [s_i (by rw [i1]; omega) (by rw [i1]; omega), i1]
    rfl
  have c2 : ∀ a b, b < 12 → cI l2 a b = u2 (cI l1) i q (cI l1 i q + -1) a b := fun a b hb => by rw [e2, cI_u hq hb, x2]
  refine ⟨fun a ha b hb => ?_, fun a ha w b hb => ?_, fun a ha => ?_, fun b hb => ?_, ?_⟩
  · rw [c2 a b hb]
    by_cases z : a = i ∧ b = q
    · obtain ⟨z1, z2⟩ := z
      subst z1; subst z2
      rw [u2_s, d1, u3]; omega
    · rw [u2_n z, c1 a b hb]
      by_cases y : a = i ∧ b = k9
      · obtain ⟨y1, y2⟩ := y
        subst y1; subst y2
        rw [u2_s, u1]; omega
      · rw [u2_n y]; exact a1 a ha b hb
  · have ne : ¬ a = i := fun y => by rw [y] at w; omega
    rw [c2 a b hb, u2_n (fun y => ne y.1), c1 a b hb, u2_n (fun y => ne y.1)]
    exact a2 a ha (by omega) b hb
  · rw [e2, cI_row hq x2, e1, cI_row hk9 x1, a3 a ha]
    split <;> omega
  · rw [e2, cI_col hi hq hb x2, e1, cI_col hi hk9 hb x1, a4 b hb]
    by_cases z : b = k9
    · have nb : ¬ b = q := fun w => nq (w.symm.trans z)
      rw [if_pos z, if_neg nb, if_neg nb]; omega
    · rw [if_neg z]
      by_cases y : b = q
      · rw [if_pos y, if_pos y]; omega
      · rw [if_neg y, if_neg y]; omega
  · rw [e2, cI_cost hi hq x2, e1, cI_cost hi hk9 x1, a5]
    omega
def CGf (c led lf tt : Nat → Int32) (to : Nat) (l' lf' : Nat → Int32) : Prop := (∀ i, i < 12 → ∀ k, k < 12 → 0 ≤ cI l' i k ∧ cI l' i k ≤ cI led i k + 1) ∧ (∃ i9, i9 < 12 ∧ 0 < (lf i9).toInt ∧ lf' = upd lf i9 (lf i9 - 1) ∧ ∀ i, i < 12 → sI (cI l' i) 12 = sI (cI led i) 12 + (if i = i9 then 1 else 0)) ∧ (∀ k, k < 12 → sI (fun i => cI l' i k) 12 = sI (fun i => cI led i k) 12 + (if k = to then 1 else 0)) ∧ sJ (fun i k => cI c i k * cI l' i k) = sJ (fun i k => cI c i k * cI led i k) + (tt to).toInt
theorem CG_e {l l1 lf' : Nat → Int32} {to k9 i : Nat} (hC : CH c led lf G T tg tt gb tb kg kt clk) (hX : FXc c led tg tt) (hl : LEb led) (h : CGk c led tg tt G T kg kt clk to k9 l) (hk9 : k9 < 12) (hi : i < 12) (ei : tb k9 = nI i) (hwi : wk ((tg i).toInt - G i) (kg i) clk < wk ((tt k9).toInt - T k9) (kt k9) clk) (hg : ¬ 0 ≤ gb i) (e1 : l1 = upd l (12 * i + k9) (l (12 * i + k9) + 1)) (ef : lf' = upd lf i (lf i - 1)) : CGf c led lf tt to l1 lf' := by
  obtain ⟨t1, t2, t3, t4⟩ := RQ_t hC hX hk9 hi ei
  obtain ⟨g1, g2⟩ := RQ_0 hC hi hg t1
  obtain ⟨a1, a2, a3, a4, a5⟩ := h
  have b1 := a1 i hi k9 hk9
  have b2 := hl i hi k9 hk9
  have u1 := a2 i hi hwi k9 hk9
  have x1 : (l (12 * i + k9) + 1).toInt = cI l i k9 + 1 := by
    unfold cI at b1 b2 ⊢
    rw [a_i (by rw [i1]; omega) (by rw [i1]; omega), i1]
  refine ⟨fun a ha b hb => ?_, ⟨i, hi, g2, ef, fun a ha => ?_⟩, fun b hb => ?_, ?_⟩
  · rw [e1, cI_u hk9 hb, x1]
    by_cases y : a = i ∧ b = k9
    · obtain ⟨y1, y2⟩ := y
      subst y1; subst y2
      rw [u2_s, u1]; omega
    · rw [u2_n y]; exact a1 a ha b hb
  · rw [e1, cI_row hk9 x1, a3 a ha]
  · rw [e1, cI_col hi hk9 hb x1, a4 b hb]
    by_cases z : b = k9
    · rw [if_pos z]; omega
    · rw [if_neg z]; omega
  · rw [e1, cI_cost hi hk9 x1, a5]
    omega
theorem RB_t (hM : MTc (cI c)) (hP : PO c led lf G T) (h : CH c led lf G T tg tt gb tb kg kt clk) (hX : FXc c led tg tt) : ∀ (m k : Nat), k < 12 → wk ((tt k).toInt - T k) (kt k) clk ≤ m → (tt k).toInt < 1000000 → (tt k).toInt ≤ 528 * ((clN (fun x => wk ((tt x).toInt - T x) (kt x) clk) (wk ((tt k).toInt - T k) (kt k) clk) 12 : Int) + 1)
  | m, k, hk, hm, hf => by
    obtain ⟨i, hi, ei, hfi, hwi⟩ := CHe_t h hk hf
    obtain ⟨_, _, t3, t4⟩ := RQ_t h hX hk hi ei
    have cb := (hM.2.2.1 i hi k hk).2 t3
    by_cases hg : 0 ≤ gb i
    · obtain ⟨q, hq, eq, hfq, hwq⟩ := CHe_g h hi hg
      obtain ⟨_, _, _, g4⟩ := RQ_g h hX hi hq eq
      have cp := (hM.2.2.1 i hi q hq).1
      match m, hm with
      | 0, hm => omega
      | m + 1, hm =>
        have ih := RB_t hM hP h hX m q hq (by omega) hfq
        have st := clN_st (m := fun x => wk ((tt x).toInt - T x) (kt x) clk) (u := q) (y := wk ((tt k).toInt - T k) (kt k) clk) (by show wk ((tt q).toInt - T q) (kt q) clk < _; omega) 12 hq
        have st' : (clN (fun x => wk ((tt x).toInt - T x) (kt x) clk) (wk ((tt q).toInt - T q) (kt q) clk) 12 : Int) + 1 ≤ (clN (fun x => wk ((tt x).toInt - T x) (kt x) clk) (wk ((tt k).toInt - T k) (kt k) clk) 12 : Int) := by exact_mod_cast st
        omega
    · have z := (RQ_0 h hi hg hfi).1
      omega
theorem LB_c (hM : MTc (cI c)) (hP : PO c led lf G T) (hE : CHe c led lf G T tg tt gb tb) (hX : FXc c led tg tt) : LBc (cI c) (cI led) (fI lf) (fI tg) (fI tt) := by
  obtain ⟨kg, kt, clk, h⟩ := hE
  have bt : ∀ k, k < 12 → (tt k).toInt < 1000000 → (tt k).toInt ≤ 6336 := fun k hk hf => by
    have a := RB_t hM hP h hX _ k hk (Nat.le_refl _) hf
    have b := clN_11 (m := fun x => wk ((tt x).toInt - T x) (kt x) clk) hk
    have b' : (clN (fun x => wk ((tt x).toInt - T x) (kt x) clk) (wk ((tt k).toInt - T k) (kt k) clk) 12 : Int) ≤ 11 := by exact_mod_cast b
    omega
  refine ⟨fun i hi => ?_, fun i hi k hk a b => (hX i hi k hk).1 a b, fun i hi k hk a b => (hX i hi k hk).2 a b, fun k hk a => ?_, fun i hi a => ?_⟩
  · have a := hP.1 i hi
    have b := h.1 i hi
    have d := hP.2.1 i hi
    have e := h.2.1 i hi
    unfold fI
    refine ⟨by omega, by omega, by omega, by omega, fun w => ?_⟩
    by_cases hg : 0 ≤ gb i
    · obtain ⟨q, hq, eq, hfq, _⟩ := CHe_g h hi hg
      obtain ⟨_, _, _, g4⟩ := RQ_g h hX hi hq eq
      have := bt q hq hfq
      have cp := (hM.2.2.1 i hi q hq).1
      omega
    · have := (RQ_0 h hi hg w).1
      omega
  · obtain ⟨i, hi, ei, hfi, _⟩ := CHe_t h hk a
    obtain ⟨q1, _, q3, q4⟩ := RQ_t h hX hk hi ei
    exact ⟨i, hi, q1, q3, q4⟩
  · have b := h.2.2.2.2 i hi a
    have d := h.1 i hi
    have e := hP.1 i hi
    unfold fI
    omega
theorem LD_x {led' : Nat → Int32} (hE : CHe c led lf G T tg tt gb tb) (hX : FXc c led tg tt) (hD : LD led led' gb tb) : ∀ i, i < 12 → ∀ k, k < 12 → 0 < cI led' i k → 0 < cI led i k ∨ (fI tg i < 1000000 ∧ cI c i k < 1000000 ∧ fI tt k < 1000000 ∧ fI tt k = fI tg i + cI c i k) := fun i hi k hk a => by
  obtain ⟨kg, kt, clk, h⟩ := hE
  rcases hD i hi k hk a with z | z | z
  · exact Or.inl z
  · obtain ⟨q1, q2, q3, q4⟩ := RQ_t h hX hk hi z
    exact Or.inr ⟨q1, q3, q2, q4⟩
  · exact Or.inl (RQ_g h hX hi hk z).2.2.1
end RF
def RFh (c : Nat → Int32) (w0 h0 : Nat → Int) : Prop := MTc (cI c) ∧ ∀ k, k < 12 → (0 ≤ w0 k ∧ w0 k ≤ 60) ∧ 0 ≤ h0 k ∧ h0 k ≤ 60
def RFk (c : Nat → Int32) (w0 h0 : Nat → Int) (wa lf ld : Nat → Int32) (x : Int32) : Prop := (∃ G T, PQc (cI c) (cI ld) (fI lf) G T) ∧ (∀ i, i < 12 → ∀ k, k < 12 → 0 ≤ cI ld i k) ∧ (∀ k, k < 12 → 0 ≤ fI wa k ∧ fI wa k ≤ w0 k ∧ sI (fun i => cI ld i k) 12 = w0 k - fI wa k) ∧ (∀ i, i < 12 → 0 ≤ fI lf i ∧ fI lf i ≤ h0 i ∧ sI (cI ld i) 12 = h0 i - fI lf i) ∧ x.toInt = sJ (fun i k => cI c i k * cI ld i k)
theorem sI_ge {f : Nat → Int} {v n : Nat} (hv : v < n) (h : ∀ i, i < n → 0 ≤ f i) : f v ≤ sI f n := by
  have b := sI_uf (f := f) (v := v) (x := 0) n hv
  have c := sI_pos (f := uf f v 0) (n := n) (fun i hi => by
    by_cases e : i = v
    · subst e; rw [uf_s]; exact Int.le_refl _
    · rw [uf_n e]; exact h i hi)
  omega
theorem RF_60 {c : Nat → Int32} {w0 h0 : Nat → Int} {wa lf ld : Nat → Int32} {x : Int32} (hH : RFh c w0 h0) (h : RFk c w0 h0 wa lf ld x) : ∀ i, i < 12 → ∀ k, k < 12 → 0 ≤ cI ld i k ∧ cI ld i k ≤ 60 := fun i hi k hk => by
  have a := sI_ge (f := fun i => cI ld i k) hi (fun j hj => h.2.1 j hj k hk)
  have b := h.2.2.1 k hk
  have d := hH.2 k hk
  have e := h.2.1 i hi k hk
  have a' : cI ld i k ≤ sI (fun i => cI ld i k) 12 := a
  omega
theorem RF_b {c : Nat → Int32} {w0 h0 : Nat → Int} {wa lf ld : Nat → Int32} {x : Int32} (hH : RFh c w0 h0) (h : RFk c w0 h0 wa lf ld x) : LEb ld := fun i hi k hk => by
  have := RF_60 hH h i hi k hk
  omega
theorem RF_x {c : Nat → Int32} {w0 h0 : Nat → Int} {wa lf ld : Nat → Int32} {x : Int32} (hH : RFh c w0 h0) (h : RFk c w0 h0 wa lf ld x) : 0 ≤ x.toInt ∧ x.toInt ≤ 4561920 := by
  obtain ⟨⟨G, T, hQ⟩, _⟩ := h.1, h
  have el : ∀ i, i < 12 → ∀ k, k < 12 → 0 ≤ cI c i k * cI ld i k ∧ cI c i k * cI ld i k ≤ 31680 := fun i hi k hk => by
    have a := RF_60 hH h i hi k hk
    have c0 := (hH.1.2.2.1 i hi k hk).1
    rcases Int.lt_or_le 0 (cI ld i k) with w | w
    · have cb := (hH.1.2.2.1 i hi k hk).2 (hQ.2.2.1 i hi k hk w).1
      exact ⟨Int.mul_nonneg c0 a.1, Int.le_trans (Int.mul_le_mul cb a.2 a.1 (by omega)) (by decide)⟩
    · rw [show cI ld i k = 0 from by omega, Int.mul_zero]; omega
  rw [h.2.2.2.2]
  refine ⟨sI_pos (fun i hi => sI_pos (fun k hk => (el i hi k hk).1)), ?_⟩
  exact Int.le_trans (sJ_le (g := fun _ _ => 31680) (fun i hi k hk => (el i hi k hk).2)) (by decide)
theorem RF_0 {c : Nat → Int32} {w0 h0 : Nat → Int} {wa lf ld : Nat → Int32} (hH : RFh c w0 h0) (h0' : ∀ i, i < 12 → ∀ k, k < 12 → ld (12 * i + k) = 0) (hw : ∀ k, k < 12 → fI wa k = w0 k) (hl : ∀ k, k < 12 → fI lf k = h0 k) : RFk c w0 h0 wa lf ld 0 := by
  have z : ∀ i, i < 12 → ∀ k, k < 12 → cI ld i k = 0 := fun i hi k hk => by unfold cI; rw [h0' i hi k hk, Int32.toInt_zero]
  refine ⟨⟨_, _, PQ_0 hH.1 z⟩, fun i hi k hk => by rw [z i hi k hk]; exact Int.le_refl _, fun k hk => ?_, fun i hi => ?_, ?_⟩
  · have := hH.2 k hk
    rw [hw k hk, sI_0 (f := fun i => cI ld i k) (fun i hi => z i hi k hk)]; omega
  · have := hH.2 i hi
    rw [hl i hi, sI_0 (f := cI ld i) (fun k hk => z i hi k hk)]; omega
  · rw [Int32.toInt_zero]
    refine (?_ : sJ _ = 0).symm
    exact sI_0 (fun i hi => sI_0 (fun k hk => by show cI c i k * cI ld i k = 0; rw [z i hi k hk, Int.mul_zero]))
theorem RF_s {c tg tt gb tb : Nat → Int32} {G T : Nat → Int} {w0 h0 : Nat → Int} {wa lf ld wa' lf' ld' : Nat → Int32} {x x' : Int32} {to : Nat} (hH : RFh c w0 h0) (h : RFk c w0 h0 wa lf ld x) (hP : PO c ld lf G T) (hE : CHe c ld lf G T tg tt gb tb) (hX : FXc c ld tg tt) (hD : LD ld ld' gb tb) (hF : LF lf lf' tg) (hG : CGf c ld lf tt to ld' lf') (hto : to < 12) (hw : ¬ wa to ≤ 0) (hf : ¬ 1000000 ≤ tt to) (ew : wa' = upd wa to (wa to - 1)) (ex : x' = x + tt to) : RFk c w0 h0 wa' lf' ld' x' := by
  have xb := RF_x hH h
  have hL := LB_c hH.1 hP hE hX
  obtain ⟨⟨G9, T9, hQ⟩, k2, k3, k4, k5⟩ := h
  obtain ⟨g1, ⟨i9, hi9, g2, g3, g4⟩, g5, g6⟩ := hG
  have tb0 := (hL.1 to hto)
  have ft := nfar hf
  rw [le_i, Int32.toInt_zero] at hw
  refine ⟨⟨_, _, PQ_n hH.1 hQ hL (LD_x hE hX hD) (fun i hi a => hF i hi a)⟩, fun i hi k hk => (g1 i hi k hk).1, fun k hk => ?_, fun i hi => ?_, ?_⟩
  · have a := k3 k hk
    rw [g5 k hk, a.2.2]
    unfold fI at a ⊢
    by_cases e : k = to
    · subst e
      have b := hH.2 k hk
      rw [ew, up_s, s_i (by rw [i1]; omega) (by rw [i1]; omega), i1, if_pos rfl]; omega
    · rw [ew, up_n e, if_neg e]; omega
  · have a := k4 i hi
    rw [g4 i hi, a.2.2]
    unfold fI at a ⊢
    by_cases e : i = i9
    · subst e
      have b := hH.2 i hi
      rw [g3, up_s, s_i (by rw [i1]; omega) (by rw [i1]; omega), i1, if_pos rfl]; omega
    · rw [g3, up_n e, if_neg e]; omega
  · unfold fI at tb0
    rw [g6, ← k5, ex, a_i (by omega) (by omega)]
def CLc (c : Nat → Int32) (f : Nat → Int) : Prop := ∃ C : Nat → Bool, (∀ i k, i < 12 → k < 12 → cI c i k < 1000000 → C i = C k) ∧ sI (fun v => if C v = true then f v else 0) 12 < 0
theorem RF_cl {c : Nat → Int32} {w0 h0 : Nat → Int} {wa lf ld : Nat → Int32} {x : Int32} {C : Nat → Bool} (h : RFk c w0 h0 wa lf ld x) (hC : ∀ i k, i < 12 → k < 12 → cI c i k < 1000000 → C i = C k) : sI (fun v => if C v = true then h0 v - w0 v else 0) 12 = sI (fun v => if C v = true then fI lf v - fI wa v else 0) 12 := by
  obtain ⟨⟨G, T, hQ⟩, k2, k3, k4, _⟩ := h
  have a := net_cl (rd := fun i k => cI c i k < 1000000) (l := cI ld) (C := C) (fun i k hi hk w => hC i k hi hk w) (fun i hi k hk => by
    rcases Int.lt_or_le 0 (cI ld i k) with w | w
    · exact Or.inr (hQ.2.2.1 i hi k hk w).1
    · exact Or.inl (by have := k2 i hi k hk; omega))
  have b : sI (fun v => if C v = true then net (cI ld) v else 0) 12 = sI (fun v => if C v = true then fI lf v - fI wa v else 0) 12 - sI (fun v => if C v = true then h0 v - w0 v else 0) 12 := by
    rw [← sI_sub]
    refine sI_c 12 (fun v hv => ?_)
    have e1 := (k3 v hv).2.2
    have e2 := (k4 v hv).2.2
    by_cases c' : C v = true
    · simp only [if_pos c']; unfold net; rw [e1, e2]; omega
    · simp only [if_neg c']; rfl
  omega
theorem RF_no {c : Nat → Int32} {w0 h0 : Nat → Int} {wa lf ld : Nat → Int32} {x : Int32} (h : RFk c w0 h0 wa lf ld x) (hd : ∀ k, k < 12 → fI wa k = 0) : ¬ CLc c (fun v => h0 v - w0 v) := fun ⟨C, hC, w⟩ => by
  have e := RF_cl h hC
  have p := sI_pos (f := fun v => if C v = true then fI lf v - fI wa v else 0) (n := 12) (fun v hv => by
    show 0 ≤ (if C v = true then fI lf v - fI wa v else 0)
    have a := h.2.2.2.1 v hv
    have b := hd v hv
    split <;> omega)
  have w' : sI (fun v => if C v = true then h0 v - w0 v else 0) 12 < 0 := w
  omega
theorem RF_t {c tg tt gb tb : Nat → Int32} {G T : Nat → Int} {w0 h0 : Nat → Int} {wa lf ld : Nat → Int32} {x : Int32} (hH : RFh c w0 h0) (h : RFk c w0 h0 wa lf ld x) (hP : PO c ld lf G T) (hE : CHe c ld lf G T tg tt gb tb) (hX : FXc c ld tg tt) (hN : ∀ k, k < 12 → ¬ wa k ≤ 0 → 1000000 ≤ tt k) (hn : ∃ k, k < 12 ∧ ¬ wa k ≤ 0) : CLc c (fun v => h0 v - w0 v) := by
  have hL := LB_c hH.1 hP hE hX
  have cl : ∀ i k, i < 12 → k < 12 → cI c i k < 1000000 → (fI tt i < 1000000 ↔ fI tt k < 1000000) := fun i k hi hk w => ⟨fun z => cl_q hH.1 hL hi hk w z, fun z => cl_q hH.1 hL hk hi (by rw [← hH.1.2.1 i hi k hk]; exact w) z⟩
  have hC : ∀ i k, i < 12 → k < 12 → cI c i k < 1000000 → (fun v => decide (¬ fI tt v < 1000000)) i = (fun v => decide (¬ fI tt v < 1000000)) k := fun i k hi hk w => decide_eq_decide.mpr (not_congr (cl i k hi hk w))
  refine ⟨_, hC, ?_⟩
  show sI (fun v => if decide (¬ fI tt v < 1000000) = true then h0 v - w0 v else 0) 12 < 0
  rw [RF_cl (C := fun v => decide (¬ fI tt v < 1000000)) h hC]
  obtain ⟨v, hv, s⟩ := hn
  have up : ∀ i, i < 12 → (fun v => if decide (¬ fI tt v < 1000000) = true then fI lf v - fI wa v else 0) i ≤ 0 := fun i hi => by
    show (if decide (¬ fI tt i < 1000000) = true then fI lf i - fI wa i else 0) ≤ 0
    by_cases c' : decide (¬ fI tt i < 1000000) = true
    · rw [if_pos c']
      have c2 := of_decide_eq_true c'
      have a := (h.2.2.1 i hi).1
      rcases Int.lt_or_le 0 (fI lf i) with w | w
      · exfalso
        have z := hL.2.2.2.2 i hi w
        have y := hL.2.1 i hi i hi (by omega) (by rw [hH.1.1 i hi]; omega)
        rw [hH.1.1 i hi] at y
        omega
      · omega
    · rw [if_neg c']; exact Int.le_refl _
  have a := sI_neg 12 hv up
  have far : 1000000 ≤ fI tt v := by
    have := hN v hv s
    rw [le_i, far_i] at this
    exact this
  have z : (if decide (¬ fI tt v < 1000000) = true then fI lf v - fI wa v else 0) = fI lf v - fI wa v := if_pos (decide_eq_true (by omega))
  rw [z] at a
  rw [le_i, Int32.toInt_zero] at s
  have s' : 0 < fI wa v := by unfold fI; omega
  have lz : fI lf v ≤ 0 := by
    rcases Int.lt_or_le 0 (fI lf v) with w | w
    · exfalso
      have z2 := hL.2.2.2.2 v hv w
      have y := hL.2.1 v hv v hv (by omega) (by rw [hH.1.1 v hv]; omega)
      rw [hH.1.1 v hv] at y
      omega
    · exact w
  have a' : sI (fun v => if decide (¬ fI tt v < 1000000) = true then fI lf v - fI wa v else 0) 12 ≤ fI lf v - fI wa v := a
  omega
def RFf (c : Nat → Int32) (w0 h0 : Nat → Int) (r : Int32) : Prop := (r = -2 ∧ CLc c (fun v => h0 v - w0 v)) ∨ ∃ wa lf ld, RFk c w0 h0 wa lf ld r ∧ ∀ k, k < 12 → fI wa k = 0
