theorem cv_alt {T : Nat → Nat → Nat → Int32} {n : Nat} {a b lf hr : Int32} : ∀ k t s, cvK T n a b lf hr k 560 t s = T 560 t s ∨ (T 560 t s = -1 ∧ cvK T n a b lf hr k 560 t s = hr)
  | 0, _, _ => Or.inl rfl
  | k + 1, t, s => by
    have ih := cv_alt (T := T) (n := n) (a := a) (b := b) (lf := lf) (hr := hr) k t s
    show cv1 (cvK T n a b lf hr k) n a b lf hr k 560 t s = _ ∨ (_ ∧ cv1 (cvK T n a b lf hr k) n a b lf hr k 560 t s = _)
    by_cases q : t = k
    · subst q
      have e : cvK T n a b lf hr t 560 t = T 560 t := cvK_o t (Nat.le_refl _)
      unfold cv1
      split
      · split
        · rw [e]; exact Or.inl rfl
        · unfold tvS
          split
          · rw [e]; exact Or.inl rfl
          · split
            · rename_i c
              by_cases z : s = b.toNatClampNeg
              · subst z
                rw [up3_s]
                rw [e] at c
                exact Or.inr ⟨c, rfl⟩
              · rw [up3_n z, e]; exact Or.inl rfl
            · rw [e]; exact Or.inl rfl
      · rw [e]; exact Or.inl rfl
    · rw [cv1_o q]; exact ih
theorem wv_v {S T : Nat → Nat → Nat → Int32} {k s : Nat} {d v : Int32} (hs : s < 12) (h : T 560 k s = S 560 k s ∨ (S 560 k s = -1 ∧ T 560 k s = v)) (hd : d < v) : (¬ wvS T k (nI s) d = 0) ↔ (¬ wvS S k (nI s) d = 0) := by
  rw [wv_q hs, wv_q hs]
  rcases h with h | ⟨h1, h2⟩
  · rw [h]
  · rw [h1, h2]
    exact ⟨fun w => absurd hd w.2, fun w => absurd rfl w.1⟩
theorem IVr_st {S : Nat → Nat → Nat → Int32} {n0 n6 r : Nat} {a b : Int} (H : IVr S n0 n6 r a b) : ∃ w c s, S 593 r 0 = nI w ∧ S 37 r 0 = nI c ∧ 1 ≤ c ∧ c ≤ w ∧ w ≤ 12 ∧ s < 12 ∧ S 592 r (c - 1) = nI s ∧ sSW S r (S 37 r 0 - 1) = nI s := by
  obtain ⟨_, ⟨w, c, i1, i2, i3, i4, i5, i6, i7, i8, i9⟩, _, _⟩ := H
  obtain ⟨s, hs, e⟩ := i6 (c - 1) (by omega)
  refine ⟨w, c, s, i1, i2, i3, i4, i5, hs, e, ?_⟩
  have e1 : nI c - 1 = nI (c - 1) := by
    rw [show c = (c - 1) + 1 by omega, ← nI_1 (c - 1), Int32.add_sub_cancel]
    rw [show c - 1 + 1 - 1 = c - 1 by omega]
  rw [i2, e1, sSW_i i1 i5 (by omega), e]
theorem IVr_nx {S : Nat → Nat → Nat → Int32} {n0 n6 r : Nat} {a b : Int} (H : IVr S n0 n6 r a b) (c : S 36 r 0 = 0 ∨ ¬ S 39 r 0 = -1) : ∃ w c o, S 593 r 0 = nI w ∧ S 37 r 0 = nI c ∧ c < w ∧ w ≤ 12 ∧ o < 12 ∧ S 592 r c = nI o ∧ sSW S r (S 37 r 0) = nI o ∧ S 576 r o = -1 := by
  obtain ⟨_, ⟨w, k, i1, i2, i3, i4, i5, i6, i7, i8, i9⟩, _, _⟩ := H
  have hk := i9 c
  obtain ⟨o, ho, e⟩ := i6 k hk
  refine ⟨w, k, o, i1, i2, hk, i5, ho, e, by rw [i2, sSW_i i1 i5 hk, e], ?_⟩
  by_cases q : S 576 r o = -1
  · exact q
  · exfalso
    obtain ⟨i, hi, e2⟩ := i8 o ho q
    exact i7 i k hi hk (e2.trans e.symm)
theorem mul_rng {x y : Int32} (h1 : 0 ≤ x.toInt ∧ x.toInt ≤ 50) (h2 : 0 ≤ y.toInt ∧ y.toInt ≤ 48) : 0 ≤ (x * y).toInt ∧ (x * y).toInt < 2 ^ 30 := by
  have a : 0 ≤ x.toInt * y.toInt := Int.mul_nonneg h1.1 h2.1
  have b : x.toInt * y.toInt ≤ 50 * 48 := Int.mul_le_mul h1.2 h2.2 h2.1 (by decide)
  rw [Int32.toInt_mul, bm32 (by omega) (by omega)]
  omega
theorem IVh.br {S : Nat → Nat → Nat → Int32} {g r h o y : Nat} (H : IVh S y) (ho : o < 12) (hl : IVl S g) (ht : 0 ≤ (S 41 r 0).toInt ∧ (S 41 r 0).toInt ≤ 48) : IVh (brT S g r h (nI o)) y := by
  unfold brT wkS
  by_cases q : y = h
  · subst q
    refine ⟨Or.inr ⟨o, ho, ?_⟩, ?_⟩
    · rw [up3_c (by decide), up3_s]
    · rw [up3_c (by decide), up3_c (by decide), up3_s]
      exact wk_rng H.2 (mul_rng (hl.2 0 (by decide)) ht)
  · exact IVh.cg (by rw [up3_c (by decide), up3_o (fun w => q w.2), up3_c (by decide)]) (by rw [up3_c (by decide), up3_c (by decide), up3_o (fun w => q w.2)]) H
theorem IV.br4 {S : Nat → Nat → Nat → Int32} {g n0 n6 n2 r h o : Nat} {a d : Int} {b b2 : Nat → Int} (H : IV S g n0 n6 n2 a d b) (hr : r < n2) (ho : o < 12) (c : ¬ S 36 r 0 = 1) (c9 : ¬ S 39 r 0 = -1) (hb : ∀ x, x < n2 → ¬ x = r → b2 x = b x) : IV (brT S g r h (nI o)) g n0 n6 n2 a d b2 := by
  obtain ⟨H1, H2, H3, H4⟩ := H
  have R := H1 r hr
  refine ⟨fun x hx => ?_, fun t ht => ?_, fun y hy => ?_, ?_⟩
  · by_cases q : x = r
    · subst q
      obtain ⟨h1, h2, h3, h4⟩ := R
      unfold IVr
      rw [brT_39, brT_c (c := 32) (by decide) (by decide) (by decide), brT_c (c := 33) (by decide) (by decide) (by decide), brT_c (c := 96) (by decide) (by decide) (by decide), brT_c (c := 36) (by decide) (by decide) (by decide), brT_c (c := 37) (by decide) (by decide) (by decide), brT_c (c := 40) (by decide) (by decide) (by decide), brT_c (c := 41) (by decide) (by decide) (by decide), brT_c (c := 576) (by decide) (by decide) (by decide), brT_c (c := 592) (by decide) (by decide) (by decide), brT_c (c := 593) (by decide) (by decide) (by decide)]
      obtain ⟨w, k, i1, i2, i3, i4, i5, i6, i7, i8, i9⟩ := h2
      exact ⟨h1, ⟨w, k, i1, i2, i3, i4, i5, i6, i7, i8, fun _ => i9 (Or.inr c9)⟩, fun z => absurd z c, fun z => absurd rfl z⟩
    · rw [hb x hx q]
      refine IVr.cg (fun k hk => ?_) (brT_c (by decide) (by decide) (by decide)) (H1 x hx)
      unfold brT wkS
      rw [up3_o (fun w => q w.2), up3_c (fun w => by rw [w] at hk; exact absurd hk (by decide)), up3_c (fun w => by rw [w] at hk; exact absurd hk (by decide))]
  · exact IVt.cg (brT_c (by decide) (by decide) (by decide)) (by rw [brT_c (by decide) (by decide) (by decide)]) (H2 t ht)
  · exact IVh.br (H3 y hy) ho H4 (by have := (R.2.2.2 c9).2.2; omega)
  · unfold IVl; rw [brT_c (by decide) (by decide) (by decide)]; exact H4
theorem IV.br1 {S : Nat → Nat → Nat → Int32} {g n0 n6 n2 r h o s c w H0 : Nat} {a : Int} {b b2 : Nat → Int} (H : IV S g n0 n6 n2 a (H0 : Int) b) (hr : r < n2) (hn6 : n6 ≤ 20) (ho : o < 12) (hs : s < 12) (hH : H0 ≤ 10000) (c1 : S 36 r 0 = 1) (eo : sSW S r (S 37 r 0) = nI o) (ec : S 37 r 0 = nI c) (ew : S 593 r 0 = nI w) (hc : c < w) (hw : w ≤ 12) (e592 : S 592 r c = nI o) (hb : ∀ x, x < n2 → ¬ x = r → b2 x = b x) : IV (cmS (cvK (brT S g r h (nI o)) n6 (nI s) (nI o) (S 40 r 0) (nI H0) n6) r (nI H0)) g n0 n6 n2 a (H0 : Int) b2 := by
  obtain ⟨H1, H2, H3, H4⟩ := H
  have R := H1 r hr
  have c9 := R.2.2.1 c1
  have E : ∀ k, ¬ k = 560 → ¬ k = 39 → ¬ k = 1 → ¬ k = 2 → cvK (brT S g r h (nI o)) n6 (nI s) (nI o) (S 40 r 0) (nI H0) n6 k = S k := fun k k1 k2 k3 k4 => by
    rw [cvK_c k1, brT_c k2 k3 k4]
  have eo2 : sSW (cvK (brT S g r h (nI o)) n6 (nI s) (nI o) (S 40 r 0) (nI H0) n6) r ((cvK (brT S g r h (nI o)) n6 (nI s) (nI o) (S 40 r 0) (nI H0) n6) 37 r 0) = nI o := by
    rw [E 37 (by decide) (by decide) (by decide) (by decide), sSW_c (E 593 (by decide) (by decide) (by decide) (by decide)) (E 592 (by decide) (by decide) (by decide) (by decide))]; exact eo
  rw [cm_e ho eo2 (by rw [E 37 (by decide) (by decide) (by decide) (by decide)]; exact ec) (by rw [E 593 (by decide) (by decide) (by decide) (by decide)]; exact ew) hc hw]
  have hV4 : ∀ t, t < n6 → ∀ y, y < 12 → cvK (brT S g r h (nI o)) n6 (nI s) (nI o) (S 40 r 0) (nI H0) n6 560 t y = -1 ∨ (0 ≤ (cvK (brT S g r h (nI o)) n6 (nI s) (nI o) (S 40 r 0) (nI H0) n6 560 t y).toInt ∧ (cvK (brT S g r h (nI o)) n6 (nI s) (nI o) (S 40 r 0) (nI H0) n6 560 t y).toInt ≤ H0) := fun t ht y hy => by
    rcases cv_alt (T := brT S g r h (nI o)) (n := n6) (a := nI s) (b := nI o) (lf := S 40 r 0) (hr := nI H0) n6 t y with e | ⟨_, e⟩
    · rw [e, brT_c (by decide) (by decide) (by decide)]; exact (H2 t ht).2 y hy
    · rw [e, nI_toInt (by omega)]; exact Or.inr ⟨by omega, by omega⟩
  generalize hV : cvK (brT S g r h (nI o)) n6 (nI s) (nI o) (S 40 r 0) (nI H0) n6 = V at E eo2 hV4 ⊢
  have V39 : V 39 = brT S g r h (nI o) 39 := by rw [← hV, cvK_c (by decide)]
  have V1 : V 1 = brT S g r h (nI o) 1 := by rw [← hV, cvK_c (by decide)]
  have V2 : V 2 = brT S g r h (nI o) 2 := by rw [← hV, cvK_c (by decide)]
  refine ⟨fun x hx => ?_, fun t ht => ?_, fun y hy => ?_, ?_⟩
  · by_cases q : x = r
    · subst q
      obtain ⟨h1, ⟨w2, k2, i1, i2, i3, i4, i5, i6, i7, i8, i9⟩, h3, h4⟩ := R
      have ek : k2 = c := nI_inJ (i2.symm.trans ec) (by omega) (by omega)
      have ew2 : w2 = w := nI_inJ (i1.symm.trans ew) (by omega) (by omega)
      subst ek; subst ew2
      unfold IVr
      refine ⟨?_, ⟨w2, k2 + 1, ?_, ?_, by omega, by omega, i5, ?_, ?_, ?_, ?_⟩, fun z => ?_, fun z => ?_⟩
      · rw [up3_c (c' := 32) (by decide), up3_c (c' := 32) (by decide), up3_c (c' := 32) (by decide), up3_c (c' := 32) (by decide), up3_c (c' := 33) (by decide), up3_c (c' := 33) (by decide), up3_c (c' := 33) (by decide), up3_c (c' := 33) (by decide), up3_c (c' := 96) (by decide), up3_c (c' := 96) (by decide), up3_c (c' := 96) (by decide), up3_c (c' := 96) (by decide), E 32 (by decide) (by decide) (by decide) (by decide), E 33 (by decide) (by decide) (by decide) (by decide), E 96 (by decide) (by decide) (by decide) (by decide)]; exact h1
      · rw [up3_c (by decide), up3_c (by decide), up3_c (by decide), up3_c (by decide), E 593 (by decide) (by decide) (by decide) (by decide)]; exact ew
      · rw [up3_c (by decide), up3_s]
      · intro k hk; rw [up3_c (by decide), up3_c (by decide), up3_c (by decide), up3_c (by decide), E 592 (by decide) (by decide) (by decide) (by decide)]; exact i6 k hk
      · intro i j hij hj; rw [up3_c (by decide), up3_c (by decide), up3_c (by decide), up3_c (by decide), E 592 (by decide) (by decide) (by decide) (by decide)]; exact i7 i j hij hj
      · intro y hy hne
        rw [up3_c (c' := 592) (by decide), up3_c (c' := 592) (by decide), up3_c (c' := 592) (by decide), up3_c (c' := 592) (by decide), E 592 (by decide) (by decide) (by decide) (by decide)]
        by_cases z : y = o
        · subst z; exact ⟨k2, by omega, e592⟩
        · rw [up3_c (c' := 576) (by decide), up3_c (c' := 576) (by decide), up3_c (c' := 576) (by decide), up3_n z, E 576 (by decide) (by decide) (by decide) (by decide)] at hne
          obtain ⟨i, hi, e⟩ := i8 y hy hne
          exact ⟨i, by omega, e⟩
      · intro z
        rw [up3_s, up3_c (c' := 39) (by decide), up3_c (c' := 39) (by decide), up3_c (c' := 39) (by decide), up3_c (c' := 39) (by decide), V39, brT_39] at z
        rcases z with z | z
        · by_cases q2 : k2 + 1 = w2
          · rw [if_pos q2] at z; exact absurd z (by decide)
          · omega
        · exact absurd rfl z
      · rw [up3_s] at z
        by_cases q2 : k2 + 1 = w2
        · rw [if_pos q2] at z; exact absurd z (by decide)
        · rw [if_neg q2] at z; exact absurd z (by decide)
      · rw [up3_c (c' := 39) (by decide), up3_c (c' := 39) (by decide), up3_c (c' := 39) (by decide), up3_c (c' := 39) (by decide), V39, brT_39] at z; exact absurd rfl z
    · rw [hb x hx q]
      refine IVr.cg (fun k hk => ?_) ?_ (H1 x hx)
      · rw [up3_o (fun w => q w.2), up3_o (fun w => q w.2), up3_o (fun w => q w.2), up3_o (fun w => q w.2), ← hV, cvK_c (fun w => by rw [w] at hk; exact absurd hk (by decide))]
        unfold brT wkS
        rw [up3_o (fun w => q w.2), up3_c (fun w => by rw [w] at hk; exact absurd hk (by decide)), up3_c (fun w => by rw [w] at hk; exact absurd hk (by decide))]
      · rw [up3_c (by decide), up3_c (by decide), up3_c (by decide), up3_c (by decide), E 96 (by decide) (by decide) (by decide) (by decide)]
  · refine ⟨?_, fun y hy => ?_⟩
    · rw [up3_c (by decide), up3_c (by decide), up3_c (by decide), up3_c (by decide), E 96 (by decide) (by decide) (by decide) (by decide)]; exact (H2 t ht).1
    · rw [up3_c (by decide), up3_c (by decide), up3_c (by decide), up3_c (by decide)]; exact hV4 t ht y hy
  · refine IVh.cg ?_ ?_ (IVh.br (r := r) (h := h) (g := g) (H3 y hy) ho H4 (by have := (R.2.2.2 c9).2.2; omega))
    · rw [up3_c (by decide), up3_c (by decide), up3_c (by decide), up3_c (by decide), V1]
    · rw [up3_c (by decide), up3_c (by decide), up3_c (by decide), up3_c (by decide), V2]
  · unfold IVl; rw [up3_c (by decide), up3_c (by decide), up3_c (by decide), up3_c (by decide), E 224 (by decide) (by decide) (by decide) (by decide)]; exact H4
