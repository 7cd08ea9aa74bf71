theorem TB_u {S T : Nat → Nat → Nat → Int32} {g n0 n6 m6 n2 : Nat} {a d : Int} {b : Nat → Int} {sd sg f2 f3 vs rk tb sa co ci ho du ti wm lo br wa ns : Nat → Int32} {p : Int32} (H : RR S n0 n6 n2 sd sg vs rk tb sa co ci ho du ti wm lo br wa ns) (I : IV S g n0 n6 n2 a d b) (hc : TBc S T n6 m6 p) (hm : TBm n6 m6 rk vs f2 f3 p) (hp : m6 = n6 + 1 → 1 ≤ p.toInt ∧ p.toInt ≤ 3) : RR T n0 m6 n2 sd sg f3 f2 tb sa co ci ho du ti wm lo br wa ns ∧ IV T g n0 m6 n2 a d b := by
  rcases hc with ⟨c1, c2⟩ | ⟨c1, c2⟩
  · rcases hm with ⟨_, m2, m3⟩ | ⟨m1, _⟩
    · rw [c2, c1, m2, m3]; exact ⟨H, I⟩
    · omega
  · rcases hm with ⟨m1, _⟩ | ⟨_, m2, m3, m4⟩
    · omega
    · obtain ⟨N1, N2, N3⟩ := c2
      obtain ⟨h1, h2, h3, h4, h5⟩ := H
      obtain ⟨I1, I2, I3, I4⟩ := I
      have O : ∀ c, ¬ c / 16 ∈ [28, 31, 32, 33, 38, 41, 43, 44, 45] → ¬ c = 560 → ¬ c = 96 → T c = S c := fun c k1 k2 k3 => funext fun i => N1 c i k1 (fun w => w.2.elim k2 k3)
      have O2 : ∀ c, c / 16 = 2 ∨ c / 16 = 37 → T c = S c := fun c hc => O c (by rcases hc with w | w <;> rw [w] <;> decide) (fun w => by rw [w] at hc; exact absurd hc (by decide)) (fun w => by rw [w] at hc; exact absurd hc (by decide))
      have E5 : ∀ t, ¬ t = n6 → T 560 t = S 560 t := fun t ht => N1 560 t (by decide) (fun w => ht w.1)
      have E9 : ∀ t, ¬ t = n6 → T 96 t = S 96 t := fun t ht => N1 96 t (by decide) (fun w => ht w.1)
      rw [c1]
      refine ⟨⟨RH.c h1 (O 1 (by decide) (by decide) (by decide)) (O 2 (by decide) (by decide) (by decide)), fun t ht => ?_, RQ.c h3 O2, fun r hr => ?_, RWy.c h5 (O 592 (by decide) (by decide) (by decide)) (O 593 (by decide) (by decide) (by decide)) (O 576 (by decide) (by decide) (by decide))⟩, fun r hr => ?_, fun t ht => ?_, fun y hy => IVh.cg (by rw [O 1 (by decide) (by decide) (by decide)]) (by rw [O 2 (by decide) (by decide) (by decide)]) (I3 y hy), by unfold IVl; rw [O 224 (by decide) (by decide) (by decide)]; exact I4⟩
      · by_cases q : t = n6
        · subst q
          refine ⟨by rw [m2, up_s, N2], fun s hs => by rw [m3 s hs, N3 s hs]⟩
        · refine ⟨by rw [m2, up_n q, E9 t q]; exact (h2 t (by omega)).1, fun s hs => ?_⟩
          rw [m4 _ (by omega), E5 t q]; exact (h2 t (by omega)).2 s hs
      · rw [O 36 (by decide) (by decide) (by decide)]
        intro z k hk
        obtain ⟨w, c, s, i1, i2, i3, i4, i5, hs, e1, es⟩ := IVr_st (I1 r hr)
        have e2 : sSW T r (T 37 r 0 - 1) = nI s := by
          rw [O 37 (by decide) (by decide) (by decide), sSW_c (O 593 (by decide) (by decide) (by decide)) (O 592 (by decide) (by decide) (by decide))]; exact es
        have B := h4 r hr z k hk
        rw [B, e2, es, O 40 (by decide) (by decide) (by decide)]
        by_cases q : k = n6
        · subst q
          constructor
          · intro w2; omega
          · intro w2
            have := (wv_q hs).mp w2.2
            exact absurd (N3 s hs) this.1
        · rw [wv_cg (E5 k q)]
          constructor
          · intro w2; exact ⟨by omega, w2.2⟩
          · intro w2; exact ⟨by omega, w2.2⟩
      · have R := I1 r hr
        obtain ⟨⟨t, ht, e1, e2⟩, k2, k3, k4⟩ := R
        unfold IVr
        rw [O 32 (by decide) (by decide) (by decide), O 33 (by decide) (by decide) (by decide), O 36 (by decide) (by decide) (by decide), O 37 (by decide) (by decide) (by decide), O 39 (by decide) (by decide) (by decide), O 40 (by decide) (by decide) (by decide), O 41 (by decide) (by decide) (by decide), O 576 (by decide) (by decide) (by decide), O 592 (by decide) (by decide) (by decide), O 593 (by decide) (by decide) (by decide)]
        exact ⟨⟨t, by omega, e1, by rw [E9 t (by omega)]; exact e2⟩, k2, k3, k4⟩
      · by_cases q : t = n6
        · subst q
          exact ⟨by rw [N2]; exact hp c1, fun s hs => Or.inl (N3 s hs)⟩
        · unfold IVt
          rw [E9 t q, E5 t q]; exact I2 t (by omega)
theorem CA_iv {S : Nat → Nat → Nat → Int32} {g n0 n6 n2 t s h : Nat} {b : Nat → Int} {a : Int} (I : IV S g n0 n6 n2 a (h : Int) b) (hh : h ≤ 10000) : IV (up3 S 560 t s (nI h)) g n0 n6 n2 a (h : Int) b := by
  obtain ⟨I1, I2, I3, I4⟩ := I
  have O : ∀ c, ¬ c = 560 → up3 S 560 t s (nI h) c = S c := fun c k => up3_c k
  refine ⟨fun r hr => IVr.cg (fun c hc => by rw [O c (fun w => by rw [w] at hc; exact absurd hc (by decide))]) (O 96 (by decide)) (I1 r hr), fun x hx => ⟨by rw [O 96 (by decide)]; exact (I2 x hx).1, fun y hy => ?_⟩, fun y hy => IVh.cg (by rw [O 1 (by decide)]) (by rw [O 2 (by decide)]) (I3 y hy), by unfold IVl; rw [O 224 (by decide)]; exact I4⟩
  by_cases q : x = t
  · subst q
    by_cases z : y = s
    · rw [z, up3_s, nI_toInt (by omega)]; exact Or.inr ⟨by omega, by omega⟩
    · rw [up3_n z]; exact (I2 x hx).2 y hy
  · rw [up3_o (fun w => q w.2)]; exact (I2 x hx).2 y hy
