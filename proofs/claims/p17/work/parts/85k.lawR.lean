theorem IVr.n0 {S : Nat → Nat → Nat → Int32} {n0 m0 n6 m6 r : Nat} {a b : Int} (H : IVr S n0 n6 r a b) (h : n0 ≤ m0) (h6 : n6 ≤ m6) : IVr S m0 m6 r a b := by
  obtain ⟨⟨t, ht, e⟩, h2, h3, h4⟩ := H
  refine ⟨⟨t, by omega, e⟩, h2, h3, fun q => ?_⟩
  obtain ⟨i1, ⟨x, hx, ex⟩, i3⟩ := h4 q
  exact ⟨i1, ⟨x, by omega, ex⟩, i3⟩
theorem HO_u {S T : Nat → Nat → Nat → Int32} {g n0 m0 n6 n2 : Nat} {a d : Int} {b : Nat → Int} {sd sg f2 f3 vs rk tb sa co ci ho du ti wm lo br wa ns : Nat → Int32} {p q : Int32} (H : RR S n0 n6 n2 sd sg vs rk tb sa co ci ho du ti wm lo br wa ns) (I : IV S g n0 n6 n2 a d b) (hc : HOc S T n0 m0 p q) (hm : HOm n0 m0 sd sg f3 f2 p q) (hp : m0 = n0 + 1 → ¬ sp_st p = 0 ∧ 0 ≤ q.toInt ∧ q.toInt ≤ 100) : RR T m0 n6 n2 f3 f2 vs rk tb sa co ci ho du ti wm lo br wa ns ∧ IV T g m0 n6 n2 a d b := by
  rcases hc with ⟨c1, c2⟩ | ⟨c1, c2⟩
  · rcases hm with ⟨_, m2, m3⟩ | ⟨m1, _, _⟩
    · rw [c2, c1, m2, m3]; exact ⟨H, I⟩
    · omega
  · rcases hm with ⟨m1, _, _⟩ | ⟨_, m2, m3⟩
    · omega
    · obtain ⟨h1, h2, h3, h4, h5⟩ := H
      obtain ⟨I1, I2, I3, I4⟩ := I
      have E : ∀ c, ¬ c = 1 → ¬ c = 2 → T c = S c := fun c k1 k2 => by rw [c2, upC_c k2, upC_c k1]
      have E2 : ∀ c, c / 16 = 2 ∨ c / 16 = 37 → T c = S c := fun c hc => E c (fun w => by rw [w] at hc; exact absurd hc (by decide)) (fun w => by rw [w] at hc; exact absurd hc (by decide))
      have T1 : ∀ h, T 1 h 0 = if h = n0 then p else S 1 h 0 := fun h => by
        rw [c2, upC_c (by decide)]
        by_cases z : h = n0
        · rw [if_pos z, z, upC_s]
        · rw [if_neg z, upC_o (fun w => z w.2)]
      have T2 : ∀ h, T 2 h 0 = if h = n0 then q else S 2 h 0 := fun h => by
        rw [c2]
        by_cases z : h = n0
        · rw [if_pos z, z, upC_s]
        · rw [if_neg z, upC_o (fun w => z w.2), upC_c (by decide)]
      refine ⟨⟨fun h hh => ?_, RT.c h2 (E 96 (by decide) (by decide)) (E 560 (by decide) (by decide)), RQ.c h3 E2, RBr_c h4 (fun r _ c hc => by rw [E2 c hc]) (E 560 (by decide) (by decide)), RWy.c h5 (E 592 (by decide) (by decide)) (E 593 (by decide) (by decide)) (E 576 (by decide) (by decide))⟩, fun r hr => ?_, fun t ht => ?_, fun h hh => ?_, ?_⟩
      · rw [T1 h, T2 h, m2, m3]
        by_cases z : h = n0
        · rw [z, up_s, up_s, if_pos rfl, if_pos rfl]; exact ⟨rfl, rfl⟩
        · rw [up_n z, up_n z, if_neg z, if_neg z]; exact h1 h (by omega)
      · exact (IVr.cg (fun c hc => by rw [E c (fun w => by rw [w] at hc; exact absurd hc (by decide)) (fun w => by rw [w] at hc; exact absurd hc (by decide))]) (E 96 (by decide) (by decide)) (I1 r hr)).n0 (by omega) (Nat.le_refl _)
      · exact IVt.cg (E 96 (by decide) (by decide)) (by rw [E 560 (by decide) (by decide)]) (I2 t ht)
      · unfold IVh
        rw [T1 h, T2 h]
        by_cases z : h = n0
        · rw [if_pos z, if_pos z]
          obtain ⟨k1, k2⟩ := hp c1
          obtain ⟨s, hs, e⟩ := st_of k1
          exact ⟨Or.inr ⟨s, hs, e⟩, k2⟩
        · rw [if_neg z, if_neg z]; exact I3 h (by omega)
      · unfold IVl; rw [E 224 (by decide) (by decide)]; exact I4
theorem ow_e {S : Nat → Nat → Nat → Int32} {r : Nat} {x : Int32} (h : x = S 36 r 0) : ow x = sUW S r := by
  rw [h]; rfl
theorem KL_u {S : Nat → Nat → Nat → Int32} {g n0 n6 n2 : Nat} {a d : Int} {b : Nat → Int} {sd sg vs rk tb sa co ci ho du ti wm lo br wa ns f_st f_lo : Nat → Int32} {p rv : Int32} (H : RR S n0 n6 n2 sd sg vs rk tb sa co ci ho du ti wm lo br wa ns) (I : IV S g n0 n6 n2 a d b) (hn : n2 ≤ 60) (hm : KLm n2 sa lo f_st f_lo p rv) : rv = klR S n2 p ∧ RR (klS S n2 p) n0 n6 n2 sd sg vs rk tb f_st co ci ho du ti wm f_lo br wa ns ∧ IV (klS S n2 p) g n0 n6 n2 a d b := by
  rcases hm with ⟨m1, m2, m3, m4⟩ | ⟨m1, r, hr, e, m2, m3, x, m4, m5⟩
  · have e : klS S n2 p = S ∧ klR S n2 p = 0 := by
      unfold klS klR
      rcases m4 with m4 | ⟨r, hr, e, m4⟩
      · rw [if_pos (hOf_0 m4), if_pos (hOf_0 m4)]; exact ⟨rfl, rfl⟩
      · rw [e, hOf_i hr (by omega), nI_clamp (by omega), if_neg (nI_m (by omega)), if_neg (nI_m (by omega))]
        rw [ow_e (H.2.2.1 r hr).2.1] at m4
        rw [if_pos m4, if_pos m4]; exact ⟨rfl, rfl⟩
    rw [e.1, e.2, m1, m2, m3]; exact ⟨rfl, H, I⟩
  · have e2 : klS S n2 p = up3 S 36 r 0 4 ∧ klR S n2 p = 1 := by
      unfold klS klR
      rw [e, hOf_i hr (by omega), nI_clamp (by omega), if_neg (nI_m (by omega)), if_neg (nI_m (by omega))]
      rw [ow_e (H.2.2.1 r hr).2.1] at m2
      rw [if_neg m2, if_neg m2]; exact ⟨rfl, rfl⟩
    obtain ⟨h1, h2, h3, h4, h5⟩ := H
    obtain ⟨I1, I2, I3, I4⟩ := I
    have q := h3 r hr
    have R := I1 r hr
    have E : ∀ c, ¬ c = 36 → up3 S 36 r 0 4 c = S c := fun c k => up3_c k
    rw [e2.1, e2.2, m1, m3, m4]
    refine ⟨rfl, ⟨RH.c h1 (E 1 (by decide)) (E 2 (by decide)), RT.c h2 (E 96 (by decide)) (E 560 (by decide)), ?_, ?_, RWy.c h5 (E 592 (by decide)) (E 593 (by decide)) (E 576 (by decide))⟩, fun y hy => ?_, fun t ht => IVt.cg (E 96 (by decide)) (by rw [E 560 (by decide)]) (I2 t ht), fun y hy => IVh.cg (by rw [E 1 (by decide)]) (by rw [E 2 (by decide)]) (I3 y hy), by unfold IVl; rw [E 224 (by decide)]; exact I4⟩
    · have K := RQ.u (T := up3 S 36 r 0 4) (r0 := r) (s1 := 4) (c1 := co r) (i1 := ci r) (h1 := ho r) (d1 := du r) (t1 := ti r) (l1 := x) h3 (fun y z c _ => up3_o (fun w => z w.2)) (by
        obtain ⟨a1, a2, a3, a4, a5, a6, a7, a8, a9⟩ := q
        unfold RQr
        rw [E 32 (by decide), up3_s, E 37 (by decide), E 38 (by decide), E 39 (by decide), E 40 (by decide), E 41 (by decide), E 593 (by decide)]
        refine ⟨a1, rfl, a3, a4, a5, a6, a7, a8, fun w => ⟨rfl, ?_⟩, fun w => ?_⟩
        · have z := m5.mp w
          rw [a2] at z; exact R.2.2.1 z
        · rw [m5, a2]
          rcases (R.2.2.2 w.2).1 with z | z
          · exact z
          · exfalso
            rw [a2] at m2
            unfold ow at m2
            rw [z, if_neg (by decide), if_neg (by decide)] at m2
            exact m2 rfl)
      rw [upd_id, upd_id, upd_id, upd_id, upd_id] at K
      exact K
    · have K := RBr_o (T := up3 S 36 r 0 4) (r0 := r) (x := br r) h4 (fun y _ z c _ => up3_o (fun w => z w.2)) (E 560 (by decide)) (fun w => by rw [up3_s] at w; exact absurd w (by decide))
      rw [upd_id] at K; exact K
    · by_cases z : y = r
      · subst z
        obtain ⟨k1, ⟨w, c, i1, i2, i3, i4, i5, i6, i7, i8, i9⟩, k3, k4⟩ := R
        unfold IVr
        rw [up3_s, E 32 (by decide), E 33 (by decide), E 96 (by decide), E 37 (by decide), E 39 (by decide), E 40 (by decide), E 41 (by decide), E 576 (by decide), E 592 (by decide), E 593 (by decide)]
        refine ⟨k1, ⟨w, c, i1, i2, i3, i4, i5, i6, i7, i8, fun v => ?_⟩, fun v => absurd v (by decide), fun v => ⟨Or.inr rfl, (k4 v).2⟩⟩
        rcases v with v | v
        · exact absurd v (by decide)
        · exact i9 (Or.inr v)
      · exact IVr.cg (fun c _ => up3_o (fun w => z w.2)) (E 96 (by decide)) (I1 y hy)
