theorem RD_u {S T : Nat → Nat → Nat → Int32} {g n0 n6 n2 m2 r2 : Nat} {a d : Int} {b : Nat → Int} {sd sg vs rk tb sa co ci ho du ti wm lo br wa ns f_tb f_st f_wa f_wm f_co f_ci f_ho f_ns : Nat → Int32} {p0 p1 p2 hr rc rm : Int32} (H : RR S n0 n6 n2 sd sg vs rk tb sa co ci ho du ti wm lo br wa ns) (I : IV S g n0 n6 n2 a d b) (hrg : RgS S) (hn2 : n2 ≤ 60) (hn6 : n6 ≤ 20) (hl : n2 < 60 → lo n2 = 0) (C : RDc S T n2 m2 n6 p0 p1 p2 hr rc) (M : RDm S n2 r2 n6 p0 p1 p2 hr rm tb sa wa wm co ci ho ns f_tb f_st f_wa f_wm f_co f_ci f_ho f_ns) : (rc = rm ∧ m2 = r2) ∧ RR T n0 n6 m2 sd sg vs rk f_tb f_st f_co f_ci f_ho du ti f_wm lo br f_wa f_ns ∧ IV T g n0 n6 m2 a d b := by
  have Y : ∀ {t u v n : Nat} {p : Nat → Nat} {f : Nat → Int32}, n2 < 60 → (∀ k, k < n2 → tb k = p0 → ow (sa k) = 0) → t < n6 → u < 12 → v < 12 → p0 = nI t → p1 = nI u → p2 = nI v → L1 (hF S) (sF S) v f → FXa (hF S) (sF S) f → (f u).toInt < 1000000 → PT S f u v n p → p n = v → n ≤ 11 → RDyes S n6 n2 t u v n p p0 p1 p2 := fun {t u v n p f} h1 h2 h3 h4 h5 h6 h7 h8 h9 h10 h11 h12 h13 h14 => ⟨h1, fun q hq e => by
    have r := H.2.2.1 q hq
    rw [← ow_e r.2.1]; exact h2 q hq (r.1.trans e), h3, h6, h4, h5, h7, h8, h14, h13, f, h9, h10, h11, h12⟩
  rcases C with ⟨c1, c2, c3, c4⟩ | ⟨c1, c2, c3, ⟨t, ht, et, w, u0, aa, c5, c6, c7, c8, c9, d1, d2, d3, d4, d5, d6, d7, d8, d9, e1, e2⟩, c10⟩
  · rcases M with ⟨m1, m3, q1, q2, q3, q4, q5, q6, q7, q8, _⟩ | ⟨m1, m3, m4, m5, t, u, v, n, p, f, k1, k2, k3, k4, k5, k6, k7, k8, k9, l1, l2, l3, _⟩
    · rw [c1, c2, m1, m3, q1, q2, q3, q4, q5, q6, q7, q8]
      exact ⟨⟨rfl, rfl⟩, RR.ag H c3, IV.ag I c3⟩
    · exact (RD_ex hrg hn6 c4 (Y m4 m5 k1 k2 k3 k4 k5 k6 k7 k8 k9 l1 l2 l3)).elim
  · obtain ⟨u, v, f, x1, x2, x3, x4, x5, x6, x7, pp, n, y1, y2, y3, y4, y5⟩ := c5
    have e0 : p0 = nI t := by
      unfold hOf at et
      by_cases z1 : p0 < 0
      · rw [if_pos z1] at et; exact absurd et.symm (nI_m (by omega))
      · rw [if_neg z1] at et
        by_cases z2 : nI n6 ≤ p0
        · rw [if_pos z2] at et; exact absurd et.symm (nI_m (by omega))
        · rw [if_neg z2] at et; exact et
    have YC : RDyes S n6 n2 t u v n pp p0 p1 p2 := ⟨c3, c10, ht, e0, x1, x2, x3, x4, y2, y4, f, x5, x6, x7, y3⟩
    rcases M with ⟨m1, m3, _, _, _, _, _, _, _, _, m4⟩ | ⟨m1, m3, m4, m5, t', u', v', n', p', f', k1, k2, k3, k4, k5, k6, k7, k8, k9, l1, l2, l3, l4, l5, l6, l7, l8, l9, s1, s2, s3, s4⟩
    · refine (RD_ex hrg hn6 ?_ YC).elim
      rcases m4 with m4 | m4 | m4 | ⟨k, hk, z1, z2⟩ | m4
      · exact Or.inl m4
      · exact Or.inr (Or.inl (hOf_0 m4))
      · exact Or.inr (Or.inr (Or.inr (Or.inl m4)))
      · have r := H.2.2.1 k hk
        exact Or.inr (Or.inr (Or.inl ⟨k, hk, r.1.symm.trans z1, by rw [← ow_e r.2.1]; exact z2⟩))
      · exact Or.inr (Or.inr (Or.inr (Or.inr m4)))
    · have YM := Y m4 m5 k1 k2 k3 k4 k5 k6 k7 k8 k9 l1 l2 l3
      obtain ⟨g1, g2, g3, g4, g5⟩ := RD_eq hrg hn6 YC YM
      subst g1; subst g2; subst g3; subst g4
      have eu : u0 = u := by
        have z := y5 0 (by omega)
        rw [c7, y3.1] at z
        exact nI_inJ z (by omega) (by omega)
      subst eu
      have st36 : T 36 n2 0 = if n = 0 then 2 else 0 := by
        rw [d3, y1]
        by_cases z : n = 0
        · rw [if_pos z, if_pos (by rw [z]; decide)]
        · rw [if_neg z, if_neg (by rw [show (1 : Int32) = nI 1 from rfl]; exact nI_ge (by omega) (by omega))]
      have t592 : ∀ j, j ≤ n → T 592 n2 j = nI (pp j) := fun j hj => by rw [e1]; exact y5 j hj
      have t593 : T 593 n2 0 = nI (n + 1) := by rw [e2, y1]
      refine ⟨⟨by rw [c2, m3], by rw [c1, m1]⟩, ?_, ?_⟩
      · rw [c1]
        refine RR_r (n := n) (u := u0) (p := pp) (p0 := p0) (hr := hr) (st := if n = 0 then 2 else 0) H (hl c3) c9 d1 st36 ?_ ?_ d4 d5 d6 d9 t592 t593 y2 l6 s2 l8 l9 s1 l7 (fun j hj => by rw [l4 j hj, g5 j hj]) l5 s3 s4
        · split <;> decide
        · split <;> decide
      · rw [c1]
        exact IV_r (f := f) (st := 0) I c9 hrg x5 x7 y3 y2 ht e0 d1 d2 st36 d4 d6 d9 t592 t593
theorem FO_u {S : Nat → Nat → Nat → Int32} {fo f2 : Nat → Int32} {p0 p1 rv : Int32} (H : RFo S fo) (h1 : rv = (if sp_st p0 = 0 then -1 else if p1 < 1 then -1 else if 10000 < p1 then -1 else if fo p0.toNatClampNeg + p1 ≤ 100000 then fo p0.toNatClampNeg + p1 else -1)) (h2 : f2 = (if sp_st p0 = 0 then fo else if p1 < 1 then fo else if 10000 < p1 then fo else if fo p0.toNatClampNeg + p1 ≤ 100000 then upd fo p0.toNatClampNeg (fo p0.toNatClampNeg + p1) else fo)) : fdR S p0 p1 = rv ∧ RFo (fdS S p0 p1) f2 := by
  rw [h1, h2]
  unfold fdR fdS
  by_cases c1 : sp_st p0 = 0
  · rw [if_pos c1, if_pos c1, if_pos c1, if_pos c1]; exact ⟨rfl, H⟩
  · rw [if_neg c1, if_neg c1, if_neg c1, if_neg c1]
    obtain ⟨s, hs, rfl⟩ := st_of c1
    rw [nI_clamp (by omega), H s hs]
    by_cases c2 : p1 < 1
    · rw [if_pos c2, if_pos c2, if_pos c2]; exact ⟨rfl, H⟩
    · rw [if_neg c2, if_neg c2, if_neg c2]
      by_cases c3 : 10000 < p1
      · rw [if_pos c3, if_pos c3, if_pos c3]; exact ⟨rfl, H⟩
      · rw [if_neg c3, if_neg c3, if_neg c3]
        by_cases c4 : S 480 0 s + p1 ≤ 100000
        · rw [if_pos c4, if_pos c4, if_pos c4]; exact ⟨rfl, RFo.u H⟩
        · rw [if_neg c4, if_neg c4, if_neg c4]; exact ⟨rfl, H⟩
theorem RR.k {S T : Nat → Nat → Nat → Int32} {n0 n6 n2 : Nat} {sd sg vs rk tb sa co ci ho du ti wm lo br wa ns : Nat → Int32} (H : RR S n0 n6 n2 sd sg vs rk tb sa co ci ho du ti wm lo br wa ns) (h : ∀ c, c / 16 = 0 ∨ c / 16 = 2 ∨ c / 16 = 6 ∨ c / 16 = 35 ∨ c / 16 = 36 ∨ c / 16 = 37 → T c = S c) : RR T n0 n6 n2 sd sg vs rk tb sa co ci ho du ti wm lo br wa ns := by
  obtain ⟨h1, h2, h3, h4, h5⟩ := H
  have E2 : ∀ c, c / 16 = 2 ∨ c / 16 = 37 → T c = S c := fun c hc => h c (by omega)
  exact ⟨RH.c h1 (h 1 (by decide)) (h 2 (by decide)), RT.c h2 (h 96 (by decide)) (h 560 (by decide)), RQ.c h3 E2, RBr_c h4 (fun r _ c hc => by rw [E2 c hc]) (h 560 (by decide)), RWy.c h5 (h 592 (by decide)) (h 593 (by decide)) (h 576 (by decide))⟩
theorem IV.k {S T : Nat → Nat → Nat → Int32} {g g2 n0 n6 n2 : Nat} {a d : Int} {b : Nat → Int} (H : IV S g n0 n6 n2 a d b) (h : ∀ c, c / 16 = 0 ∨ c / 16 = 2 ∨ c / 16 = 6 ∨ c / 16 = 35 ∨ c / 16 = 36 ∨ c / 16 = 37 → T c = S c) (hl : IVl T g2) : IV T g2 n0 n6 n2 a d b := by
  obtain ⟨h1, h2, h3, _⟩ := H
  exact ⟨fun r hr => IVr.cg (fun c hc => by rw [h c (by omega)]) (h 96 (by decide)) (h1 r hr), fun t ht => IVt.cg (h 96 (by decide)) (by rw [h 560 (by decide)]) (h2 t ht), fun y hy => IVh.cg (by rw [h 1 (by decide)]) (by rw [h 2 (by decide)]) (h3 y hy), hl⟩
theorem fd_k {S : Nat → Nat → Nat → Int32} {p0 p1 : Int32} {c : Nat} (h : ¬ c = 480) : fdS S p0 p1 c = S c := by
  unfold fdS
  split
  · rfl
  · split
    · rfl
    · split
      · rfl
      · split
        · exact up3_c h
        · rfl
theorem ly_k {S T : Nat → Nat → Nat → Int32} {p0 p1 p2 rv : Int32} (h : LY S T p0 p1 p2 rv) {c : Nat} (h1 : ¬ c = 416) (h2 : ¬ c = 432) : T c = S c := by
  rcases h with ⟨_, e, _⟩ | ⟨_, u, v, _, _, _, _, _, _, _, e⟩
  · rw [e]
  · rw [e]; unfold lyS; rw [up3_c h2, up3_c h2, up3_c h1, up3_c h1]
theorem sn_k {S T : Nat → Nat → Nat → Int32} {p0 p1 p2 rv : Int32} (h : SN S T p0 p1 p2 rv) {c : Nat} (h2 : ¬ c = 432) : T c = S c := by
  rcases h with ⟨_, e, _⟩ | ⟨_, u, v, _, _, _, _, _, _, _, e⟩
  · rw [e]
  · rw [e]; unfold snS; rw [up3_c h2, up3_c h2]
theorem CA_u {S : Nat → Nat → Nat → Int32} {g n0 n6 n2 h : Nat} {a : Int} {b : Nat → Int} {sd sg vs rk tb sa co ci ho du ti wm lo br wa ns f : Nat → Int32} {p0 p1 rv : Int32} (H : RR S n0 n6 n2 sd sg vs rk tb sa co ci ho du ti wm lo br wa ns) (I : IV S g n0 n6 n2 ((h : Int) - 1) (h : Int) b) (hh : h ≤ 9999) (hn6 : n6 ≤ 20) (M : (rv = 0 ∧ f = vs ∧ (sp_has p0 n6 = 0 ∨ sp_st p1 = 0 ∨ ∃ t s, t < n6 ∧ s < 12 ∧ p0 = nI t ∧ p1 = nI s ∧ ¬ vs (12 * t + s) < 0)) ∨ (rv = 1 ∧ ∃ t s, t < n6 ∧ s < 12 ∧ p0 = nI t ∧ p1 = nI s ∧ vs (12 * t + s) < 0 ∧ f = upd vs (12 * t + s) (nI h))) : caR S n6 p0 p1 = rv ∧ RR (caS S n6 p0 p1 (nI h)) n0 n6 n2 sd sg f rk tb sa co ci ho du ti wm lo br wa ns ∧ IV (caS S n6 p0 p1 (nI h)) g n0 n6 n2 ((h : Int) - 1) (h : Int) b := by
  have neg : ∀ {t s : Nat}, t < n6 → s < 12 → (vs (12 * t + s) < 0 ↔ S 560 t s = -1) := fun {t s} ht hs => by
    rw [(H.2.1 t ht).2 s hs]
    exact m1_neg (((I.2.1 t ht).2 s hs).imp id And.left)
  rcases M with ⟨m1, m2, m3⟩ | ⟨m1, t, s, ht, hs, e1, e2, m3, m4⟩
  · have e : caR S n6 p0 p1 = 0 ∧ caS S n6 p0 p1 (nI h) = S := by
      unfold caR caS
      by_cases z : hOf n6 p0 = -1
      · rw [if_pos z, if_pos z]; exact ⟨rfl, rfl⟩
      · rw [if_neg z, if_neg z]
        unfold tvR tvS
        rcases m3 with m3 | m3 | ⟨t, s, ht, hs, e1, e2, m3⟩
        · exact absurd (hOf_0 m3) z
        · rw [if_pos m3, if_pos m3]; exact ⟨rfl, rfl⟩
        · rw [e1, e2, hOf_i ht (by omega), nI_clamp (by omega), nI_clamp (by omega), if_neg (st_nz hs), if_neg (st_nz hs)]
          have q : ¬ S 560 t s = -1 := fun w => m3 ((neg ht hs).mpr w)
          simp [q]
    rw [e.1, e.2, m1, m2]; exact ⟨rfl, H, I⟩
  · have q := (neg ht hs).mp m3
    have e : caR S n6 p0 p1 = 1 ∧ caS S n6 p0 p1 (nI h) = up3 S 560 t s (nI h) := by
      unfold caR caS
      rw [e1, e2, hOf_i ht (by omega), if_neg (nI_m (by omega)), if_neg (nI_m (by omega)), nI_clamp (by omega)]
      unfold tvR tvS
      rw [nI_clamp (by omega), if_neg (st_nz hs), if_neg (st_nz hs)]
      simp [q]
    rw [e.1, e.2, m1, m4]
    refine ⟨rfl, ?_, CA_iv I (by omega)⟩
    have O : ∀ c, ¬ c = 560 → up3 S 560 t s (nI h) c = S c := fun c k => up3_c k
    have O2 : ∀ c, c / 16 = 2 ∨ c / 16 = 37 → up3 S 560 t s (nI h) c = S c := fun c hc => O c (fun w => by rw [w] at hc; exact absurd hc (by decide))
    obtain ⟨h1, h2, h3, h4, h5⟩ := H
    refine ⟨RH.c h1 (O 1 (by decide)) (O 2 (by decide)), RT.u h2 hs, RQ.c h3 O2, fun r hr => ?_, RWy.c h5 (O 592 (by decide)) (O 593 (by decide)) (O 576 (by decide))⟩
    rw [O 36 (by decide)]
    intro z k hk
    obtain ⟨w, c, y, i1, i2, i3, i4, i5, hy, e3, es⟩ := IVr_st (I.1 r hr)
    have e4 : sSW (up3 S 560 t s (nI h)) r (up3 S 560 t s (nI h) 37 r 0 - 1) = nI y := by
      rw [O 37 (by decide), sSW_c (O 593 (by decide)) (O 592 (by decide))]; exact es
    have B := h4 r hr z k hk
    have lf := ((I.1 r hr).2.2.2 ((I.1 r hr).2.2.1 z)).2.2.2.1
    rw [B, e4, es, O 40 (by decide)]
    have A5 : up3 S 560 t s (nI h) 560 k y = S 560 k y ∨ (S 560 k y = -1 ∧ up3 S 560 t s (nI h) 560 k y = nI h) := by
      by_cases z1 : k = t
      · subst z1
        by_cases z2 : y = s
        · subst z2; exact Or.inr ⟨q, up3_s⟩
        · exact Or.inl (up3_n z2)
      · exact Or.inl (by rw [up3_o (fun w => z1 w.2)])
    rw [wv_v hy A5 (by rw [lt_i, nI_toInt (by omega)]; omega)]
theorem ix_e {t s : Nat} : ((12 * nI t) + nI s).toNatClampNeg = (nI (12 * t + s)).toNatClampNeg := by
  rw [show (12 : Int32) = nI 12 from rfl, pk_mul, nI_add]
theorem CA_t {n6 h : Nat} {vs f : Nat → Int32} {p0 p1 rv : Int32} (hn6 : n6 ≤ 20) (h1 : rv = (if sp_has p0 n6 = 0 then 0 else if sp_st p1 = 0 then 0 else if vs ((12 * p0) + p1).toNatClampNeg < 0 then 1 else 0)) (h2 : f = (if sp_has p0 n6 = 0 then vs else if sp_st p1 = 0 then vs else if vs ((12 * p0) + p1).toNatClampNeg < 0 then upd vs ((12 * p0) + p1).toNatClampNeg (nI h) else vs)) : (rv = 0 ∧ f = vs ∧ (sp_has p0 n6 = 0 ∨ sp_st p1 = 0 ∨ ∃ t s, t < n6 ∧ s < 12 ∧ p0 = nI t ∧ p1 = nI s ∧ ¬ vs (12 * t + s) < 0)) ∨ (rv = 1 ∧ ∃ t s, t < n6 ∧ s < 12 ∧ p0 = nI t ∧ p1 = nI s ∧ vs (12 * t + s) < 0 ∧ f = upd vs (12 * t + s) (nI h)) := by
  rw [h1, h2]
  by_cases c1 : sp_has p0 n6 = 0
  · rw [if_pos c1, if_pos c1]; exact Or.inl ⟨rfl, rfl, Or.inl c1⟩
  · rw [if_neg c1, if_neg c1]
    by_cases c2 : sp_st p1 = 0
    · rw [if_pos c2, if_pos c2]; exact Or.inl ⟨rfl, rfl, Or.inr (Or.inl c2)⟩
    · rw [if_neg c2, if_neg c2]
      obtain ⟨t, ht, rfl⟩ := has_of c1
      obtain ⟨s, hs, rfl⟩ := st_of c2
      rw [ix_e, nI_clamp (by omega)]
      by_cases c3 : vs (12 * t + s) < 0
      · rw [if_pos c3, if_pos c3]; exact Or.inr ⟨rfl, t, s, ht, hs, rfl, rfl, c3, rfl⟩
      · rw [if_neg c3, if_neg c3]; exact Or.inl ⟨rfl, rfl, Or.inr (Or.inr ⟨t, s, ht, hs, rfl, rfl, c3⟩)⟩
theorem VD_u {S : Nat → Nat → Nat → Int32} {n6 : Nat} {rk vs : Nat → Int32} {p0 p1 : Int32} (hn : n6 ≤ 20) (H : RT S n6 rk vs) : vdT S n6 p0 p1 = (if sp_has p0 n6 = 0 then -1 else if sp_st p1 = 0 then -1 else vs ((12 * p0) + p1).toNatClampNeg) := by
  by_cases c1 : sp_has p0 n6 = 0
  · rw [if_pos c1]; unfold vdT; rw [if_pos (hOf_0 c1)]
  · rw [if_neg c1]
    obtain ⟨t, ht, rfl⟩ := has_of c1
    unfold vdT
    rw [hOf_i ht (by omega), if_neg (nI_m (by omega)), nI_clamp (by omega)]
    unfold vdS
    by_cases c2 : sp_st p1 = 0
    · rw [if_pos c2, if_pos c2]
    · rw [if_neg c2, if_neg c2]
      obtain ⟨s, hs, rfl⟩ := st_of c2
      rw [ix_e, nI_clamp (by omega), nI_clamp (by omega)]
      exact ((H t ht).2 s hs).symm
theorem KN_u {S : Nat → Nat → Nat → Int32} {n2 : Nat} {wa ns : Nat → Int32} {p0 p1 : Int32} (hn : n2 ≤ 60) (H : RWy S n2 wa ns) : knT S n2 p0 p1 = (if sp_has p0 n2 = 0 then -1 else if sp_st p1 = 0 then -1 else ns ((12 * p0) + p1).toNatClampNeg) := by
  by_cases c1 : sp_has p0 n2 = 0
  · rw [if_pos c1]; unfold knT; rw [if_pos (hOf_0 c1)]
  · rw [if_neg c1]
    obtain ⟨t, ht, rfl⟩ := has_of c1
    unfold knT
    rw [hOf_i ht (by omega), if_neg (nI_m (by omega)), nI_clamp (by omega)]
    unfold nkS
    by_cases c2 : sp_st p1 = 0
    · rw [if_pos c2, if_pos c2]
    · rw [if_neg c2, if_neg c2]
      obtain ⟨s, hs, rfl⟩ := st_of c2
      rw [ix_e, nI_clamp (by omega), nI_clamp (by omega)]
      exact ((H t ht).2 s hs).symm
def NXo (S T U : Nat → Nat → Nat → Int32) (q : Nat → Nat) (ll g n0 n6 n2 hr : Nat) : Prop := (hr < 9999 → LU (crK S g n0 60) U n2 q ll) ∧ (hr < 9999 → T = brK (sdK U g n0 n6 (nI hr) q ll) g n6 n2 (nI (hr + 1)) 60) ∧ (¬ hr < 9999 → T = S)
theorem NXc_o {S T : Nat → Nat → Nat → Int32} {g n0 n6 n2 hr : Nat} (h : NXc S T g n0 n6 n2 hr) : ∃ (U : Nat → Nat → Nat → Int32) (q : Nat → Nat) (ll : Nat), NXo S T U q ll g n0 n6 n2 hr := by
  rcases h with ⟨a, b⟩ | ⟨a, U, q, ll, b, c⟩
  · exact ⟨S, fun i => i, 0, fun w => absurd w a, fun w => absurd w a, fun _ => b⟩
  · exact ⟨U, q, ll, fun _ => b, fun _ => c, fun w => absurd a w⟩
theorem NX_k {S T U : Nat → Nat → Nat → Int32} {q : Nat → Nat} {ll g n0 n6 n2 hr c : Nat} (h : NXo S T U q ll g n0 n6 n2 hr) (hn : n0 ≤ 60) (hc : c = 224 ∨ c = 416 ∨ c = 432) : T c = S c := by
  by_cases z : hr < 9999
  · have A := (h.1 z).1
    rw [crK_60 hn] at A
    have e : U c = S c := (A c (by omega)).trans (crK_c (by omega) (by omega) _)
    rw [h.2.1 z, brKc (by omega) (by omega) (by omega) (by omega) (by omega) (by omega) (by omega) (by omega) 60, sdK_c hn (by omega) (by omega) (by omega) (by omega) (by omega) ll, e]
  · rw [h.2.2 z]
theorem NXt_u {S T U : Nat → Nat → Nat → Int32} {q : Nat → Nat} {ll g n0 n6 n2 hr hr2 : Nat} {sd sg vs rk tb sa co ci ho du ti wm lo br wa ns fo : Nat → Int32} {rv : Int32} (h : NXo S T U q ll g n0 n6 n2 hr) (f : FNx hr rv hr2) (m : (¬ hr < 9999 ∧ RR S n0 n6 n2 sd sg vs rk tb sa co ci ho du ti wm lo br wa ns ∧ RFo S fo ∧ IV S g n0 n6 n2 ((hr : Int) - 1) (hr : Int) (fun _ => (hr : Int) + 1)) ∨ (hr < 9999 ∧ RR (brK (sdK U g n0 n6 (nI hr) q ll) g n6 n2 (nI (hr + 1)) 60) n0 n6 n2 sd sg vs rk tb sa co ci ho du ti wm lo br wa ns ∧ RFo (brK (sdK U g n0 n6 (nI hr) q ll) g n6 n2 (nI (hr + 1)) 60) fo ∧ IV (brK (sdK U g n0 n6 (nI hr) q ll) g n6 n2 (nI (hr + 1)) 60) g n0 n6 n2 (hr : Int) ((hr + 1 : Nat) : Int) (fun _ => (hr : Int) + 1 + 1))) : RR T n0 n6 n2 sd sg vs rk tb sa co ci ho du ti wm lo br wa ns ∧ RFo T fo ∧ IV T g n0 n6 n2 ((hr2 : Int) - 1) (hr2 : Int) (fun _ => (hr2 : Int) + 1) := by
  rcases m with ⟨z, m1, m2, m3⟩ | ⟨z, m1, m2, m3⟩
  · have e : hr2 = hr := by
      rcases f with ⟨_, e, _⟩ | ⟨_, _, w⟩
      · exact e
      · exact absurd w z
    subst e
    rw [h.2.2 z]; exact ⟨m1, m2, m3⟩
  · have e : hr2 = hr + 1 := by
      rcases f with ⟨_, _, w⟩ | ⟨_, e, _⟩
      · omega
      · exact e
    subst e
    rw [h.2.1 z]
    refine ⟨m1, m2, IV.w m3 (by omega) (Int.le_refl _) (fun r _ => by omega)⟩
theorem HO_p {p0 p1 rv : Int32} {n n2 : Nat} (h : FHo p0 p1 n rv n2) (e : n2 = n + 1) : ¬ sp_st p0 = 0 ∧ 0 ≤ p1.toInt ∧ p1.toInt ≤ 100 := by
  rcases h with ⟨_, w, _⟩ | ⟨_, _, _, a, b, c⟩
  · omega
  · rw [lt_i, show (0 : Int32).toInt = 0 from by decide] at b
    rw [lt_i, show (100 : Int32).toInt = 100 from by decide] at c
    exact ⟨a, by omega, by omega⟩
theorem TB_p {p0 rv : Int32} {n n2 : Nat} (h : FTb p0 n rv n2) (e : n2 = n + 1) : 1 ≤ p0.toInt ∧ p0.toInt ≤ 3 := by
  rcases h with ⟨_, w, _⟩ | ⟨_, _, _, b, c⟩
  · omega
  · rw [lt_i, show (1 : Int32).toInt = 1 from by decide] at b
    rw [lt_i, show (3 : Int32).toInt = 3 from by decide] at c
    omega
theorem HOc_k {S T : Nat → Nat → Nat → Int32} {n m c : Nat} {p q : Int32} (h : HOc S T n m p q) (h1 : ¬ c = 1) (h2 : ¬ c = 2) : T c = S c := by
  rcases h with ⟨_, e⟩ | ⟨_, e⟩
  · rw [e]
  · rw [e, upC_c h2, upC_c h1]
theorem TBc_k {S T : Nat → Nat → Nat → Int32} {n m c : Nat} {p : Int32} (h : TBc S T n m p) (h1 : c = 480 ∨ c = 224) : T c = S c := by
  rcases h with ⟨_, e⟩ | ⟨_, e⟩
  · rw [e]
  · exact funext fun i => e.1 c i (by rcases h1 with z | z <;> rw [z] <;> decide) (fun w => by omega)
theorem RDc_k {S T : Nat → Nat → Nat → Int32} {n2 m2 n6 c : Nat} {p0 p1 p2 hr rv : Int32} (h : RDc S T n2 m2 n6 p0 p1 p2 hr rv) (h1 : c = 480 ∨ c = 224) : T c = S c := by
  rcases h with ⟨_, _, h, _⟩ | ⟨_, _, _, ⟨t, _, _, w, u0, a, _, _, _, _, h, _⟩, _⟩
  · exact h c (by rcases h1 with z | z <;> rw [z] <;> decide)
  · exact funext fun i => h c i (by rcases h1 with z | z <;> rw [z] <;> decide) (fun w => by omega)
theorem klS_k {S : Nat → Nat → Nat → Int32} {n c : Nat} {p : Int32} (h : ¬ c = 36) : klS S n p c = S c := by
  unfold klS
  split
  · rfl
  · split
    · rfl
    · exact up3_c h
theorem caS_k {S : Nat → Nat → Nat → Int32} {n c : Nat} {t p hr : Int32} (h : ¬ c = 560) : caS S n t p hr c = S c := by
  unfold caS
  split
  · rfl
  · unfold tvS
    split
    · rfl
    · split
      · exact up3_c h
      · rfl
