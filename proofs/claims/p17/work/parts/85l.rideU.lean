theorem RR.ag {S T : Nat → Nat → Nat → Int32} {n0 n6 n2 : Nat} {sd sg vs rk tb sa co ci ho du ti wm lo br wa ns : Nat → Int32} (H : RR S n0 n6 n2 sd sg vs rk tb sa co ci ho du ti wm lo br wa ns) (h : AG S T) : RR T n0 n6 n2 sd sg vs rk tb sa co ci ho du ti wm lo br wa ns := by
  obtain ⟨h1, h2, h3, h4, h5⟩ := H
  have E2 : ∀ c, c / 16 = 2 ∨ c / 16 = 37 → T c = S c := fun c hc => h c (by rcases hc with w | w <;> rw [w] <;> decide)
  exact ⟨RH.c h1 (h 1 (by decide)) (h 2 (by decide)), RT.c h2 (h 96 (by decide)) (h 560 (by decide)), RQ.c h3 E2, RBr_c h4 (fun r _ c hc => by rw [E2 c hc]) (h 560 (by decide)), RWy.c h5 (h 592 (by decide)) (h 593 (by decide)) (h 576 (by decide))⟩
theorem IV.ag {S T : Nat → Nat → Nat → Int32} {g n0 n6 n2 : Nat} {a d : Int} {b : Nat → Int} (H : IV S g n0 n6 n2 a d b) (h : AG S T) : IV T g n0 n6 n2 a d b := by
  obtain ⟨h1, h2, h3, h4⟩ := H
  refine ⟨fun r hr => IVr.cg (fun c hc => by rw [h c (by rcases hc with w | w | w <;> rw [w] <;> decide)]) (h 96 (by decide)) (h1 r hr), fun t ht => IVt.cg (h 96 (by decide)) (by rw [h 560 (by decide)]) (h2 t ht), fun y hy => IVh.cg (by rw [h 1 (by decide)]) (by rw [h 2 (by decide)]) (h3 y hy), ?_⟩
  unfold IVl; rw [h 224 (by decide)]; exact h4
def RDno (S : Nat → Nat → Nat → Int32) (n6 n2 : Nat) (p0 p1 p2 : Int32) : Prop := n2 = 60 ∨ hOf n6 p0 = -1 ∨ (∃ q, q < n2 ∧ S 32 q 0 = p0 ∧ ¬ sUW S q = 0) ∨ NOW S p1 p2
def RDyes (S : Nat → Nat → Nat → Int32) (n6 n2 t u v n : Nat) (p : Nat → Nat) (p0 p1 p2 : Int32) : Prop := n2 < 60 ∧ (∀ q, q < n2 → S 32 q 0 = p0 → sUW S q = 0) ∧ t < n6 ∧ p0 = nI t ∧ u < 12 ∧ v < 12 ∧ p1 = nI u ∧ p2 = nI v ∧ n ≤ 11 ∧ p n = v ∧ ∃ g : Nat → Int32, L1 (hF S) (sF S) v g ∧ FXa (hF S) (sF S) g ∧ (g u).toInt < 1000000 ∧ PT S g u v n p
theorem RD_ex {S : Nat → Nat → Nat → Int32} {n6 n2 t u v n : Nat} {p : Nat → Nat} {p0 p1 p2 : Int32} (hrg : RgS S) (hn6 : n6 ≤ 20) (a : RDno S n6 n2 p0 p1 p2) (b : RDyes S n6 n2 t u v n p p0 p1 p2) : False := by
  obtain ⟨b1, b2, b3, b4, b5, b6, b7, b8, b9, b10, g, b11, b12, b13, b14⟩ := b
  rcases a with a | a | ⟨q, hq, e, a⟩ | a
  · omega
  · rw [b4, hOf_i b3 (by omega)] at a; exact nI_m (by omega) a
  · exact a (b2 q hq e)
  · rcases a with a | ⟨u', v', g', c1, c2, c3, c4, c5, c6, c7⟩
    · rw [b7, b8] at a
      rcases a with a | a
      · exact st_nz b5 a
      · exact st_nz b6 a
    · have eu : u' = u := nI_inJ (c3.symm.trans b7) (by omega) (by omega)
      have ev : v' = v := nI_inJ (c4.symm.trans b8) (by omega) (by omega)
      subst eu; subst ev
      have := LF_u hrg.hh hrg.hs c5 c6 b11 b12 b5
      rw [this] at c7; exact c7 b13
theorem RD_eq {S : Nat → Nat → Nat → Int32} {n6 n2 t u v n t' u' v' n' : Nat} {p p' : Nat → Nat} {p0 p1 p2 : Int32} (hrg : RgS S) (hn6 : n6 ≤ 20) (a : RDyes S n6 n2 t u v n p p0 p1 p2) (b : RDyes S n6 n2 t' u' v' n' p' p0 p1 p2) : t = t' ∧ u = u' ∧ v = v' ∧ n = n' ∧ ∀ j, j ≤ n → p j = p' j := by
  obtain ⟨a1, a2, a3, a4, a5, a6, a7, a8, a9, a10, g, a11, a12, a13, a14⟩ := a
  obtain ⟨b1, b2, b3, b4, b5, b6, b7, b8, b9, b10, f, b11, b12, b13, b14⟩ := b
  have et : t = t' := nI_inJ (a4.symm.trans b4) (by omega) (by omega)
  have eu : u = u' := nI_inJ (a7.symm.trans b7) (by omega) (by omega)
  have ev : v = v' := nI_inJ (a8.symm.trans b8) (by omega) (by omega)
  subst et; subst eu; subst ev
  have e := PT_u (fun i hi => LF_u hrg.hh hrg.hs a11 a12 b11 b12 hi) a14 a10 b14 b10
  exact ⟨rfl, rfl, rfl, e⟩
theorem RR_r {S T : Nat → Nat → Nat → Int32} {n0 n6 n2 n u : Nat} {sd sg vs rk tb sa co ci ho du ti wm lo br wa ns f_tb f_st f_co f_ci f_ho f_wm f_wa f_ns : Nat → Int32} {p : Nat → Nat} {p0 hr st : Int32} (H : RR S n0 n6 n2 sd sg vs rk tb sa co ci ho du ti wm lo br wa ns) (hl : lo n2 = 0) (off : ∀ c i, ¬ c / 16 ∈ [28, 31, 32, 33, 38, 41, 43, 44, 45] → ¬ (i = n2 ∧ (c / 16 = 2 ∨ c / 16 = 36 ∨ c / 16 = 37)) → T c i = S c i) (t32 : T 32 n2 0 = p0) (t36 : T 36 n2 0 = st) (h1 : ¬ st = 1) (h4 : ¬ st = 4) (t37 : T 37 n2 0 = 1) (t38 : T 38 n2 0 = hr) (t39 : T 39 n2 0 = -1) (t576 : ∀ s, s < 12 → T 576 n2 s = if s = u then hr else -1) (t592 : ∀ j, j ≤ n → T 592 n2 j = nI (p j)) (t593 : T 593 n2 0 = nI (n + 1)) (hn : n ≤ 11) (m1 : f_tb = upd tb n2 p0) (m2 : f_st = upd sa n2 st) (m3 : f_co = upd co n2 1) (m4 : f_ci = upd ci n2 hr) (m5 : f_ho = upd ho n2 (-1)) (m6 : f_wm = upd wm n2 (nI (n + 1))) (w1 : ∀ j, j ≤ n → f_wa (12 * n2 + j) = nI (p j)) (w2 : ∀ x, x < 12 * n2 → f_wa x = wa x) (s1 : ∀ i, i < 12 → f_ns (12 * n2 + i) = if i = u then hr else -1) (s2 : ∀ x, x < 12 * n2 → f_ns x = ns x) : RR T n0 n6 (n2 + 1) sd sg vs rk f_tb f_st f_co f_ci f_ho du ti f_wm lo br f_wa f_ns := by
  obtain ⟨H1, H2, H3, H4, H5⟩ := H
  have O : ∀ c, ¬ c / 16 ∈ [28, 31, 32, 33, 38, 41, 43, 44, 45] → ¬ (c / 16 = 2 ∨ c / 16 = 36 ∨ c / 16 = 37) → T c = S c := fun c k1 k2 => funext fun i => off c i k1 (fun w => k2 w.2)
  have R : ∀ c, c / 16 = 2 ∨ c / 16 = 36 ∨ c / 16 = 37 → ∀ r, ¬ r = n2 → T c r = S c r := fun c k r hr => off c r (by rcases k with w | w | w <;> rw [w] <;> decide) (fun w => hr w.1)
  refine ⟨RH.c H1 (O 1 (by decide) (by decide)) (O 2 (by decide) (by decide)), RT.c H2 (O 96 (by decide) (by decide)) (O 560 (by decide) (by decide)), fun r hr2 => ?_, fun r hr2 => ?_, fun r hr2 => ?_⟩
  · by_cases q : r = n2
    · subst q
      unfold RQr
      rw [m1, m2, m3, m4, m5, m6, up_s, up_s, up_s, up_s, up_s, up_s]
      exact ⟨t32.symm, t36.symm, t37.symm, t38.symm, t39.symm, fun w => absurd t39 w, fun w => absurd t39 w, t593.symm, fun w => absurd hl w, fun w => absurd t39 w.2⟩
    · unfold RQr
      rw [m1, m2, m3, m4, m5, m6, up_n q, up_n q, up_n q, up_n q, up_n q, up_n q, R 32 (by decide) r q, R 36 (by decide) r q, R 37 (by decide) r q, R 38 (by decide) r q, R 39 (by decide) r q, R 40 (by decide) r q, R 41 (by decide) r q, R 593 (by decide) r q]
      exact H3 r (by omega)
  · by_cases q : r = n2
    · subst q; intro w; rw [t36] at w; exact absurd w h1
    · have e : ∀ k, wvS T k (sSW T r (T 37 r 0 - 1)) (T 40 r 0) = wvS S k (sSW S r (S 37 r 0 - 1)) (S 40 r 0) := fun k => by
        unfold wvS vdS sSW
        rw [R 37 (by decide) r q, R 40 (by decide) r q, R 593 (by decide) r q, R 592 (by decide) r q, O 560 (by decide) (by decide)]
      rw [R 36 (by decide) r q]
      intro z k hk
      rw [e k]; exact H4 r (by omega) z k hk
  · by_cases q : r = n2
    · subst q
      refine ⟨fun k hk hlt => ?_, fun s hs => by rw [s1 s hs, t576 s hs]⟩
      have : k ≤ n := by
        rw [t593] at hlt
        have := nI_ltq hlt (by omega) (by omega)
        omega
      rw [w1 k this, t592 k this]
    · rw [R 592 (by decide) r q, R 593 (by decide) r q, R 576 (by decide) r q]
      refine ⟨fun k hk hlt => ?_, fun s hs => ?_⟩
      · rw [w2 _ (by omega)]; exact (H5 r (by omega)).1 k hk hlt
      · rw [s2 _ (by omega)]; exact (H5 r (by omega)).2 s hs
theorem IV_r {S T : Nat → Nat → Nat → Int32} {g n0 n6 n2 n u v t : Nat} {a d : Int} {b : Nat → Int} {p : Nat → Nat} {f : Nat → Int32} {p0 hr st : Int32} (I : IV S g n0 n6 n2 a d b) (off : ∀ c i, ¬ c / 16 ∈ [28, 31, 32, 33, 38, 41, 43, 44, 45] → ¬ (i = n2 ∧ (c / 16 = 2 ∨ c / 16 = 36 ∨ c / 16 = 37)) → T c i = S c i) (hrg : RgS S) (hL : L1 (hF S) (sF S) v f) (hf : (f u).toInt < 1000000) (hP : PT S f u v n p) (hn : n ≤ 11) (ht : t < n6) (e0 : p0 = nI t) (t32 : T 32 n2 0 = p0) (t33 : T 33 n2 0 = S 96 t 0) (t36 : T 36 n2 0 = if n = 0 then 2 else 0) (t37 : T 37 n2 0 = 1) (t39 : T 39 n2 0 = -1) (t576 : ∀ s, s < 12 → T 576 n2 s = if s = u then hr else -1) (t592 : ∀ j, j ≤ n → T 592 n2 j = nI (p j)) (t593 : T 593 n2 0 = nI (n + 1)) : IV T g n0 n6 (n2 + 1) a d b := by
  obtain ⟨I1, I2, I3, I4⟩ := I
  have O : ∀ c, ¬ c / 16 ∈ [28, 31, 32, 33, 38, 41, 43, 44, 45] → ¬ (c / 16 = 2 ∨ c / 16 = 36 ∨ c / 16 = 37) → T c = S c := fun c k1 k2 => funext fun i => off c i k1 (fun w => k2 w.2)
  have R : ∀ c, c / 16 = 2 ∨ c / 16 = 36 ∨ c / 16 = 37 → ∀ r, ¬ r = n2 → T c r = S c r := fun c k r hr => off c r (by rcases k with w | w | w <;> rw [w] <;> decide) (fun w => hr w.1)
  refine ⟨fun r hr2 => ?_, fun x hx => IVt.cg (O 96 (by decide) (by decide)) (by rw [O 560 (by decide) (by decide)]) (I2 x hx), fun y hy => IVh.cg (by rw [O 1 (by decide) (by decide)]) (by rw [O 2 (by decide) (by decide)]) (I3 y hy), by unfold IVl; rw [O 224 (by decide) (by decide)]; exact I4⟩
  by_cases q : r = n2
  · subst q
    refine ⟨⟨t, ht, t32.trans e0, by rw [t33, O 96 (by decide) (by decide)]⟩, ⟨n + 1, 1, t593, t37, Nat.le_refl _, by omega, by omega, fun k hk => ⟨p k, hP.2.2 k (by omega), t592 k (by omega)⟩, fun i j hij hj => ?_, fun s hs hne => ?_, fun w => ?_⟩, fun w => ?_, fun w => absurd t39 w⟩
    · rw [t592 i (by omega), t592 j (by omega)]
      intro e
      have pi := hP.2.2 i (by omega)
      have pj := hP.2.2 j (by omega)
      have e2 := nI_inJ e (by omega) (by omega)
      have := (PT_c hrg hL hP hf j (by omega)).2.2 i hij
      rw [e2] at this; omega
    · rw [t576 s hs] at hne
      by_cases z : s = u
      · refine ⟨0, by omega, ?_⟩
        rw [t592 0 (by omega), hP.1, z]
      · rw [if_neg z] at hne; exact absurd rfl hne
    · rcases w with w | w
      · rw [t36] at w
        by_cases z : n = 0
        · rw [if_pos z] at w; exact absurd w (by decide)
        · omega
      · exact absurd t39 w
    · rw [t36] at w
      by_cases z : n = 0
      · rw [if_pos z] at w; exact absurd w (by decide)
      · rw [if_neg z] at w; exact absurd w (by decide)
  · exact IVr.cg (fun c hc => R c hc r q) (O 96 (by decide) (by decide)) (I1 r (by omega))
