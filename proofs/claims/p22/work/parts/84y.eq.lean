theorem cl_path {h s c : Nat → Int32} {C : Nat → Bool} (hh : Rng h) (hs : Rng s) (hC : CLn h s c) (hP : ∀ u, u < 12 → ∀ v, v < 12 → ¬ h (12 * u + v) = 0 → C u = C v) {k : Nat} (hk : k < 12) : ∀ (n i : Nat), i < 12 → cI c i k < 1000000 → (cI c i k).toNat ≤ n → C i = C k := by
  intro n
  induction n with
  | zero =>
    intro i hi hf hn
    have b := (CLn_a hC hk).1 i hi
    rcases (CLn_a hC hk).2.2.1 i hi with q | q | ⟨v, hv, hr, q⟩
    · rw [q]
    · omega
    · obtain ⟨e, a1, a2, a3, a4⟩ := ti_r hh hs hi hv
      have b2 := (CLn_a hC hk).1 v hv
      have b3 := i_ne hr
      omega
  | succ n ih =>
    intro i hi hf hn
    have b := (CLn_a hC hk).1 i hi
    rcases (CLn_a hC hk).2.2.1 i hi with q | q | ⟨v, hv, hr, q⟩
    · rw [q]
    · omega
    · obtain ⟨e, a1, a2, a3, a4⟩ := ti_r hh hs hi hv
      have b2 := (CLn_a hC hk).1 v hv
      have b3 := i_ne hr
      have b4 := ih v hv (by omega) (by omega)
      rw [hP i hi v hv hr, b4]
theorem ed_c {h s c : Nat → Int32} {u v : Nat} (hC : CLn h s c) (hu : u < 12) (hv : v < 12) (hr : ¬ h (12 * u + v) = 0) : cI c u v ≤ (h (12 * u + v) + s (12 * u + v)).toInt := by
  have a := (CLn_a hC hv).2.2.2 u hu v hv hr
  have b := (CLn_a hC hv).2.1
  omega
theorem RO_t {h s : Nat → Int32} {S : Nat → Nat → Nat → Int32} {u v : Nat} (hR : RO h s S) (hRg : RgS S) (hr : rdS S u v) : (h (12 * u + v) + s (12 * u + v)).toInt = tI S u v ∧ ¬ h (12 * u + v) = 0 := by
  obtain ⟨e1, e2⟩ := hR u hr.1 v hr.2.1
  obtain ⟨a, _⟩ := tI_r hRg hr
  obtain ⟨b, _⟩ := tmN_p hRg hr.1 hr.2.1 hr.2.2
  rw [e1, e2, a, b]
  exact ⟨rfl, hr.2.2⟩
theorem RO_Sy {h s : Nat → Int32} {S : Nat → Nat → Nat → Int32} (hR : RO h s S) (hSy : Sy S) : RDs h s := fun u hu v hv => by
  rw [(hR u hu v hv).1, (hR v hv u hu).1, (hR u hu v hv).2, (hR v hv u hu).2]
  exact (hSy u hu).2 v hv
theorem DN_u {h s c : Nat → Int32} {R U : Nat → Nat → Nat → Int32} {w0 h0 : Nat → Int} {wa lf ld : Nat → Int32} {j : Nat} {r1 r2 : Int32} (hh : Rng h) (hs : Rng s) (hR : RO h s R) (hS : LPh R) (hC : CLn h s c) (hH : RFh c w0 h0) (hsp : ∀ v, v < 12 → spI R v = h0 v - w0 v) (k : LPk R U j r1) (kd : ∀ v, v < 12 → 0 ≤ spI U v) (m : RFk c w0 h0 wa lf ld r2) (md : ∀ k, k < 12 → fI wa k = 0) (hUR : FR R U) : r1 = r2 := by
  obtain ⟨⟨pi, hpc⟩, k2, k3, k4, k5, _, k7, _⟩ := k
  obtain ⟨⟨G, T, hQ⟩, m2, m3, m4, m5⟩ := m
  obtain ⟨u1, u2⟩ := fr_eq hUR
  have hb : ∀ v, v < 12 → 0 ≤ fI lf v ∧ fI lf v ≤ h0 v ∧ 0 ≤ spI U v ∧ spI U v ≤ h0 v := fun v hv => by
    have a := m4 v hv
    have b := kd v hv
    have d := k5 v hv
    have e := hH.2 v hv
    have f := hsp v hv
    omega
  have hX : ∀ k, k < 12 → sI (fun i => cI ld i k) 12 = w0 k := fun k hk => by
    have a := m3 k hk
    have b := md k hk
    omega
  have hY : ∀ i, i < 12 → sI (cI ld i) 12 = h0 i - fI lf i := fun i hi => (m4 i hi).2.2
  have hF : FLo (lI U) h0 w0 (spI U) := fun v hv => by
    have a := k4 v hv
    have f := hsp v hv
    show net (lI U) v = _
    omega
  have hl0 : ∀ u, u < 12 → ∀ v, v < 12 → 0 ≤ lI U u v := fun u hu v hv => (k2 u hu v hv).1
  have c0 : ∀ v, v < 12 → T v ≤ G v := fun v hv => by
    have a := hQ.2.1 v hv v hv (by rw [hH.1.1 v hv]; omega)
    rw [hH.1.1 v hv] at a
    omega
  have M1 := du_M1 (c := cI c) (x := cI ld) (t := tI R) (f := lI U) (G := G) (T := T) (h := h0) (left := fI lf) (w := w0) (sp := spI U) hb (fun v hv => ⟨hQ.1 v hv, c0 v hv⟩) (fun v hv a => hQ.2.2.2.1 v hv a) (fun i hi k hk => by
    rcases Int.lt_or_le 0 (cI ld i k) with w | w
    · exact Or.inr (hQ.2.2.1 i hi k hk w).2
    · exact Or.inl (by have := m2 i hi k hk; omega)) hX hY hl0 (fun u hu v hv => by
    rcases k3 u hu v hv with w | w
    · exact Or.inl w
    · obtain ⟨e1, e2⟩ := RO_t hR hS.2.1 w
      have a := ed_c hC hu hv e2
      have b := tI_r hS.2.1 w
      have d := PQ_lip hH.1 hQ hu hv (by omega)
      exact Or.inr (by omega)) hF
  have M2 := du_M2 (c := cI c) (x := cI ld) (t := tI R) (f := lI U) (P := pi) (h := h0) (left := fI lf) (w := w0) (sp := spI U) hb (fun v hv => (hpc.1 v hv).1) (fun v hv a => hpc.2.2 v hv a) m2 (fun i hi k hk => by
    rcases Int.lt_or_le 0 (cI ld i k) with w | w
    · have cf := (hQ.2.2.1 i hi k hk w).1
      have cs := hH.1.2.1 i hi k hk
      have lp := LP_c (P := pi) hh hs hC (fun u hu v hv hr => by
        have hrd : rdS R u v := ⟨hu, hv, by rw [← (hR u hu v hv).1]; exact hr⟩
        have hrd2 := rd_sy hS.1 hrd
        obtain ⟨e1, _⟩ := RO_t hR hS.2.1 hrd
        have a := hpc.2.1 v hv u hu (by rw [u1]; exact hrd2)
        rw [u2] at a
        have t0 := (tI_r hS.2.1 hrd2).2.1
        have r := rc_le (t := tI R) (l := lI U) (u := v) (v := u) (by omega)
        have ts := tI_sy hS.1 u v
        omega) hi _ k hk (by omega) (Nat.le_refl _)
      exact Or.inr (by omega)
    · exact Or.inl (by have := m2 i hi k hk; omega)) hX hY (fun u hu v hv => by
    rcases k3 u hu v hv with w | w
    · exact Or.inl w
    · rcases Int.lt_or_le 0 (lI U u v) with z | z
      · have b := tI_r hS.2.1 w
        have a := PC_e hpc (fun a b y => by rw [u1] at y ⊢; exact rd_sy hS.1 y) (fun a b => by rw [u2]; exact tI_sy hS.1 a b) hu hv (by rw [u1]; exact w) (by rw [u2]; omega) z
        rw [u2] at a
        exact Or.inr a
      · exact Or.inl (by have := hl0 u hu v hv; omega)) hF
  rw [eq_I, k7, m5]
  omega
theorem LQ_u {h s c : Nat → Int32} {R U : Nat → Nat → Nat → Int32} {w0 h0 : Nat → Int} {r1 r2 : Int32} (hh : Rng h) (hs : Rng s) (hR : RO h s R) (hS : LPh R) (hC : CLn h s c) (hw : ∀ k, k < 12 → (0 ≤ w0 k ∧ w0 k ≤ 60) ∧ 0 ≤ h0 k ∧ h0 k ≤ 60) (hsp : ∀ v, v < 12 → spI R v = h0 v - w0 v) (hUR : FR R U) (k : LPf R U r1) (m : RFf c w0 h0 r2) : r1 = r2 := by
  have hH : RFh c w0 h0 := ⟨MT_c hh hs (RO_Sy hR hS.1) hC, hw⟩
  rcases k with ⟨k1, k2⟩ | ⟨⟨j, k1⟩, k2⟩
  · rcases m with ⟨m1, _⟩ | ⟨wa, lf, ld, m1, m2⟩
    · rw [k1, m1]
    · exfalso
      obtain ⟨C, hCc, w⟩ := k2
      refine RF_no m1 m2 ⟨C, fun i k hi hk z => cl_path hh hs hC (fun u hu v hv hr => hCc u v hu hv ⟨hu, hv, by rw [← (hR u hu v hv).1]; exact hr⟩) hk _ i hi z (Nat.le_refl _), ?_⟩
      have e : sI (fun v => if C v = true then (fun v => h0 v - w0 v) v else 0) 12 = sI (fun v => if C v = true then spI R v else 0) 12 := sI_c 12 (fun v hv => by
        show (if C v = true then h0 v - w0 v else 0) = (if C v = true then spI R v else 0)
        rw [hsp v hv])
      rw [e]; exact w
  · rcases m with ⟨m1, C, hCc, w⟩ | ⟨wa, lf, ld, m1, m2⟩
    · exfalso
      refine LP_no k1 k2 ⟨C, fun u v hu hv hr => hCc u v hu hv ?_, ?_⟩
      · obtain ⟨e1, e2⟩ := RO_t hR hS.2.1 hr
        have a := ed_c hC hu hv e2
        have b := tI_r hS.2.1 hr
        omega
      · have e : sI (fun v => if C v = true then spI R v else 0) 12 = sI (fun v => if C v = true then (fun v => h0 v - w0 v) v else 0) 12 := sI_c 12 (fun v hv => by
          show (if C v = true then spI R v else 0) = (if C v = true then h0 v - w0 v else 0)
          rw [hsp v hv])
        rw [e]; exact w
    · exact DN_u hh hs hR hS hC hH hsp k1 k2 m1 m2 hUR
def RLc (h s : Nat → Int32) (S : Nat → Nat → Nat → Int32) (tp : Nat → Int32) (n sz : Nat) (r : Int32) : Prop := (r = -1 ∧ (¬ sz = 12 ∨ ∃ k, k < 12 ∧ ¬ (tp k &&& 255) ≤ 60)) ∨ (sz = 12 ∧ (∀ k, k < 12 → (tp k &&& 255) ≤ 60) ∧ ∃ c, CLn h s c ∧ RFf c (fun k => (tp k).toInt) (hsI S n) r)
theorem LE_u {h s ab tp : Nat → Int32} {S U : Nat → Nat → Nat → Int32} {n ln : Nat} {r1 r2 : Int32} (hh : Rng h) (hs : Rng s) (hR : RO h s S) (hT : ∀ i, ab i = tp i &&& 255) (hB : ByR tp) (hn : n ≤ 60) (hU : FR S U) (k : LEc S U n ln ab r1) (m : RLc h s S tp n ln r2) : r1 = r2 := by
  rcases k with ⟨k1, k2⟩ | ⟨k1, k2, R, k3, k4, k5, k6⟩
  · rcases m with ⟨m1, _⟩ | ⟨m1, m2, _⟩
    · rw [k1, m1]
    · exfalso
      rcases k2 with w | ⟨v, hv, w⟩
      · exact w m1
      · rw [hT v] at w; exact w (m2 v hv)
  · rcases m with ⟨m1, m2⟩ | ⟨m1, m2, c, m3, m4⟩
    · exfalso
      rcases m2 with w | ⟨v, hv, w⟩
      · exact w k1
      · rw [← hT v] at w; exact w (k2 v hv)
    · have e : ∀ v, v < 12 → (ab v).toInt = (tp v).toInt := fun v hv => by rw [hT v, by_e (hB v) (m2 v hv)]
      have hR2 : RO h s R := fun u hu v hv => by rw [k3.1, k3.2]; exact hR u hu v hv
      have hUR : FR R U := ⟨hU.1.trans k3.1.symm, hU.2.trans k3.2.symm⟩
      refine LQ_u hh hs hR2 k5 m3 (fun k hk => ?_) (fun v hv => ?_) hUR k6 m4
      · have a := hs_b (S := S) (n := n) hk
        have z := by_0 (hB k) (m2 k hk)
        show (0 ≤ (tp k).toInt ∧ (tp k).toInt ≤ 60) ∧ _
        omega
      · rw [k4 v hv, e v hv]
theorem RL_c {h s sd sg tp : Nat → Int32} {S : Nat → Nat → Nat → Int32} {n sz : Nat} {r : Int32} (hR : RH S n sd sg) (m : RLd h s sd tp n sz r) : RLc h s S tp n sz r := by
  have e : hcI sd n = hsI S n := funext fun v => by
    unfold hcI hsI
    rw [cntE_cn hR n (Nat.le_refl _)]
  rcases m with m | ⟨m1, m2, c, m3, m4⟩
  · exact Or.inl m
  · rw [e] at m4
    exact Or.inr ⟨m1, m2, c, m3, m4⟩
