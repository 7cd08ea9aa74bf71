def RDs (h s : Nat → Int32) : Prop := ∀ u, u < 12 → ∀ v, v < 12 → h (12 * u + v) = h (12 * v + u) ∧ s (12 * u + v) = s (12 * v + u)
def CLn (h s c : Nat → Int32) : Prop := ∀ k, k < 12 → L1 h s k (fun i => c (12 * i + k)) ∧ FXa h s (fun i => c (12 * i + k))
def cI (c : Nat → Int32) (i k : Nat) : Int := (c (12 * i + k)).toInt
theorem CLn_a {h s c : Nat → Int32} {k : Nat} (hC : CLn h s c) (hk : k < 12) : (∀ i, i < 12 → 0 ≤ cI c i k ∧ cI c i k ≤ 1000000) ∧ cI c k k = 0 ∧ (∀ i, i < 12 → i = k ∨ cI c i k = 1000000 ∨ ∃ v, v < 12 ∧ ¬ h (12 * i + v) = 0 ∧ cI c v k + (h (12 * i + v) + s (12 * i + v)).toInt ≤ cI c i k) ∧ ∀ i, i < 12 → ∀ v, v < 12 → ¬ h (12 * i + v) = 0 → cI c i k ≤ cI c v k + (h (12 * i + v) + s (12 * i + v)).toInt := ⟨(hC k hk).1.1, (hC k hk).1.2.1, (hC k hk).1.2.2, fun i hi v hv hr => (hC k hk).2 i hi v hv hr⟩
theorem mt_tri {h s c : Nat → Int32} (hh : Rng h) (hs : Rng s) (hC : CLn h s c) {k j : Nat} (hk : k < 12) (hj : j < 12) : ∀ (n i : Nat), i < 12 → cI c i k < 1000000 → (cI c i k).toNat ≤ n → cI c i j ≤ cI c i k + cI c k j := by
  intro n
  induction n with
  | zero =>
    intro i hi hf hn
    have b := (CLn_a hC hk).1 i hi
    rcases (CLn_a hC hk).2.2.1 i hi with q | q | ⟨v, hv, hr, q⟩
    · subst q
      have := (CLn_a hC hi).2.1
      omega
    · omega
    · obtain ⟨e, a1, a2, a3, a4⟩ := ti_r hh hs hi hv
      have b2 := (CLn_a hC hk).1 v hv
      have b3 := i_ne hr
      omega
  | succ n ih =>
    intro i hi hf hn
    have b := (CLn_a hC hk).1 i hi
    rcases (CLn_a hC hk).2.2.1 i hi with q | q | ⟨v, hv, hr, q⟩
    · subst q
      have := (CLn_a hC hi).2.1
      omega
    · omega
    · obtain ⟨e, a1, a2, a3, a4⟩ := ti_r hh hs hi hv
      have b2 := (CLn_a hC hk).1 v hv
      have b3 := i_ne hr
      have b4 := ih v hv (by omega) (by omega)
      have b5 := (CLn_a hC hj).2.2.2 i hi v hv hr
      omega
theorem mt_sy {h s c : Nat → Int32} (hh : Rng h) (hs : Rng s) (hR : RDs h s) (hC : CLn h s c) {i : Nat} (hi : i < 12) : ∀ (n k : Nat), k < 12 → cI c k i < 1000000 → (cI c k i).toNat ≤ n → cI c i k ≤ cI c k i := by
  intro n
  induction n with
  | zero =>
    intro k hk hf hn
    have b := (CLn_a hC hi).1 k hk
    rcases (CLn_a hC hi).2.2.1 k hk with q | q | ⟨v, hv, hr, q⟩
    · subst q; exact Int.le_refl _
    · omega
    · obtain ⟨e, a1, a2, a3, a4⟩ := ti_r hh hs hk hv
      have b2 := (CLn_a hC hi).1 v hv
      have b3 := i_ne hr
      omega
  | succ n ih =>
    intro k hk hf hn
    have b := (CLn_a hC hi).1 k hk
    rcases (CLn_a hC hi).2.2.1 k hk with q | q | ⟨v, hv, hr, q⟩
    · subst q; exact Int.le_refl _
    · omega
    · obtain ⟨e, a1, a2, a3, a4⟩ := ti_r hh hs hk hv
      have b2 := (CLn_a hC hi).1 v hv
      have b3 := i_ne hr
      have b4 := ih v hv (by omega) (by omega)
      have r := hR k hk v hv
      have b5 := (CLn_a hC hk).2.2.2 v hv k hk (by rw [← r.1]; exact hr)
      have z := (CLn_a hC hk).2.1
      have t := mt_tri hh hs hC hv hk _ i hi (by omega) (Nat.le_refl _)
      rw [← r.1, ← r.2] at b5
      omega
theorem mt_eq {h s c : Nat → Int32} (hh : Rng h) (hs : Rng s) (hR : RDs h s) (hC : CLn h s c) {i k : Nat} (hi : i < 12) (hk : k < 12) : cI c i k = cI c k i := by
  have b1 := (CLn_a hC hi).1 k hk
  have b2 := (CLn_a hC hk).1 i hi
  by_cases a : cI c k i < 1000000
  · have x := mt_sy hh hs hR hC hi _ k hk a (Nat.le_refl _)
    have y := mt_sy hh hs hR hC hk _ i hi (by omega) (Nat.le_refl _)
    omega
  · by_cases b : cI c i k < 1000000
    · have y := mt_sy hh hs hR hC hk _ i hi b (Nat.le_refl _)
      omega
    · omega
theorem mt_bd {h s c : Nat → Int32} (hh : Rng h) (hs : Rng s) (hC : CLn h s c) {k : Nat} (hk : k < 12) : ∀ (n i : Nat), i < 12 → cI c i k < 1000000 → (cI c i k).toNat ≤ n → cI c i k ≤ 48 * (clN (fun x => (cI c x k).toNat) (cI c i k).toNat 12 : Int) := by
  intro n
  induction n with
  | zero =>
    intro i hi hf hn
    have b := (CLn_a hC hk).1 i hi
    omega
  | succ n ih =>
    intro i hi hf hn
    have b := (CLn_a hC hk).1 i hi
    rcases (CLn_a hC hk).2.2.1 i hi with q | q | ⟨v, hv, hr, q⟩
    · subst q
      have := (CLn_a hC hi).2.1
      omega
    · omega
    · obtain ⟨e, a1, a2, a3, a4⟩ := ti_r hh hs hi hv
      have b2 := (CLn_a hC hk).1 v hv
      have b3 := i_ne hr
      have b4 := ih v hv (by omega) (by omega)
      have b5 := (CLn_a hC hk).2.2.2 i hi v hv hr
      have st := clN_st (m := fun x => (cI c x k).toNat) (u := v) (y := (cI c i k).toNat) (by show (cI c v k).toNat < (cI c i k).toNat; omega) 12 hv
      have st' : (clN (fun x => (cI c x k).toNat) (cI c v k).toNat 12 : Int) + 1 ≤ (clN (fun x => (cI c x k).toNat) (cI c i k).toNat 12 : Int) := by exact_mod_cast st
      have b6 : cI c i k ≤ cI c v k + 48 := by omega
      omega
theorem MT_c {h s c : Nat → Int32} (hh : Rng h) (hs : Rng s) (hR : RDs h s) (hC : CLn h s c) : MTc (cI c) := by
  refine ⟨fun i hi => (CLn_a hC hi).2.1, fun i hi k hk => mt_eq hh hs hR hC hi hk, fun i hi k hk => ⟨((CLn_a hC hk).1 i hi).1, fun hf => ?_⟩, fun i hi k hk j hj h1 _ => mt_tri hh hs hC hk hj _ i hi h1 (Nat.le_refl _)⟩
  have a := mt_bd hh hs hC hk _ i hi hf (Nat.le_refl _)
  have b := clN_11 (m := fun x => (cI c x k).toNat) hi
  have b' : (clN (fun x => (cI c x k).toNat) (cI c i k).toNat 12 : Int) ≤ 11 := by exact_mod_cast b
  omega
theorem LP_c {h s c : Nat → Int32} {P : Nat → Int} (hh : Rng h) (hs : Rng s) (hC : CLn h s c) (hP : ∀ u, u < 12 → ∀ v, v < 12 → ¬ h (12 * u + v) = 0 → P u ≤ P v + (h (12 * u + v) + s (12 * u + v)).toInt) {k : Nat} (hk : k < 12) : ∀ (n i : Nat), i < 12 → cI c i k < 1000000 → (cI c i k).toNat ≤ n → P i ≤ P k + cI c i k := by
  intro n
  induction n with
  | zero =>
    intro i hi hf hn
    have b := (CLn_a hC hk).1 i hi
    rcases (CLn_a hC hk).2.2.1 i hi with q | q | ⟨v, hv, hr, q⟩
    · subst q
      omega
    · omega
    · obtain ⟨e, a1, a2, a3, a4⟩ := ti_r hh hs hi hv
      have b2 := (CLn_a hC hk).1 v hv
      have b3 := i_ne hr
      omega
  | succ n ih =>
    intro i hi hf hn
    have b := (CLn_a hC hk).1 i hi
    rcases (CLn_a hC hk).2.2.1 i hi with q | q | ⟨v, hv, hr, q⟩
    · subst q
      omega
    · omega
    · obtain ⟨e, a1, a2, a3, a4⟩ := ti_r hh hs hi hv
      have b2 := (CLn_a hC hk).1 v hv
      have b3 := i_ne hr
      have b4 := ih v hv (by omega) (by omega)
      have b5 := hP i hi v hv hr
      omega
