def inN (x : Int32) (v : Nat) : Int := if x = nI v then 1 else 0
theorem in_1 {x : Int32} : ∀ m, m ≤ 12 → 0 ≤ sI (inN x) m ∧ sI (inN x) m ≤ 1 ∧ (sI (inN x) m = 0 ∨ ∃ v, v < m ∧ x = nI v)
  | 0, _ => ⟨Int.le_refl _, by show (0 : Int) ≤ 1; omega, Or.inl rfl⟩
  | m + 1, hm => by
    obtain ⟨a, b, c⟩ := in_1 (x := x) m (by omega)
    show 0 ≤ sI (inN x) m + inN x m ∧ sI (inN x) m + inN x m ≤ 1 ∧ (sI (inN x) m + inN x m = 0 ∨ ∃ v, v < m + 1 ∧ x = nI v)
    by_cases e : x = nI m
    · have i : inN x m = 1 := if_pos e
      have z : sI (inN x) m = 0 := by
        rcases c with c | ⟨v, hv, w⟩
        · exact c
        · exfalso
          have := nI_inj (by omega) (by omega) (e.symm.trans w)
          omega
      exact ⟨by omega, by omega, Or.inr ⟨m, by omega, e⟩⟩
    · have i : inN x m = 0 := if_neg e
      refine ⟨by omega, by omega, ?_⟩
      rcases c with c | ⟨v, hv, w⟩
      · exact Or.inl (by omega)
      · exact Or.inr ⟨v, by omega, w⟩
def hsI (S : Nat → Nat → Nat → Int32) (n v : Nat) : Int := (cn (pH S (nI v)) n : Int)
theorem hs_s {S : Nat → Nat → Nat → Int32} {n v : Nat} : hsI S (n + 1) v = hsI S n v + inN (S 1 n 0) v := by
  show ((cn (pH S (nI v)) n + pH S (nI v) n : Nat) : Int) = (cn (pH S (nI v)) n : Int) + _
  unfold pH inN
  by_cases e : S 1 n 0 = nI v
  · rw [if_pos e, if_pos e]; omega
  · rw [if_neg e, if_neg e]; omega
theorem hs_n {S : Nat → Nat → Nat → Int32} : ∀ n, sI (hsI S n) 12 ≤ (n : Int)
  | 0 => by rw [sI_0 (f := hsI S 0) (fun i _ => rfl)]; omega
  | n + 1 => by
    have e : sI (hsI S (n + 1)) 12 = sI (hsI S n) 12 + sI (inN (S 1 n 0)) 12 := by
      rw [← sI_add]; exact sI_c 12 (fun v _ => hs_s)
    have a := hs_n (S := S) n
    have b := (in_1 (x := S 1 n 0) 12 (by omega)).2.1
    omega
theorem hs_b {S : Nat → Nat → Nat → Int32} {n v : Nat} (hv : v < 12) : 0 ≤ hsI S n v ∧ hsI S n v ≤ (n : Int) := by
  have p : ∀ i, 0 ≤ hsI S n i := fun i => by unfold hsI; omega
  refine ⟨p v, ?_⟩
  have a := hs_n (S := S) n
  have b := sI_uf (f := hsI S n) (v := v) (x := 0) 12 hv
  have c := sI_pos (f := uf (hsI S n) v 0) (n := 12) (fun i _ => by
    by_cases e : i = v
    · subst e; rw [uf_s]; exact Int.le_refl _
    · rw [uf_n e]; exact p i)
  omega
theorem pH_e {S T : Nat → Nat → Nat → Int32} (h : AG S T) {p : Int32} : pH T p = pH S p := by
  funext k
  unfold pH
  rw [h 1 (by decide)]
def SPk (S T : Nat → Nat → Nat → Int32) (n ln : Nat) (ab : Nat → Int32) (x : Int32) (k : Nat) : Prop := (x = 1 ∧ ln = 12 ∧ ∀ v, v < k → ab v ≤ 60 ∧ T 656 0 v = nI (cn (pH S (nI v)) n) - ab v) ∨ (x = 0 ∧ (¬ ln = 12 ∨ ∃ v, v < 12 ∧ ¬ ab v ≤ 60))
theorem SP_0 {S T : Nat → Nat → Nat → Int32} {n ln : Nat} {ab : Nat → Int32} (c : nI ln = 12) (hl : ln ≤ 200) : SPk S T n ln ab 1 0 := Or.inl ⟨rfl, nI_inJ (n := 12) c (by omega) (by decide), fun _ w => absurd w (by omega)⟩
theorem SP_9 {S T : Nat → Nat → Nat → Int32} {n ln : Nat} {ab : Nat → Int32} (c : ¬ nI ln = 12) : SPk S T n ln ab 0 0 := Or.inr ⟨rfl, Or.inl (fun q => c (by rw [q]; rfl))⟩
theorem SP_y {S T U : Nat → Nat → Nat → Int32} {n ln k : Nat} {ab : Nat → Int32} {x : Int32} (hk : k < 12) (h : SPk S T n ln ab x k) (hx : ¬ x = 0) (hA : AG S T) (c : ¬ 60 < PBy ab ln k) (e : U = up3 T 656 0 k (nI (cn (pH T (nI k)) n) - PBy ab ln k)) : SPk S U n ln ab 1 (k + 1) := by
  rcases h with ⟨_, a, b⟩ | ⟨a, _⟩
  · subst e
    rw [PB_i (by omega)] at c ⊢
    refine Or.inl ⟨rfl, a, fun v hv => ?_⟩
    by_cases z : v = k
    · subst z
      rw [up3_s, pH_e hA]
      exact ⟨Int32.not_lt.mp c, rfl⟩
    · rw [up3_n z]; exact b v (by omega)
  · exact absurd a hx
theorem SP_n {S T U : Nat → Nat → Nat → Int32} {n ln k : Nat} {ab : Nat → Int32} {x : Int32} (hk : k < 12) (h : SPk S T n ln ab x k) (hx : ¬ x = 0) (c : 60 < PBy ab ln k) : SPk S U n ln ab 0 (k + 1) := by
  rcases h with ⟨_, a, b⟩ | ⟨a, _⟩
  · rw [PB_i (by omega)] at c
    exact Or.inr ⟨rfl, Or.inr ⟨k, hk, Int32.not_le.mpr c⟩⟩
  · exact absurd a hx
theorem SP_h {S T : Nat → Nat → Nat → Int32} {n ln : Nat} {ab : Nat → Int32} {x : Int32} (hn : n ≤ 60) (hSy : Sy S) (hRg : RgS S) (hB : Byt (PBy ab ln) ln) (hA : AG S T) (h : SPk S T n ln ab x 12) (hx : ¬ x = 0) : ln = 12 ∧ (∀ v, v < 12 → ab v ≤ 60) ∧ (∀ v, v < 12 → spI T v = hsI S n v - (ab v).toInt) ∧ LPh T := by
  rcases h with ⟨_, a, b⟩ | ⟨a, _⟩
  · have by_ : ∀ v, v < 12 → 0 ≤ (ab v).toInt ∧ (ab v).toInt ≤ 60 := fun v hv => by
      have w := (hB.1 v (by omega)).1
      rw [PB_i (by omega)] at w
      have z := (b v hv).1
      rw [le_i, i60] at z
      omega
    have sp : ∀ v, v < 12 → spI T v = hsI S n v - (ab v).toInt := fun v hv => by
      have z := by_ v hv
      have y := hs_b (S := S) (n := n) hv
      have e : (nI (cn (pH S (nI v)) n)).toInt = hsI S n v := nI_toInt (by unfold hsI at y; omega)
      show (T 656 0 v).toInt = _
      rw [(b v hv).2, s_i (by rw [e]; omega) (by rw [e]; omega), e]
    refine ⟨a, fun v hv => (b v hv).1, sp, Sy.fr hSy (AG.fr hA), RgS.fr hRg (AG.fr hA), fun v hv => ?_, ?_⟩
    · have z := by_ v hv
      have y := hs_b (S := S) (n := n) hv
      rw [sp v hv]; omega
    · have l := sI_le (f := ps (spI T)) (g := hsI S n) 12 (fun v hv => by
        have z := by_ v hv
        have y := hs_b (S := S) (n := n) hv
        unfold ps
        rw [sp v hv]
        split <;> omega)
      have y := hs_n (S := S) n
      omega
  · exact absurd a hx
def LEc (S T : Nat → Nat → Nat → Int32) (n ln : Nat) (ab : Nat → Int32) (r : Int32) : Prop := (r = -1 ∧ (¬ ln = 12 ∨ ∃ v, v < 12 ∧ ¬ ab v ≤ 60)) ∨ (ln = 12 ∧ (∀ v, v < 12 → ab v ≤ 60) ∧ ∃ R, FR S R ∧ (∀ v, v < 12 → spI R v = hsI S n v - (ab v).toInt) ∧ LPh R ∧ LPf R T r)
theorem LE_m {S T U : Nat → Nat → Nat → Int32} {n ln k : Nat} {ab : Nat → Int32} {x : Int32} (h : SPk S T n ln ab x k) (hx : x = 0) : LEc S U n ln ab (-1) := by
  rcases h with ⟨a, _⟩ | ⟨_, a⟩
  · rw [a] at hx; exact absurd hx (by decide)
  · exact Or.inl ⟨rfl, a⟩
