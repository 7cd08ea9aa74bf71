def NSk (S : Nat → Nat → Nat → Int32) (k : Nat) (x1 x2 : Int32) : Prop := (x1 = -1 ∧ x2 = 1000000 ∧ ∀ v, v < k → spI S v < 0 → ¬ paI S v < 1000000) ∨ ∃ g, g < 12 ∧ x1 = nI g ∧ spI S g < 0 ∧ paI S g < 1000000 ∧ x2 = S 688 0 g
theorem NSk_0 {S : Nat → Nat → Nat → Int32} : NSk S 0 (-1) 1000000 := Or.inl ⟨rfl, rfl, fun _ w => absurd w (by omega)⟩
theorem NSk_p {S : Nat → Nat → Nat → Int32} {k : Nat} {x1 x2 : Int32} (h : NSk S k x1 x2) (c : 0 ≤ S 656 0 k) : NSk S (k + 1) x1 x2 := by
  rcases h with ⟨a, b, d⟩ | h
  · refine Or.inl ⟨a, b, fun v hv s => ?_⟩
    by_cases z : v = k
    · subst z
      rw [le_i, show (0 : Int32).toInt = 0 from by decide] at c
      unfold spI at s; omega
    · exact d v (by omega) s
  · exact Or.inr h
theorem NSk_n {S : Nat → Nat → Nat → Int32} {k : Nat} {x1 x2 : Int32} (h : NSk S k x1 x2) (c : x2 ≤ S 688 0 k) : NSk S (k + 1) x1 x2 := by
  rcases h with ⟨a, b, d⟩ | h
  · refine Or.inl ⟨a, b, fun v hv s => ?_⟩
    by_cases z : v = k
    · subst z
      rw [b, le_i, far_i] at c
      unfold paI; omega
    · exact d v (by omega) s
  · exact Or.inr h
theorem NSk_y {S : Nat → Nat → Nat → Int32} {k : Nat} {x1 x2 : Int32} (hk : k < 12) (h : NSk S k x1 x2) (c : ¬ 0 ≤ S 656 0 k) (c2 : ¬ x2 ≤ S 688 0 k) : NSk S (k + 1) (nI k) (S 688 0 k) := by
  rw [le_i, show (0 : Int32).toInt = 0 from by decide] at c
  have f : (S 688 0 k).toInt < 1000000 := by
    rcases h with ⟨_, b, _⟩ | ⟨g, _, _, _, b1, b2⟩
    · rw [b, le_i, far_i] at c2; omega
    · rw [b2, le_i] at c2; unfold paI at b1; omega
  exact Or.inr ⟨k, hk, rfl, by unfold spI; omega, f, rfl⟩
def NSr (S : Nat → Nat → Nat → Int32) (r : Int32) : Prop := (r = -1 ∧ ∀ v, v < 12 → spI S v < 0 → ¬ paI S v < 1000000) ∨ ∃ g, g < 12 ∧ r = nI g ∧ spI S g < 0 ∧ paI S g < 1000000
theorem NSk_e {S : Nat → Nat → Nat → Int32} {x1 x2 : Int32} (h : NSk S 12 x1 x2) : NSr S x1 := by
  rcases h with ⟨a, _, d⟩ | ⟨g, h1, h2, h3, h4, _⟩
  · exact Or.inl ⟨a, d⟩
  · exact Or.inr ⟨g, h1, h2, h3, h4⟩
def CBk (S : Nat → Nat → Nat → Int32) (pi : Nat → Int) (kk : Nat → Nat) (ck : Nat) : Prop := CBc (rdS S) (tI S) (lI S) (spI S) pi (paI S) (frI S) kk ck
def FXs (S : Nat → Nat → Nat → Int32) : Prop := FXb (rdS S) (tI S) (lI S) (paI S)
def CHs (S : Nat → Nat → Nat → Int32) (pi : Nat → Int) (kk : Nat → Nat) (ck g n : Nat) : Prop := CHn (rdS S) (tI S) (lI S) pi (paI S) (frI S) kk ck g n
def cg (S : Nat → Nat → Nat → Int32) (g n : Nat) : Nat := chn (frI S) g n
theorem CHs_x {S : Nat → Nat → Nat → Int32} {pi : Nat → Int} {kk : Nat → Nat} {ck g n : Nat} (hB : CBk S pi kk ck) (hX : FXs S) (h : CHs S pi kk ck g n) (c : ¬ sp_st (S 704 0 (cg S g n)) = 0) : CHs S pi kk ck g (n + 1) ∧ S 704 0 (cg S g n) = nI (cg S g (n + 1)) ∧ cg S g (n + 1) < 12 ∧ n + 1 ≤ 11 := by
  obtain ⟨u, hu, e⟩ := st_of c
  have ns : ¬ 0 < spI S (cg S g n) := fun w => by
    have z := (hB.2.1 _ (h.1 n (Nat.le_refl _)).1 w).2
    unfold frI at z
    have z' : (S 704 0 (cg S g n)).toInt = -1 := z
    rw [e, nI_toInt (by omega)] at z'
    omega
  have h1 := CH_s hB hX h ns
  have f : frI S (cg S g n) = (cg S g (n + 1) : Int) := (h1.2 n (by omega)).1
  have b : cg S g (n + 1) < 12 := (h1.1 (n + 1) (Nat.le_refl _)).1
  have cl := CH_cl (n + 1) h1
  refine ⟨h1, ?_, b, by omega⟩
  rw [eq_I, nI_toInt (by omega)]
  exact f
theorem CHs_e {S : Nat → Nat → Nat → Int32} {pi : Nat → Int} {kk : Nat → Nat} {ck g n : Nat} (hB : CBk S pi kk ck) (h : CHs S pi kk ck g n) (c : sp_st (S 704 0 (cg S g n)) = 0) : 0 < spI S (cg S g n) := Classical.byContradiction fun w => by
  obtain ⟨hv, hf⟩ := h.1 n (Nat.le_refl _)
  rcases hB.2.2 _ hv w with ⟨q, _⟩ | ⟨q, u, hu, e, _⟩
  · have hf' : paI S (cg S g n) < 1000000 := hf
    have q' : paI S (cg S g n) = 1000000 := q
    omega
  · have e' : (S 704 0 (cg S g n)).toInt = (u : Int) := e
    have : S 704 0 (cg S g n) = nI u := by rw [eq_I, nI_toInt (by omega)]; exact e'
    rw [this] at c
    exact st_nz hu c
def HAk (S : Nat → Nat → Nat → Int32) (pi : Nat → Int) (kk : Nat → Nat) (ck g k : Nat) (x : Int32) : Prop := CHs S pi kk ck g k ∧ 1 ≤ x.toInt ∧ x.toInt ≤ -(spI S g) ∧ ∀ j, j < k → 0 < lI S (cg S g j) (cg S g (j + 1)) → x.toInt ≤ lI S (cg S g j) (cg S g (j + 1))
theorem HA_0 {S : Nat → Nat → Nat → Int32} {pi : Nat → Int} {kk : Nat → Nat} {ck g : Nat} (hg : g < 12) (hf : paI S g < 1000000) (hs : spI S g < 0) (hb : -1000 ≤ spI S g) : HAk S pi kk ck g 0 (-(S 656 0 g)) := by
  have e : (-(S 656 0 g)).toInt = -(spI S g) := neg_i (by unfold spI at hb hs; omega)
  exact ⟨CH_0 hg hf, by omega, by omega, fun _ w => absurd w (by omega)⟩
theorem HA_n {S : Nat → Nat → Nat → Int32} {pi : Nat → Int} {kk : Nat → Nat} {ck g k : Nat} {x : Int32} (h : HAk S pi kk ck g k x) (h1 : CHs S pi kk ck g (k + 1)) (c : S 720 (cg S g k) (cg S g (k + 1)) ≤ 0) : HAk S pi kk ck g (k + 1) x := by
  obtain ⟨_, b, d, e⟩ := h
  refine ⟨h1, b, d, fun j hj w => ?_⟩
  by_cases z : j = k
  · subst z
    rw [le_i, show (0 : Int32).toInt = 0 from by decide] at c
    unfold lI at w; omega
  · exact e j (by omega) w
theorem HA_y {S : Nat → Nat → Nat → Int32} {pi : Nat → Int} {kk : Nat → Nat} {ck g k : Nat} {x y : Int32} (h : HAk S pi kk ck g k x) (h1 : CHs S pi kk ck g (k + 1)) (c : ¬ S 720 (cg S g k) (cg S g (k + 1)) ≤ 0) (hy : y = if S 720 (cg S g k) (cg S g (k + 1)) < x then S 720 (cg S g k) (cg S g (k + 1)) else x) : HAk S pi kk ck g (k + 1) y := by
  obtain ⟨_, b, d, e⟩ := h
  rw [le_i, show (0 : Int32).toInt = 0 from by decide] at c
  have yb : 1 ≤ y.toInt ∧ y.toInt ≤ x.toInt ∧ y.toInt ≤ (S 720 (cg S g k) (cg S g (k + 1))).toInt := by
    rw [hy]
    by_cases z : S 720 (cg S g k) (cg S g (k + 1)) < x
    · rw [if_pos z]; rw [lt_i] at z; omega
    · rw [if_neg z]; rw [lt_i] at z; omega
  refine ⟨h1, yb.1, by omega, fun j hj w => ?_⟩
  by_cases z : j = k
  · subst z; exact yb.2.2
  · have := e j (by omega) w; omega
def HAf (S : Nat → Nat → Nat → Int32) (pi : Nat → Int) (kk : Nat → Nat) (ck g n : Nat) (q : Int32) : Prop := CHs S pi kk ck g n ∧ n ≤ 11 ∧ 0 < spI S (cg S g n) ∧ 1 ≤ q.toInt ∧ q.toInt ≤ -(spI S g) ∧ q.toInt ≤ spI S (cg S g n) ∧ ∀ j, j < n → 0 < lI S (cg S g j) (cg S g (j + 1)) → q.toInt ≤ lI S (cg S g j) (cg S g (j + 1))
theorem HA_e {S : Nat → Nat → Nat → Int32} {pi : Nat → Int} {kk : Nat → Nat} {ck g n : Nat} {x q : Int32} (h : HAk S pi kk ck g n x) (hs : 0 < spI S (cg S g n)) (hq : q = if S 656 0 (cg S g n) < x then S 656 0 (cg S g n) else x) : HAf S pi kk ck g n q := by
  obtain ⟨a, b, d, e⟩ := h
  have cl := CH_cl n a
  have qb : 1 ≤ q.toInt ∧ q.toInt ≤ x.toInt ∧ q.toInt ≤ (S 656 0 (cg S g n)).toInt := by
    rw [hq]
    unfold spI at hs
    by_cases z : S 656 0 (cg S g n) < x
    · rw [if_pos z]; rw [lt_i] at z; omega
    · rw [if_neg z]; rw [lt_i] at z; omega
  exact ⟨a, by omega, hs, qb.1, by omega, qb.2.2, fun j hj w => by have := e j hj w; omega⟩
def ALs (S T : Nat → Nat → Nat → Int32) : Prop := ∀ c, ¬ c = 656 → ¬ c = 720 → T c = S c
theorem ALs.up {S T : Nat → Nat → Nat → Int32} {c i j : Nat} {v : Int32} (h : ALs S T) (hc : c = 656 ∨ c = 720) : ALs S (up3 T c i j v) := fun c' h1 h2 => by
  rw [up3_c (fun q : c' = c => by rcases hc with w | w; exact h1 (q.trans w); exact h2 (q.trans w))]
  exact h c' h1 h2
def LAk (S T : Nat → Nat → Nat → Int32) (pi : Nat → Int) (kk : Nat → Nat) (ck g : Nat) (q : Int32) (n : Nat) : Prop := ALs S T ∧ (∀ v, spI T v = if v = g then spI S v + q.toInt else spI S v) ∧ LEk (rdS S) (tI S) (lI S) pi (paI S) (frI S) kk ck g q.toInt (lI T) n
theorem lI_up {T : Nat → Nat → Nat → Int32} {a b : Nat} {v : Int32} : lI (up3 T 720 a b v) = u2 (lI T) a b v.toInt := by
  funext i j
  unfold lI
  by_cases z : i = a ∧ j = b
  · obtain ⟨z1, z2⟩ := z
    subst z1; subst z2
    rw [up3_s, u2_s]
  · rw [u2_n z]
    by_cases y : i = a
    · subst y
      rw [up3_n (fun w => z ⟨rfl, w⟩)]
    · rw [up3_o (fun w => y w.2)]
theorem LA_0 {S : Nat → Nat → Nat → Int32} {pi : Nat → Int} {kk : Nat → Nat} {ck g : Nat} {q : Int32} (hq : 0 ≤ q.toInt ∧ q.toInt ≤ 1000) (hs : -1000 ≤ spI S g ∧ spI S g ≤ 1000) (hl : ∀ a, a < 12 → ∀ b, b < 12 → 0 ≤ lI S a b) : LAk S (up3 S 656 0 g (S 656 0 g + q)) pi kk ck g q 0 := by
  have e : (S 656 0 g + q).toInt = spI S g + q.toInt := a_i (by unfold spI at hs; omega) (by unfold spI at hs; omega)
  refine ⟨ALs.up (fun _ _ _ => rfl) (Or.inl rfl), fun v => ?_, ?_⟩
  · unfold spI
    by_cases z : v = g
    · subst z; rw [up3_s, if_pos rfl]; exact e
    · rw [up3_n z, if_neg z]
  · have el : lI (up3 S 656 0 g (S 656 0 g + q)) = lI S := by
      funext i j; unfold lI; rw [up3_c (by decide)]
    rw [el]
    exact LE_0 hq.1 hl
theorem LA_s {S T : Nat → Nat → Nat → Int32} {pi : Nat → Int} {kk : Nat → Nat} {ck g n : Nat} {q x : Int32} {a b : Nat} (hSy : Sy S) (hq : 0 ≤ q.toInt) (h1 : CHs S pi kk ck g (n + 1)) (hb : 0 < lI S (cg S g n) (cg S g (n + 1)) → q.toInt ≤ lI S (cg S g n) (cg S g (n + 1))) (h : LAk S T pi kk ck g q n) (hu : (0 < lI T (cg S g n) (cg S g (n + 1)) ∧ a = cg S g n ∧ b = cg S g (n + 1) ∧ x.toInt = lI T a b - q.toInt) ∨ (¬ 0 < lI T (cg S g n) (cg S g (n + 1)) ∧ a = cg S g (n + 1) ∧ b = cg S g n ∧ x.toInt = lI T a b + q.toInt)) : LAk S (up3 T 720 a b x) pi kk ck g q (n + 1) := by
  obtain ⟨a1, a2, a3⟩ := h
  refine ⟨ALs.up a1 (Or.inr rfl), fun v => ?_, ?_⟩
  · unfold spI
    rw [up3_c (by decide)]
    exact a2 v
  · have e : lI (up3 T 720 a b x) = arU (lI T) (cg S g (n + 1)) (cg S g n) q.toInt := by
      rw [lI_up]
      unfold arU
      rcases hu with ⟨c, e1, e2, e3⟩ | ⟨c, e1, e2, e3⟩
      · rw [if_pos c, e3, e1, e2]
      · rw [if_neg c, e3, e1, e2]
    rw [e]
    exact LE_s (fun u v => tI_sy hSy u v) hq h1 hb a3
def LAf (S T : Nat → Nat → Nat → Int32) (pi : Nat → Int) (kk : Nat → Nat) (ck g n : Nat) (q : Int32) : Prop := ALs S T ∧ (∀ v, v < 12 → spI T v = spI S v + (if v = g then q.toInt else 0) - (if v = cg S g n then q.toInt else 0)) ∧ LEk (rdS S) (tI S) (lI S) pi (paI S) (frI S) kk ck g q.toInt (lI T) n
theorem LA_e {S T : Nat → Nat → Nat → Int32} {pi : Nat → Int} {kk : Nat → Nat} {ck g n : Nat} {q : Int32} (hq : 0 ≤ q.toInt ∧ q.toInt ≤ 1000) (hs : ∀ v, v < 12 → -1000 ≤ spI S v ∧ spI S v ≤ 1000) (hc : cg S g n < 12) (h : LAk S T pi kk ck g q n) : LAf S (up3 T 656 0 (cg S g n) (T 656 0 (cg S g n) - q)) pi kk ck g n q := by
  obtain ⟨a1, a2, a3⟩ := h
  have b := a2 (cg S g n)
  have s := hs _ hc
  have e : (T 656 0 (cg S g n) - q).toInt = spI T (cg S g n) - q.toInt := s_i (by unfold spI at b s; split at b <;> omega) (by unfold spI at b s; split at b <;> omega)
  refine ⟨ALs.up a1 (Or.inl rfl), fun v hv => ?_, ?_⟩
  · by_cases z : v = cg S g n
    · subst z
      rw [if_pos rfl]
      show (up3 T 656 0 (cg S g n) (T 656 0 (cg S g n) - q) 656 0 (cg S g n)).toInt = _
      rw [up3_s, e, b]
      split <;> omega
    · rw [if_neg z]
      show (up3 T 656 0 (cg S g n) (T 656 0 (cg S g n) - q) 656 0 v).toInt = _
      rw [up3_n z]
      have := a2 v
      unfold spI at this ⊢
      rw [this]
      split <;> omega
  · have el : lI (up3 T 656 0 (cg S g n) (T 656 0 (cg S g n) - q)) = lI T := by
      funext i j; unfold lI; rw [up3_c (by decide)]
    rw [el]; exact a3
