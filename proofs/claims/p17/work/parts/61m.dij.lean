def hF (S : Nat → Nat → Nat → Int32) : Nat → Int32 := fun n => S 416 (n / 12) (n % 12)
def sF (S : Nat → Nat → Nat → Int32) : Nat → Int32 := fun n => S 432 (n / 12) (n % 12)
theorem hF_at {S : Nat → Nat → Nat → Int32} {u v : Nat} (hv : v < 12) : hF S (12 * u + v) = S 416 u v := by
  unfold hF; rw [show (12 * u + v) / 12 = u by omega, show (12 * u + v) % 12 = v by omega]
theorem sF_at {S : Nat → Nat → Nat → Int32} {u v : Nat} (hv : v < 12) : sF S (12 * u + v) = S 432 u v := by
  unfold sF; rw [show (12 * u + v) / 12 = u by omega, show (12 * u + v) % 12 = v by omega]
def Sy (S : Nat → Nat → Nat → Int32) : Prop := ∀ u, u < 12 → S 416 u u = 0 ∧ ∀ v, v < 12 → S 416 u v = S 416 v u ∧ S 432 u v = S 432 v u
def RgS (S : Nat → Nat → Nat → Int32) : Prop := ∀ u, u < 12 → ∀ v, v < 12 → (0 ≤ (S 416 u v).toInt ∧ (S 416 u v).toInt ≤ 24) ∧ (0 ≤ (S 432 u v).toInt ∧ (S 432 u v).toInt ≤ 24)
theorem Sy.fr {S T : Nat → Nat → Nat → Int32} (h : Sy S) (f : FR S T) : Sy T := fun u hu => by
  rw [f.1, f.2]; exact h u hu
theorem RgS.fr {S T : Nat → Nat → Nat → Int32} (h : RgS S) (f : FR S T) : RgS T := fun u hu => by
  rw [f.1, f.2]; exact h u hu
theorem tmN_fr {S T : Nat → Nat → Nat → Int32} {u v : Nat} (f : FR S T) : tmN T u v = tmN S u v := by
  unfold tmN; rw [f.1, f.2]
theorem tmN_z {S : Nat → Nat → Nat → Int32} {u v : Nat} (h : S 416 u v = 0) : tmN S u v = -1 := by
  unfold tmN; rw [if_pos h]
theorem tmN_p {S : Nat → Nat → Nat → Int32} {u v : Nat} (hr : RgS S) (hu : u < 12) (hv : v < 12) (h : ¬ S 416 u v = 0) : tmN S u v = S 416 u v + S 432 u v ∧ (S 416 u v + S 432 u v).toInt = (S 416 u v).toInt + (S 432 u v).toInt ∧ 1 ≤ (S 416 u v + S 432 u v).toInt ∧ (S 416 u v + S 432 u v).toInt ≤ 48 := by
  have a := hr u hu v hv
  have ne := i_ne h
  have e : (S 416 u v + S 432 u v).toInt = (S 416 u v).toInt + (S 432 u v).toInt := a_i (by omega) (by omega)
  refine ⟨?_, e, by omega, by omega⟩
  unfold tmN; rw [if_neg h]
theorem tmN_m {S : Nat → Nat → Nat → Int32} {u v : Nat} (hr : RgS S) (hu : u < 12) (hv : v < 12) (h : ¬ S 416 u v = 0) : ¬ tmN S u v = -1 := fun q => by
  obtain ⟨e, e2, h1, h2⟩ := tmN_p hr hu hv h
  rw [e] at q
  have z := congrArg Int32.toInt q
  rw [show (-1 : Int32).toInt = -1 from rfl] at z
  omega
def cnz (d : Nat → Int32) : Nat → Nat
  | 0 => 0
  | n + 1 => cnz d n + (if d n = 0 then 0 else 1)
theorem cnz_le {d : Nat → Int32} : ∀ n, cnz d n ≤ n
  | 0 => Nat.le_refl _
  | n + 1 => by
    show cnz d n + (if d n = 0 then 0 else 1) ≤ n + 1
    have := cnz_le (d := d) n
    split <;> omega
theorem cnz_0 {d : Nat → Int32} : ∀ n, (∀ i, i < n → d i = 0) → cnz d n = 0
  | 0, _ => rfl
  | n + 1, h => by
    show cnz d n + (if d n = 0 then 0 else 1) = 0
    rw [cnz_0 n (fun i hi => h i (by omega)), if_pos (h n (by omega))]
theorem cnz_f {d : Nat → Int32} : ∀ n, cnz d n = n → ∀ i, i < n → ¬ d i = 0
  | 0, _, _, hi => absurd hi (by omega)
  | n + 1, h, i, hi => by
    have h : cnz d n + (if d n = 0 then 0 else 1) = n + 1 := h
    have h2 := cnz_le (d := d) n
    by_cases q : d n = 0
    · rw [if_pos q] at h; omega
    · rw [if_neg q] at h
      by_cases e : i = n
      · rw [e]; exact q
      · exact cnz_f n (by omega) i (by omega)
theorem cnz_s {d : Nat → Int32} {u : Nat} {x : Int32} : ∀ n, n ≤ u → cnz (upd d u x) n = cnz d n
  | 0, _ => rfl
  | n + 1, h => by
    show cnz (upd d u x) n + (if upd d u x n = 0 then 0 else 1) = cnz d n + (if d n = 0 then 0 else 1)
    rw [cnz_s n (by omega), up_n (by omega)]
theorem cnz_u {d : Nat → Int32} {u : Nat} (h0 : d u = 0) : ∀ n, u < n → cnz (upd d u 1) n = cnz d n + 1
  | 0, h => absurd h (by omega)
  | n + 1, h => by
    show cnz (upd d u 1) n + (if upd d u 1 n = 0 then 0 else 1) = cnz d n + (if d n = 0 then 0 else 1) + 1
    by_cases e : n = u
    · subst e
      rw [cnz_s n (Nat.le_refl _), up_s, if_neg (by decide), if_pos h0]
    · rw [cnz_u h0 n (by omega), up_n e]; omega
def NUr (g d : Nat → Int32) (r : Int32) : Prop := (r = -1 ∧ ∀ v, v < 12 → d v = 0 → ¬ g v < 1000000) ∨ ∃ j, j < 12 ∧ r = nI j ∧ d j = 0 ∧ g j < 1000000 ∧ ∀ v, v < 12 → d v = 0 → (g j).toInt ≤ (g v).toInt
def NUk (g d : Nat → Int32) (k : Nat) (x y : Int32) : Prop := (x = -1 ∧ y = 1000000 ∧ ∀ v, v < k → d v = 0 → ¬ g v < 1000000) ∨ ∃ j, j < k ∧ x = nI j ∧ y = g j ∧ d j = 0 ∧ g j < 1000000 ∧ ∀ v, v < k → d v = 0 → (g j).toInt ≤ (g v).toInt
theorem NUk_0 {g d : Nat → Int32} : NUk g d 0 (-1) 1000000 := Or.inl ⟨rfl, rfl, fun _ h => absurd h (Nat.not_lt_zero _)⟩
theorem NUk_e {g d : Nat → Int32} {x y : Int32} (h : NUk g d 12 x y) : NUr g d x := by
  rcases h with ⟨a, _, b⟩ | ⟨j, a, b, _, c⟩
  · exact Or.inl ⟨a, b⟩
  · exact Or.inr ⟨j, a, b, c⟩
theorem NUk_s {g d : Nat → Int32} {k : Nat} {x y : Int32} (h : NUk g d k x y) (c : ¬ d k = 0) : NUk g d (k + 1) x y := by
  rcases h with ⟨a, b, e⟩ | ⟨j, a, b, e, e1, e2, e3⟩
  · refine Or.inl ⟨a, b, fun v hv hd => ?_⟩
    by_cases q : v = k
    · subst q; exact absurd hd c
    · exact e v (by omega) hd
  · refine Or.inr ⟨j, by omega, b, e, e1, e2, fun v hv hd => ?_⟩
    by_cases q : v = k
    · subst q; exact absurd hd c
    · exact e3 v (by omega) hd
theorem NUk_n {g d : Nat → Int32} {k : Nat} {x y : Int32} (h : NUk g d k x y) (c : ¬ g k < y) : NUk g d (k + 1) x y := by
  rcases h with ⟨a, b, e⟩ | ⟨j, a, b, e, e1, e2, e3⟩
  · refine Or.inl ⟨a, b, fun v hv hd => ?_⟩
    by_cases q : v = k
    · subst q; rw [b] at c; exact c
    · exact e v (by omega) hd
  · refine Or.inr ⟨j, by omega, b, e, e1, e2, fun v hv hd => ?_⟩
    by_cases q : v = k
    · subst q; rw [e, lt_i] at c; omega
    · exact e3 v (by omega) hd
theorem NUk_y {g d : Nat → Int32} {k : Nat} {x y : Int32} (h : NUk g d k x y) (hd : d k = 0) (c : g k < y) : NUk g d (k + 1) (nI k) (g k) := by
  rcases h with ⟨a, b, e⟩ | ⟨j, a, b, e, e1, e2, e3⟩
  · rw [b] at c
    refine Or.inr ⟨k, by omega, rfl, rfl, hd, c, fun v hv hdv => ?_⟩
    by_cases q : v = k
    · subst q; exact Int.le_refl _
    · have := e v (by omega) hdv
      rw [lt_i, far_i] at this c
      omega
  · rw [e, lt_i] at c
    refine Or.inr ⟨k, by omega, rfl, rfl, hd, ?_, fun v hv hdv => ?_⟩
    · rw [lt_i, far_i] at e2 ⊢; omega
    · by_cases q : v = k
      · subst q; exact Int.le_refl _
      · have := e3 v (by omega) hdv; omega
def rlx (S : Nat → Nat → Nat → Int32) (u v : Nat) : Int32 := if tmN S u v = -1 then S 496 0 v else if S 496 0 u + tmN S u v < S 496 0 v then S 496 0 u + tmN S u v else S 496 0 v
def SLk (S T : Nat → Nat → Nat → Int32) (u k : Nat) : Prop := T 512 0 = upd (S 512 0) u 1 ∧ ∀ v, v < 12 → T 496 0 v = if v < k then rlx S u v else S 496 0 v
theorem SL_0 {S : Nat → Nat → Nat → Int32} {u : Nat} : SLk S (up3 S 512 0 u 1) u 0 := ⟨up3_a, fun v _ => by rw [up3_c (by decide), if_neg (Nat.not_lt_zero _)]⟩
theorem SL_u {S T : Nat → Nat → Nat → Int32} {u k : Nat} (h : SLk S T u k) (hu : u < 12) (hz : S 416 u u = 0) : T 496 0 u = S 496 0 u := by
  rw [h.2 u hu]
  by_cases q : u < k
  · rw [if_pos q]; unfold rlx; rw [if_pos (tmN_z hz)]
  · rw [if_neg q]
theorem SL_v {S T : Nat → Nat → Nat → Int32} {u k : Nat} (h : SLk S T u k) (hk : k < 12) : T 496 0 k = S 496 0 k := by
  rw [h.2 k hk, if_neg (Nat.lt_irrefl _)]
theorem SL_n {S T : Nat → Nat → Nat → Int32} {u k : Nat} (h : SLk S T u k) (hk : k < 12) (hr : rlx S u k = S 496 0 k) : SLk S T u (k + 1) := ⟨h.1, fun v hv => by
  rw [h.2 v hv]
  by_cases q : v = k
  · subst q; rw [if_neg (Nat.lt_irrefl _), if_pos (Nat.lt_succ_self _), hr]
  · by_cases q2 : v < k
    · rw [if_pos q2, if_pos (by omega)]
    · rw [if_neg q2, if_neg (by omega)]⟩
theorem SL_1 {S T : Nat → Nat → Nat → Int32} {u k : Nat} (f : FR S T) (h : SLk S T u k) (hk : k < 12) (c : tmN T u k = -1) : SLk S T u (k + 1) := SL_n h hk (by unfold rlx; rw [← tmN_fr f, if_pos c])
theorem SL_2 {S T : Nat → Nat → Nat → Int32} {u k : Nat} (f : FR S T) (h : SLk S T u k) (hu : u < 12) (hz : S 416 u u = 0) (hk : k < 12) (c0 : ¬ tmN T u k = -1) (c : ¬ T 496 0 u + tmN T u k < T 496 0 k) : SLk S T u (k + 1) := SL_n h hk (by
  unfold rlx; rw [← tmN_fr f, if_neg c0, ← SL_u h hu hz, ← SL_v h hk, if_neg c])
theorem SL_3 {S T : Nat → Nat → Nat → Int32} {u k : Nat} (f : FR S T) (h : SLk S T u k) (hu : u < 12) (hz : S 416 u u = 0) (hk : k < 12) (c0 : ¬ tmN T u k = -1) (c : T 496 0 u + tmN T u k < T 496 0 k) : SLk S (up3 T 496 0 k (T 496 0 u + tmN T u k)) u (k + 1) := by
  have e : rlx S u k = T 496 0 u + tmN T u k := by
    unfold rlx; rw [← tmN_fr f, if_neg c0, ← SL_u h hu hz, ← SL_v h hk, if_pos c]
  refine ⟨by rw [up3_c (by decide)]; exact h.1, fun v hv => ?_⟩
  rw [up3_a]
  by_cases q : v = k
  · subst q; rw [up_s, if_pos (Nat.lt_succ_self _), e]
  · rw [up_n q, h.2 v hv]
    by_cases q2 : v < k
    · rw [if_pos q2, if_pos (by omega)]
    · rw [if_neg q2, if_neg (by omega)]
def DJ (S : Nat → Nat → Nat → Int32) (to : Nat) (g d : Nat → Int32) (n : Nat) : Prop := L1 (hF S) (sF S) to g ∧ (∀ u, u < 12 → ¬ d u = 0 → ∀ v, v < 12 → ¬ S 416 u v = 0 → (g v).toInt ≤ (g u).toInt + (S 416 u v + S 432 u v).toInt) ∧ (∀ u, u < 12 → ¬ d u = 0 → ∀ v, v < 12 → d v = 0 → (g u).toInt ≤ (g v).toInt) ∧ cnz d 12 = n
theorem DJ_0 {S : Nat → Nat → Nat → Int32} {to : Nat} {g d : Nat → Int32} (ht : to < 12) (hi : i0 to 12 g) (hd : ∀ x, x < 12 → d x = 0) : DJ S to g d 0 := ⟨i0_L ht hi, fun u hu h => absurd (hd u hu) h, fun u hu h => absurd (hd u hu) h, cnz_0 12 hd⟩
theorem DJ_s {S U T : Nat → Nat → Nat → Int32} {to n j : Nat} (hsy : Sy S) (hrg : RgS S) (f : FR S U) (h : DJ S to (U 496 0) (U 512 0) n) (hto : to < 12) (hj : j < 12) (hdj : U 512 0 j = 0) (hmin : ∀ v, v < 12 → U 512 0 v = 0 → (U 496 0 j).toInt ≤ (U 496 0 v).toInt) (hs : SLk U T j 12) : DJ S to (T 496 0) (T 512 0) (n + 1) := by
  obtain ⟨hL, hb, hc, hn⟩ := h
  have hbd := hL.1
  have bj := hbd j hj
  have RL : ∀ v, v < 12 → (T 496 0 v = U 496 0 v ∧ (S 416 j v = 0 ∨ (U 496 0 v).toInt ≤ (U 496 0 j).toInt + (S 416 j v + S 432 j v).toInt)) ∨ (¬ S 416 j v = 0 ∧ (T 496 0 v).toInt = (U 496 0 j).toInt + (S 416 j v + S 432 j v).toInt ∧ (U 496 0 j).toInt + (S 416 j v + S 432 j v).toInt < (U 496 0 v).toInt) := fun v hv => by
    have e := hs.2 v hv
    rw [if_pos (by omega)] at e
    unfold rlx at e
    rw [tmN_fr f] at e
    by_cases z : S 416 j v = 0
    · rw [if_pos (tmN_z z)] at e; exact Or.inl ⟨e, Or.inl z⟩
    · obtain ⟨t1, t2, t3, t4⟩ := tmN_p hrg hj hv z
      rw [if_neg (tmN_m hrg hj hv z), t1] at e
      have ea : (U 496 0 j + (S 416 j v + S 432 j v)).toInt = (U 496 0 j).toInt + (S 416 j v + S 432 j v).toInt := a_i (by omega) (by omega)
      by_cases c : U 496 0 j + (S 416 j v + S 432 j v) < U 496 0 v
      · rw [if_pos c] at e
        rw [lt_i, ea] at c
        exact Or.inr ⟨z, by rw [e, ea], c⟩
      · rw [if_neg c] at e
        rw [lt_i, ea] at c
        exact Or.inl ⟨e, Or.inr (by omega)⟩
  have tp : ∀ v, v < 12 → ¬ S 416 j v = 0 → 1 ≤ (S 416 j v + S 432 j v).toInt := fun v hv z => (tmN_p hrg hj hv z).2.2.1
  have le : ∀ v, v < 12 → (T 496 0 v).toInt ≤ (U 496 0 v).toInt := fun v hv => by
    rcases RL v hv with ⟨e, _⟩ | ⟨_, e, c⟩
    · rw [e]; exact Int.le_refl _
    · omega
  have st : ∀ v, v < 12 → ¬ U 512 0 v = 0 → T 496 0 v = U 496 0 v := fun v hv hd => by
    rcases RL v hv with ⟨e, _⟩ | ⟨z, e, c⟩
    · exact e
    · have h1 := hc v hv hd j hj hdj
      have h2 := tp v hv z
      omega
  have sj : T 496 0 j = U 496 0 j := by
    rcases RL j hj with ⟨e, _⟩ | ⟨z, _, _⟩
    · exact e
    · exact absurd (hsy j hj).1 z
  have d1 : ∀ v, ¬ v = j → T 512 0 v = U 512 0 v := fun v q => by rw [hs.1, up_n q]
  have dj : T 512 0 j = 1 := by rw [hs.1, up_s]
  refine ⟨⟨fun i hi => ?_, ?_, fun u hu => ?_⟩, fun u hu hd v hv z => ?_, fun u hu hd v hv hdv => ?_, ?_⟩
  · have bi := hbd i hi
    have l := le i hi
    rcases RL i hi with ⟨e, _⟩ | ⟨z, e, _⟩
    · rw [e]; exact bi
    · have := tp i hi z; omega
  · rcases RL to hto with ⟨e, _⟩ | ⟨z, _, c⟩
    · rw [e]; exact hL.2.1
    · have h1 := hL.2.1; have h2 := tp to hto z; omega
  · rcases RL u hu with ⟨e, _⟩ | ⟨z, e, _⟩
    · rw [e]
      rcases hL.2.2 u hu with q | q | ⟨v, hv, hr, q⟩
      · exact Or.inl q
      · exact Or.inr (Or.inl q)
      · exact Or.inr (Or.inr ⟨v, hv, hr, by have := le v hv; omega⟩)
    · refine Or.inr (Or.inr ⟨j, hj, ?_, ?_⟩)
      · rw [hF_at hj, ((hsy u hu).2 j hj).1]; exact z
      · rw [hF_at hj, sF_at hj, ((hsy u hu).2 j hj).1, ((hsy u hu).2 j hj).2, sj, e]; exact Int.le_refl _
  · by_cases q : u = j
    · subst q
      rw [sj]
      rcases RL v hv with ⟨e, c | c⟩ | ⟨_, e, _⟩
      · exact absurd c z
      · rw [e]; exact c
      · rw [e]; exact Int.le_refl _
    · rw [d1 u q] at hd
      rw [st u hu hd]
      have h1 := hb u hu hd v hv z
      have h2 := le v hv
      omega
  · have vj : ¬ v = j := fun w => by rw [w, dj] at hdv; exact absurd hdv (by decide)
    rw [d1 v vj] at hdv
    by_cases q : u = j
    · subst q
      rw [sj]
      rcases RL v hv with ⟨e, _⟩ | ⟨z, e, _⟩
      · rw [e]; exact hmin v hv hdv
      · have := tp v hv z; omega
    · rw [d1 u q] at hd
      rw [st u hu hd]
      have h1 := hc u hu hd v hv hdv
      have h2 := hc u hu hd j hj hdj
      rcases RL v hv with ⟨e, _⟩ | ⟨z, e, _⟩
      · rw [e]; exact h1
      · have := tp v hv z; omega
  · rw [hs.1, cnz_u hdj 12 hj, hn]
theorem DJ_f {S : Nat → Nat → Nat → Int32} {to n : Nat} {g d : Nat → Int32} (hsy : Sy S) (hrg : RgS S) (h : DJ S to g d n) (hf : ∀ v, v < 12 → d v = 0 → ¬ g v < 1000000) : FXa (hF S) (sF S) g := fun u hu v hv hr => by
  rw [hF_at hv] at hr ⊢
  rw [sF_at hv]
  have bu := h.1.1 u hu
  have bv := h.1.1 v hv
  by_cases q : d v = 0
  · have := hf v hv q
    rw [lt_i, far_i] at this
    have := (tmN_p hrg hu hv hr).2.2.1
    omega
  · have := h.2.1 v hv q u hu (by rw [((hsy v hv).2 u hu).1]; exact hr)
    rw [((hsy v hv).2 u hu).1, ((hsy v hv).2 u hu).2] at this
    exact this
theorem LF_le {h s g f : Nat → Int32} {to : Nat} (hh : Rng h) (hs : Rng s) (hg : L1 h s to g) (hf : L1 h s to f) (hx : FXa h s f) : ∀ n u, u < 12 → (g u).toInt.toNat ≤ n → (f u).toInt ≤ (g u).toInt := by
  intro n
  induction n with
  | zero =>
    intro u hu hn
    have bu := hg.1 u hu
    rcases hg.2.2 u hu with q | q | ⟨v, hv, hr, q⟩
    · subst q; rw [hf.2.1]; omega
    · have := hf.1 u hu; omega
    · obtain ⟨e, a1, a2, a3, a4⟩ := ti_r hh hs hu hv
      have := hg.1 v hv
      have := i_ne hr
      omega
  | succ n ih =>
    intro u hu hn
    have bu := hg.1 u hu
    rcases hg.2.2 u hu with q | q | ⟨v, hv, hr, q⟩
    · subst q; rw [hf.2.1]; omega
    · have := hf.1 u hu; omega
    · obtain ⟨e, a1, a2, a3, a4⟩ := ti_r hh hs hu hv
      have b2 := hg.1 v hv
      have b3 := i_ne hr
      have b4 := ih v hv (by omega)
      have b5 := hx u hu v hv hr
      omega
theorem LF_u {h s g f : Nat → Int32} {to u : Nat} (hh : Rng h) (hs : Rng s) (hg : L1 h s to g) (hgx : FXa h s g) (hf : L1 h s to f) (hfx : FXa h s f) (hu : u < 12) : g u = f u := by
  apply Int32.toInt_inj.mp
  have a := LF_le hh hs hg hf hfx _ u hu (Nat.le_refl _)
  have b := LF_le hh hs hf hg hgx _ u hu (Nat.le_refl _)
  omega
theorem L1_cg {h s h2 s2 g : Nat → Int32} {to : Nat} (hc : ∀ u, u < 12 → ∀ v, v < 12 → h2 (12 * u + v) = h (12 * u + v) ∧ s2 (12 * u + v) = s (12 * u + v)) (hL : L1 h s to g) : L1 h2 s2 to g := by
  refine ⟨hL.1, hL.2.1, fun u hu => ?_⟩
  rcases hL.2.2 u hu with q | q | ⟨v, hv, hr, q⟩
  · exact Or.inl q
  · exact Or.inr (Or.inl q)
  · refine Or.inr (Or.inr ⟨v, hv, ?_, ?_⟩)
    · rw [(hc u hu v hv).1]; exact hr
    · rw [(hc u hu v hv).1, (hc u hu v hv).2]; exact q
theorem FX_cg {h s h2 s2 g : Nat → Int32} (hc : ∀ u, u < 12 → ∀ v, v < 12 → h2 (12 * u + v) = h (12 * u + v) ∧ s2 (12 * u + v) = s (12 * u + v)) (hL : FXa h s g) : FXa h2 s2 g := fun u hu v hv hr => by
  rw [(hc u hu v hv).1] at hr ⊢
  rw [(hc u hu v hv).2]
  exact hL u hu v hv hr
def LT (S : Nat → Nat → Nat → Int32) (p0 p1 rv : Int32) : Prop := (rv = -1 ∧ (sp_st p0 = 0 ∨ sp_st p1 = 0)) ∨ ∃ (u v : Nat) (g : Nat → Int32), u < 12 ∧ v < 12 ∧ p0 = nI u ∧ p1 = nI v ∧ L1 (hF S) (sF S) v g ∧ FXa (hF S) (sF S) g ∧ rv = if g u < 1000000 then g u else -1
def LTm (h s : Nat → Int32) (p0 p1 rv : Int32) : Prop := (rv = -1 ∧ (sp_st p0 = 0 ∨ sp_st p1 = 0)) ∨ ∃ (u v : Nat) (g : Nat → Int32), u < 12 ∧ v < 12 ∧ p0 = nI u ∧ p1 = nI v ∧ L1 h s v g ∧ FXa h s g ∧ rv = if g u < 1000000 then g u else -1
theorem LT_u {h s : Nat → Int32} {S : Nat → Nat → Nat → Int32} {p0 p1 a b : Int32} (hh : Rng h) (hs : Rng s) (hc : ∀ u, u < 12 → ∀ v, v < 12 → h (12 * u + v) = S 416 u v ∧ s (12 * u + v) = S 432 u v) (c : LT S p0 p1 a) (m : LTm h s p0 p1 b) : a = b := by
  have hc2 : ∀ u, u < 12 → ∀ v, v < 12 → h (12 * u + v) = hF S (12 * u + v) ∧ s (12 * u + v) = sF S (12 * u + v) := fun u hu v hv => by
    rw [hF_at hv, sF_at hv]; exact hc u hu v hv
  rcases c with ⟨c0, c1⟩ | ⟨u, v, g, hu, hv, e0, e1, c1, c2, c3⟩
  · rcases m with ⟨m0, m1⟩ | ⟨x, y, f, hx, hy, g0, g1, m1, m2, m3⟩
    · rw [c0, m0]
    · exfalso
      rw [g0, g1] at c1
      rcases c1 with c1 | c1
      · exact st_nz hx c1
      · exact st_nz hy c1
  · rcases m with ⟨m0, m1⟩ | ⟨x, y, f, hx, hy, g0, g1, m1, m2, m3⟩
    · exfalso
      rw [e0, e1] at m1
      rcases m1 with m1 | m1
      · exact st_nz hu m1
      · exact st_nz hv m1
    · have ex : u = x := nI_inJ (e0.symm.trans g0) (by omega) (by omega)
      have ey : v = y := nI_inJ (e1.symm.trans g1) (by omega) (by omega)
      subst ex; subst ey
      rw [c3, m3, LF_u hh hs (L1_cg hc2 c1) (FX_cg hc2 c2) m1 m2 hu]
