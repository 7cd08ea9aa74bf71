def uf {α : Type} (f : Nat → α) (k : Nat) (x : α) : Nat → α := fun j => if j = k then x else f j
theorem uf_s {α : Type} {f : Nat → α} {k : Nat} {x : α} : uf f k x k = x := if_pos rfl
theorem uf_n {α : Type} {f : Nat → α} {k j : Nat} {x : α} (h : ¬ j = k) : uf f k x j = f j := if_neg h
theorem sI_uf {f : Nat → Int} {v : Nat} {x : Int} : ∀ n, v < n → sI (uf f v x) n = sI f n - f v + x
  | 0, h => absurd h (by omega)
  | n + 1, h => by
    show sI (uf f v x) n + uf f v x n = sI f n + f n - f v + x
    by_cases e : v = n
    · subst e
      rw [uf_s, sI_c (f := uf f v x) (g := f) v (fun i hi => uf_n (by omega))]; omega
    · rw [sI_uf n (by omega), uf_n (fun w => e w.symm)]; omega
def rcC (t l : Nat → Nat → Int) (u v : Nat) : Int := if 0 < l v u then -t u v else t u v
def PCc (rd : Nat → Nat → Prop) (t l : Nat → Nat → Int) (sp pi : Nat → Int) : Prop := (∀ v, v < 12 → 0 ≤ pi v ∧ pi v ≤ 1000000) ∧ (∀ u, u < 12 → ∀ v, v < 12 → rd u v → pi v ≤ pi u + rcC t l u v) ∧ (∀ v, v < 12 → 0 < sp v → pi v = 0)
def lx (a : Int) (b : Nat) (a' : Int) (b' : Nat) : Prop := a < a' ∨ (a = a' ∧ b < b')
def CBc (rd : Nat → Nat → Prop) (t l : Nat → Nat → Int) (sp pi P fr : Nat → Int) (k : Nat → Nat) (clk : Nat) : Prop := (∀ v, v < 12 → pi v ≤ P v ∧ P v ≤ 1000000 ∧ k v ≤ clk) ∧ (∀ v, v < 12 → 0 < sp v → P v = 0 ∧ fr v = -1) ∧ (∀ v, v < 12 → ¬ 0 < sp v → (P v = 1000000 ∧ fr v = -1) ∨ (P v < 1000000 ∧ ∃ u : Nat, u < 12 ∧ fr v = (u : Int) ∧ rd u v ∧ P u < 1000000 ∧ P u + rcC t l u v ≤ P v ∧ lx (P u - pi u) (k u) (P v - pi v) (k v)))
def FXb (rd : Nat → Nat → Prop) (t l : Nat → Nat → Int) (P : Nat → Int) : Prop := ∀ u, u < 12 → ∀ v, v < 12 → rd u v → P u < 1000000 → P v ≤ P u + rcC t l u v
theorem CB_u {rd : Nat → Nat → Prop} {t l : Nat → Nat → Int} {sp pi P fr : Nat → Int} {k : Nat → Nat} {clk u v : Nat} (hC : PCc rd t l sp pi) (h : CBc rd t l sp pi P fr k clk) (hu : u < 12) (hv : v < 12) (hr : rd u v) (hn : ¬ u = v) (h1 : P u < 1000000) (h2 : P u + rcC t l u v < P v) : CBc rd t l sp pi (uf P v (P u + rcC t l u v)) (uf fr v (u : Int)) (uf k v (clk + 1)) (clk + 1) := by
  obtain ⟨a, b, c⟩ := h
  have lo : pi v ≤ pi u + rcC t l u v := hC.2.1 u hu v hv hr
  have au := a u hu
  have av := a v hv
  refine ⟨fun x hx => ?_, fun x hx hs => ?_, fun x hx hs => ?_⟩
  · by_cases e : x = v
    · subst e; rw [uf_s, uf_s]; exact ⟨by omega, by omega, Nat.le_refl _⟩
    · rw [uf_n e, uf_n e]
      have := a x hx
      exact ⟨this.1, this.2.1, by omega⟩
  · by_cases e : x = v
    · subst e
      have z := (b x hx hs).1
      have y := hC.2.2 x hx hs
      omega
    · rw [uf_n e, uf_n e]; exact b x hx hs
  · by_cases e : x = v
    · subst e
      refine Or.inr ⟨by rw [uf_s]; omega, u, hu, uf_s, hr, by rw [uf_n hn]; exact h1, by rw [uf_s, uf_n hn]; exact Int.le_refl _, ?_⟩
      rw [uf_s, uf_n hn, uf_s, uf_n hn]
      unfold lx
      rcases Int.lt_or_le (P u - pi u) (P u + rcC t l u x - pi x) with q | q
      · exact Or.inl q
      · exact Or.inr ⟨by omega, by omega⟩
    · rw [uf_n e, uf_n e]
      rcases c x hx hs with q | ⟨q1, y, hy, q2, q3, q4, q5, q6⟩
      · exact Or.inl q
      · refine Or.inr ⟨q1, y, hy, q2, q3, ?_, ?_, ?_⟩
        · by_cases z : y = v
          · subst z; rw [uf_s]; omega
          · rw [uf_n z]; exact q4
        · by_cases z : y = v
          · subst z; rw [uf_s]; omega
          · rw [uf_n z]; exact q5
        · by_cases z : y = v
          · subst z
            rw [uf_s, uf_s, uf_n e]
            unfold lx at q6 ⊢
            exact Or.inl (by rcases q6 with w | w <;> omega)
          · rw [uf_n z, uf_n z, uf_n e]; exact q6
theorem CB_ex {rd : Nat → Nat → Prop} {t l : Nat → Nat → Int} {sp pi : Nat → Int} (hC : PCc rd t l sp pi) (hir : ∀ u, ¬ rd u u) : ∀ (n : Nat) (P fr : Nat → Int) (k : Nat → Nat) (clk : Nat), sI P 12 < (n : Int) → CBc rd t l sp pi P fr k clk → ∃ (D fd : Nat → Int) (kd : Nat → Nat) (cd : Nat), CBc rd t l sp pi D fd kd cd ∧ FXb rd t l D
  | 0, P, fr, k, clk, hs, h => by
    have := sI_pos (f := P) (n := 12) (fun i hi => by have a := (h.1 i hi).1; have b := (hC.1 i hi).1; omega)
    omega
  | n + 1, P, fr, k, clk, hs, h => by
    rcases Classical.em (FXb rd t l P) with q | q
    · exact ⟨P, fr, k, clk, h, q⟩
    · have : ∃ u v, u < 12 ∧ v < 12 ∧ rd u v ∧ P u < 1000000 ∧ P u + rcC t l u v < P v := Classical.byContradiction fun w => q (fun u hu v hv hr h1 => by
        rcases Int.lt_or_le (P u + rcC t l u v) (P v) with z | z
        · exact absurd ⟨u, v, hu, hv, hr, h1, z⟩ w
        · exact z)
      obtain ⟨u, v, hu, hv, hr, h1, h2⟩ := this
      refine CB_ex hC hir n _ _ _ _ ?_ (CB_u hC h hu hv hr (fun e => hir u (e ▸ hr)) h1 h2)
      rw [sI_uf 12 hv]; omega
theorem CB_lo {rd : Nat → Nat → Prop} {t l : Nat → Nat → Int} {sp pi P fr D : Nat → Int} {k : Nat → Nat} {clk : Nat} (h : CBc rd t l sp pi P fr k clk) (d0 : ∀ v, v < 12 → 0 < sp v → D v = 0) (d1 : ∀ v, v < 12 → D v ≤ 1000000) (dX : FXb rd t l D) : ∀ (m v : Nat), v < 12 → wk (P v - pi v) (k v) clk ≤ m → D v ≤ P v
  | m, v, hv, hm => by
    obtain ⟨a, b, c⟩ := h
    by_cases s : 0 < sp v
    · rw [d0 v hv s, (b v hv s).1]; exact Int.le_refl _
    · rcases c v hv s with ⟨q, _⟩ | ⟨q, u, hu, _, hr, q1, q2, q3⟩
      · rw [q]; exact d1 v hv
      · have lt : wk (P u - pi u) (k u) clk < wk (P v - pi v) (k v) clk := wk_lt (by have := (a u hu).1; omega) (a u hu).2.2 q3
        match m, hm with
        | 0, hm => omega
        | m + 1, hm =>
          have ih := CB_lo ⟨a, b, c⟩ d0 d1 dX m u hu (by omega)
          have := dX u hu v hv hr (by omega)
          omega
def PSb (rd : Nat → Nat → Prop) (t l : Nat → Nat → Int) (P Q : Nat → Int) : Prop := (∀ v, v < 12 → Q v ≤ P v) ∧ ∀ u, u < 12 → ∀ v, v < 12 → rd u v → P u < 1000000 → Q v ≤ P u + rcC t l u v
def nS (P D : Nat → Int) : Nat → Nat
  | 0 => 0
  | n + 1 => nS P D n + (if P n = D n then 1 else 0)
theorem nS_le {P D : Nat → Int} : ∀ n, nS P D n ≤ n
  | 0 => Nat.le_refl _
  | n + 1 => by
    show nS P D n + (if P n = D n then 1 else 0) ≤ n + 1
    have := nS_le (P := P) (D := D) n
    split <;> omega
theorem nS_mo {P Q D : Nat → Int} : ∀ n, (∀ v, v < n → P v = D v → Q v = D v) → nS P D n ≤ nS Q D n
  | 0, _ => Nat.le_refl _
  | n + 1, h => by
    show nS P D n + (if P n = D n then 1 else 0) ≤ nS Q D n + (if Q n = D n then 1 else 0)
    have a := nS_mo n (fun v hv => h v (by omega))
    by_cases e : P n = D n
    · rw [if_pos e, if_pos (h n (by omega) e)]; omega
    · rw [if_neg e]; split <;> omega
theorem nS_st {P Q D : Nat → Int} {v : Nat} : ∀ n, v < n → (∀ x, x < n → P x = D x → Q x = D x) → ¬ P v = D v → Q v = D v → nS P D n + 1 ≤ nS Q D n
  | 0, h, _, _, _ => absurd h (by omega)
  | n + 1, h, hm, h1, h2 => by
    show nS P D n + (if P n = D n then 1 else 0) + 1 ≤ nS Q D n + (if Q n = D n then 1 else 0)
    by_cases e : v = n
    · subst e
      rw [if_neg h1, if_pos h2]
      have := nS_mo v (fun x hx => hm x (by omega))
      omega
    · have a := nS_st n (by omega) (fun x hx => hm x (by omega)) h1 h2
      by_cases q : P n = D n
      · rw [if_pos q, if_pos (hm n (by omega) q)]; omega
      · rw [if_neg q]; split <;> omega
theorem nS_all {P D : Nat → Int} : ∀ n, nS P D n = n → ∀ v, v < n → P v = D v
  | 0, _, _, h => absurd h (by omega)
  | n + 1, e, v, h => by
    have e' : nS P D n + (if P n = D n then 1 else 0) = n + 1 := e
    have b := nS_le (P := P) (D := D) n
    by_cases q : P n = D n
    · rw [if_pos q] at e'
      by_cases z : v = n
      · rw [z]; exact q
      · exact nS_all n (by omega) v (by omega)
    · rw [if_neg q] at e'; omega
theorem nS_1 {P D : Nat → Int} {v : Nat} : ∀ n, v < n → P v = D v → 1 ≤ nS P D n
  | 0, h, _ => absurd h (by omega)
  | n + 1, h, e => by
    show 1 ≤ nS P D n + (if P n = D n then 1 else 0)
    by_cases z : v = n
    · subst z; rw [if_pos e]; omega
    · have := nS_1 n (by omega) e; omega
theorem PS_s {rd : Nat → Nat → Prop} {t l : Nat → Nat → Int} {sp pi P Q D fd fr fq : Nat → Int} {kd kp kq : Nat → Nat} {cd cp cq : Nat} (hP : CBc rd t l sp pi P fr kp cp) (hQ : CBc rd t l sp pi Q fq kq cq) (hD : CBc rd t l sp pi D fd kd cd) (dX : FXb rd t l D) (ps : PSb rd t l P Q) : nS P D 12 = 12 ∨ nS P D 12 + 1 ≤ nS Q D 12 := by
  have d0 : ∀ v, v < 12 → 0 < sp v → D v = 0 := fun v hv s => (hD.2.1 v hv s).1
  have d1 : ∀ v, v < 12 → D v ≤ 1000000 := fun v hv => (hD.1 v hv).2.1
  have lQ : ∀ v, v < 12 → D v ≤ Q v := fun v hv => CB_lo hQ d0 d1 dX _ v hv (Nat.le_refl _)
  have lP : ∀ v, v < 12 → D v ≤ P v := fun v hv => CB_lo hP d0 d1 dX _ v hv (Nat.le_refl _)
  have mo : ∀ v, v < 12 → P v = D v → Q v = D v := fun v hv e => by
    have := ps.1 v hv
    have := lQ v hv
    omega
  rcases Classical.em (∃ v, v < 12 ∧ ¬ P v = D v ∧ Q v = D v) with ⟨v, hv, h1, h2⟩ | no
  · exact Or.inr (nS_st 12 hv mo h1 h2)
  · refine Or.inl ?_
    have all : ∀ (m v : Nat), v < 12 → wk (D v - pi v) (kd v) cd ≤ m → P v = D v := by
      intro m
      induction m with
      | zero =>
        intro v hv hm
        by_cases s : 0 < sp v
        · rw [d0 v hv s, (hP.2.1 v hv s).1]
        · rcases hD.2.2 v hv s with ⟨q, _⟩ | ⟨q, u, hu, _, hr, q1, q2, q3⟩
          · have := lP v hv
            have := (hP.1 v hv).2.1
            omega
          · have lt : wk (D u - pi u) (kd u) cd < wk (D v - pi v) (kd v) cd := wk_lt (by have := (hD.1 u hu).1; omega) (hD.1 u hu).2.2 q3
            omega
      | succ m ih =>
        intro v hv hm
        by_cases s : 0 < sp v
        · rw [d0 v hv s, (hP.2.1 v hv s).1]
        · rcases hD.2.2 v hv s with ⟨q, _⟩ | ⟨q, u, hu, _, hr, q1, q2, q3⟩
          · have := lP v hv
            have := (hP.1 v hv).2.1
            omega
          · have lt : wk (D u - pi u) (kd u) cd < wk (D v - pi v) (kd v) cd := wk_lt (by have := (hD.1 u hu).1; omega) (hD.1 u hu).2.2 q3
            have e := ih u hu (by omega)
            have z := ps.2 u hu v hv hr (by omega)
            have y := lQ v hv
            have eq : Q v = D v := by omega
            exact Classical.byContradiction fun w => no ⟨v, hv, w, eq⟩
    have c : ∀ n, n ≤ 12 → nS P D n = n := by
      intro n
      induction n with
      | zero => intro _; rfl
      | succ n ih =>
        intro hn
        show nS P D n + (if P n = D n then 1 else 0) = n + 1
        rw [if_pos (all _ n (by omega) (Nat.le_refl _)), ih (by omega)]
    exact c 12 (Nat.le_refl _)
def clN (m : Nat → Nat) (y : Nat) : Nat → Nat
  | 0 => 0
  | n + 1 => clN m y n + (if m n < y then 1 else 0)
theorem clN_mo {m : Nat → Nat} {x y : Nat} (h : x ≤ y) : ∀ n, clN m x n ≤ clN m y n
  | 0 => Nat.le_refl _
  | n + 1 => by
    show clN m x n + (if m n < x then 1 else 0) ≤ clN m y n + (if m n < y then 1 else 0)
    have := clN_mo (m := m) h n
    by_cases c : m n < x
    · rw [if_pos c, if_pos (by omega)]; omega
    · rw [if_neg c]; split <;> omega
theorem clN_st {m : Nat → Nat} {u y : Nat} (h : m u < y) : ∀ n, u < n → clN m (m u) n + 1 ≤ clN m y n
  | 0, hu => absurd hu (by omega)
  | n + 1, hu => by
    show clN m (m u) n + (if m n < m u then 1 else 0) + 1 ≤ clN m y n + (if m n < y then 1 else 0)
    by_cases e : u = n
    · subst e
      rw [if_neg (by omega), if_pos h]
      have := clN_mo (m := m) (x := m u) (y := y) (by omega) u
      omega
    · have a := clN_st h n (by omega)
      by_cases c : m n < m u
      · rw [if_pos c, if_pos (by omega)]; omega
      · rw [if_neg c]; split <;> omega
theorem clN_11 {m : Nat → Nat} {v : Nat} (hv : v < 12) : clN m (m v) 12 ≤ 11 := by
  have a := clN_st (m := m) (u := v) (y := m v + 1) (by omega) 12 hv
  have b : ∀ n, clN m (m v + 1) n ≤ n := by
    intro n
    induction n with
    | zero => exact Nat.le_refl _
    | succ n ih =>
      show clN m (m v + 1) n + (if m n < m v + 1 then 1 else 0) ≤ n + 1
      split <;> omega
  have := b 12
  omega
