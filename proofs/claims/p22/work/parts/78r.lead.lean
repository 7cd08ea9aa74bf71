def u2 (l : Nat → Nat → Int) (a b : Nat) (x : Int) : Nat → Nat → Int := fun i j => if i = a ∧ j = b then x else l i j
theorem u2_s {l : Nat → Nat → Int} {a b : Nat} {x : Int} : u2 l a b x a b = x := if_pos ⟨rfl, rfl⟩
theorem u2_n {l : Nat → Nat → Int} {a b i j : Nat} {x : Int} (h : ¬ (i = a ∧ j = b)) : u2 l a b x i j = l i j := if_neg h
theorem u2_row {l : Nat → Nat → Int} {a b i : Nat} {d : Int} (hb : b < 12) : sI (u2 l a b (l a b + d) i) 12 = sI (l i) 12 + (if i = a then d else 0) := by
  by_cases e : i = a
  · subst e
    rw [if_pos rfl]
    have : sI (u2 l i b (l i b + d) i) 12 = sI (uf (l i) b (l i b + d)) 12 := sI_c 12 (fun j _ => by
      by_cases z : j = b
      · subst z; rw [u2_s, uf_s]
      · rw [u2_n (fun w => z w.2), uf_n z])
    rw [this, sI_uf 12 hb]; omega
  · rw [if_neg e, Int.add_zero]
    exact sI_c 12 (fun j _ => u2_n (fun w => e w.1))
theorem u2_col {l : Nat → Nat → Int} {a b j : Nat} {d : Int} (ha : a < 12) : sI (fun i => u2 l a b (l a b + d) i j) 12 = sI (fun i => l i j) 12 + (if j = b then d else 0) := by
  by_cases e : j = b
  · subst e
    rw [if_pos rfl]
    have : sI (fun i => u2 l a j (l a j + d) i j) 12 = sI (uf (fun i => l i j) a (l a j + d)) 12 := sI_c 12 (fun i _ => by
      by_cases z : i = a
      · subst z; rw [u2_s, uf_s]
      · rw [u2_n (fun w => z w.1), uf_n z])
    rw [this, sI_uf 12 ha]; omega
  · rw [if_neg e, Int.add_zero]
    exact sI_c 12 (fun i _ => u2_n (fun w => e w.2))
theorem u2_cost {l t : Nat → Nat → Int} {a b : Nat} {d : Int} (ha : a < 12) (hb : b < 12) : sJ (fun i j => t i j * u2 l a b (l a b + d) i j) = sJ (fun i j => t i j * l i j) + t a b * d := by
  have e : ∀ i, i < 12 → sI (fun j => t i j * u2 l a b (l a b + d) i j) 12 = uf (fun i => sI (fun j => t i j * l i j) 12) a (sI (fun j => t a j * l a j) 12 + t a b * d) i := fun i hi => by
    by_cases z : i = a
    · subst z
      rw [uf_s]
      have : sI (fun j => t i j * u2 l i b (l i b + d) i j) 12 = sI (uf (fun j => t i j * l i j) b (t i b * (l i b + d))) 12 := sI_c 12 (fun j _ => by
        by_cases y : j = b
        · subst y; rw [u2_s, uf_s]
        · rw [u2_n (fun w => y w.2), uf_n y])
      rw [this, sI_uf 12 hb, Int.mul_add]; omega
    · rw [uf_n z]
      exact sI_c 12 (fun j _ => by rw [u2_n (fun w => z w.1)])
  unfold sJ
  rw [sI_c 12 e, sI_uf 12 ha]
  show sI (fun i => sI (fun j => t i j * l i j) 12) 12 - sI (fun j => t a j * l a j) 12 + (sI (fun j => t a j * l a j) 12 + t a b * d) = sI (fun i => sI (fun j => t i j * l i j) 12) 12 + t a b * d
  omega
def arU (l : Nat → Nat → Int) (u v : Nat) (q : Int) : Nat → Nat → Int := if 0 < l v u then u2 l v u (l v u - q) else u2 l u v (l u v + q)
def net (l : Nat → Nat → Int) (x : Nat) : Int := sI (fun a => l a x) 12 - sI (l x) 12
theorem net_u2 {l : Nat → Nat → Int} {a b x : Nat} {d : Int} (ha : a < 12) (hb : b < 12) : net (u2 l a b (l a b + d)) x = net l x + (if x = b then d else 0) - (if x = a then d else 0) := by
  unfold net
  rw [u2_col ha, u2_row hb]; omega
theorem net_ar {l : Nat → Nat → Int} {u v x : Nat} {q : Int} (hu : u < 12) (hv : v < 12) : net (arU l u v q) x = net l x + (if x = v then q else 0) - (if x = u then q else 0) := by
  unfold arU
  split
  · have := net_u2 (l := l) (a := v) (b := u) (x := x) (d := -q) hv hu
    rw [show l v u + -q = l v u - q from by omega] at this
    rw [this]
    by_cases z : x = u <;> by_cases y : x = v <;> simp [z, y] <;> omega
  · exact net_u2 hu hv
theorem cost_ar {l t : Nat → Nat → Int} {u v : Nat} {q : Int} (hu : u < 12) (hv : v < 12) (hs : t v u = t u v) : sJ (fun i j => t i j * arU l u v q i j) = sJ (fun i j => t i j * l i j) + q * rcC t l u v := by
  unfold arU rcC
  by_cases c : 0 < l v u
  · rw [if_pos c, if_pos c]
    have := u2_cost (l := l) (t := t) (a := v) (b := u) (d := -q) hv hu
    rw [show l v u + -q = l v u - q from by omega] at this
    rw [this, hs, Int.mul_neg, Int.mul_neg, Int.mul_comm]
  · rw [if_neg c, if_neg c, u2_cost hu hv, Int.mul_comm (t u v) q]
theorem ar_n {l : Nat → Nat → Int} {u v a b : Nat} {q : Int} (h1 : ¬ (a = u ∧ b = v)) (h2 : ¬ (a = v ∧ b = u)) : arU l u v q a b = l a b := by
  unfold arU
  split
  · exact u2_n h2
  · exact u2_n h1
theorem ar_pos {l : Nat → Nat → Int} {u v : Nat} {q : Int} (hq : 0 ≤ q) (h : ∀ a, a < 12 → ∀ b, b < 12 → 0 ≤ l a b) (hb : 0 < l v u → q ≤ l v u) : ∀ a, a < 12 → ∀ b, b < 12 → 0 ≤ arU l u v q a b := fun a ha b hb' => by
  unfold arU
  have z := h a ha b hb'
  split
  · rename_i c
    by_cases e : a = v ∧ b = u
    · obtain ⟨e1, e2⟩ := e
      subst e1; subst e2
      rw [u2_s]
      have := hb c
      omega
    · rw [u2_n e]; exact z
  · by_cases e : a = u ∧ b = v
    · obtain ⟨e1, e2⟩ := e
      subst e1; subst e2
      rw [u2_s]; omega
    · rw [u2_n e]; exact z
def LDc (rd : Nat → Nat → Prop) (t l l' : Nat → Nat → Int) (P : Nat → Int) : Prop := ∀ a, a < 12 → ∀ b, b < 12 → 0 < l' a b → 0 < l a b ∨ (rd a b ∧ P a < 1000000 ∧ P b < 1000000 ∧ P b = P a + t a b)
theorem LDc_0 {rd : Nat → Nat → Prop} {t l : Nat → Nat → Int} {P : Nat → Int} : LDc rd t l l P := fun _ _ _ _ h => Or.inl h
theorem LDc_u {rd : Nat → Nat → Prop} {t l l' : Nat → Nat → Int} {P : Nat → Int} {u v : Nat} {q : Int} (h : LDc rd t l l' P) (hq : 0 ≤ q) (e1 : l' v u = l v u) (hr : rd u v) (hu : P u < 1000000) (hv : P v < 1000000) (hp : P v = P u + rcC t l u v) : LDc rd t l (arU l' u v q) P := fun a ha b hb z => by
  unfold arU at z
  by_cases c : 0 < l' v u
  · rw [if_pos c] at z
    by_cases e : a = v ∧ b = u
    · obtain ⟨e2, e3⟩ := e
      subst e2; subst e3
      rw [e1] at c; exact Or.inl c
    · rw [u2_n e] at z; exact h a ha b hb z
  · rw [if_neg c] at z
    by_cases e : a = u ∧ b = v
    · obtain ⟨e2, e3⟩ := e
      subst e2; subst e3
      refine Or.inr ⟨hr, hu, hv, ?_⟩
      rw [e1] at c
      unfold rcC at hp
      rw [if_neg c] at hp; exact hp
    · rw [u2_n e] at z; exact h a ha b hb z
theorem rc_le {t l : Nat → Nat → Int} {u v : Nat} (h : 0 ≤ t u v) : rcC t l u v ≤ t u v := by
  unfold rcC; split <;> omega
theorem CB_bd {rd : Nat → Nat → Prop} {t l : Nat → Nat → Int} {sp pi P fr : Nat → Int} {k : Nat → Nat} {clk : Nat} (h : CBc rd t l sp pi P fr k clk) (hX : FXb rd t l P) (ht : ∀ u, u < 12 → ∀ v, v < 12 → rd u v → 0 ≤ t u v ∧ t u v ≤ 48) : ∀ (m v : Nat), v < 12 → wk (P v - pi v) (k v) clk ≤ m → P v < 1000000 → P v ≤ 48 * (clN (fun x => wk (P x - pi x) (k x) clk) (wk (P v - pi v) (k v) clk) 12 : Int)
  | m, v, hv, hm, hf => by
    by_cases s : 0 < sp v
    · rw [(h.2.1 v hv s).1]; omega
    · rcases h.2.2 v hv s with ⟨q, _⟩ | ⟨_, u, hu, _, hr, q1, _, q3⟩
      · omega
      · have lt : wk (P u - pi u) (k u) clk < wk (P v - pi v) (k v) clk := wk_lt (by have := (h.1 u hu).1; omega) (h.1 u hu).2.2 q3
        match m, hm with
        | 0, hm => omega
        | m + 1, hm =>
          have ih := CB_bd h hX ht m u hu (by omega) q1
          have st := clN_st (m := fun x => wk (P x - pi x) (k x) clk) (u := u) (y := wk (P v - pi v) (k v) clk) lt 12 hu
          have fx := hX u hu v hv hr q1
          have r := rc_le (t := t) (l := l) (u := u) (v := v) (ht u hu v hv hr).1
          have r2 := (ht u hu v hv hr).2
          have st' : (clN (fun x => wk (P x - pi x) (k x) clk) (wk (P u - pi u) (k u) clk) 12 : Int) + 1 ≤ (clN (fun x => wk (P x - pi x) (k x) clk) (wk (P v - pi v) (k v) clk) 12 : Int) := by exact_mod_cast st
          omega
theorem CB_528 {rd : Nat → Nat → Prop} {t l : Nat → Nat → Int} {sp pi P fr : Nat → Int} {k : Nat → Nat} {clk v : Nat} (h : CBc rd t l sp pi P fr k clk) (hX : FXb rd t l P) (ht : ∀ u, u < 12 → ∀ v, v < 12 → rd u v → 0 ≤ t u v ∧ t u v ≤ 48) (hv : v < 12) (hf : P v < 1000000) : P v ≤ 528 := by
  have a := CB_bd h hX ht _ v hv (Nat.le_refl _) hf
  have b := clN_11 (m := fun x => wk (P x - pi x) (k x) clk) hv
  have b' : (clN (fun x => wk (P x - pi x) (k x) clk) (wk (P v - pi v) (k v) clk) 12 : Int) ≤ 11 := by exact_mod_cast b
  omega
def pnw (P pi : Nat → Int) : Nat → Int := fun v => if P v < 1000000 then P v else pi v
theorem PC_n {rd : Nat → Nat → Prop} {t l l' : Nat → Nat → Int} {sp sp' pi P fr : Nat → Int} {k : Nat → Nat} {clk : Nat} (hC : PCc rd t l sp pi) (h : CBc rd t l sp pi P fr k clk) (hX : FXb rd t l P) (ht : ∀ u, u < 12 → ∀ v, v < 12 → rd u v → 0 ≤ t u v ∧ t u v ≤ 48) (hs : ∀ u v, rd u v → rd v u) (hts : ∀ u v, t u v = t v u) (hL : LDc rd t l l' P) (hsp : ∀ v, v < 12 → 0 < sp' v → 0 < sp v) : PCc rd t l' sp' (pnw P pi) := by
  refine ⟨fun v hv => ?_, fun u hu v hv hr => ?_, fun v hv z => ?_⟩
  · unfold pnw
    have a := h.1 v hv
    have b := hC.1 v hv
    split <;> omega
  · have t0 := ht u hu v hv hr
    have cl : P u < 1000000 ↔ P v < 1000000 := by
      constructor
      · intro z
        have := hX u hu v hv hr z
        have := CB_528 h hX ht hu z
        have := rc_le (t := t) (l := l) (u := u) (v := v) t0.1
        omega
      · intro z
        have := hX v hv u hu (hs u v hr) z
        have := CB_528 h hX ht hv z
        have := rc_le (t := t) (l := l) (u := v) (v := u) (by rw [hts v u]; exact t0.1)
        rw [hts v u] at this
        omega
    have old : pnw P pi v ≤ pnw P pi u + rcC t l u v := by
      unfold pnw
      by_cases z : P u < 1000000
      · rw [if_pos z, if_pos (cl.mp z)]; exact hX u hu v hv hr z
      · rw [if_neg z, if_neg (fun y => z (cl.mpr y))]; exact hC.2.1 u hu v hv hr
    by_cases c : 0 < l' v u
    · unfold rcC
      rw [if_pos c]
      rcases hL v hv u hu c with q | ⟨_, q1, q2, q3⟩
      · unfold rcC at old; rw [if_pos q] at old; exact old
      · unfold pnw; rw [if_pos q1, if_pos q2]; rw [hts v u] at q3; omega
    · have r := rc_le (t := t) (l := l) (u := u) (v := v) t0.1
      unfold rcC
      rw [if_neg c]; omega
  · have := h.2.1 v hv (hsp v hv z)
    unfold pnw; rw [if_pos (by omega)]; exact this.1
theorem PC_e {rd : Nat → Nat → Prop} {t l : Nat → Nat → Int} {sp pi : Nat → Int} {u v : Nat} (hC : PCc rd t l sp pi) (hs : ∀ u v, rd u v → rd v u) (hts : ∀ u v, t u v = t v u) (hu : u < 12) (hv : v < 12) (hr : rd u v) (ht : 0 < t u v) (hl : 0 < l u v) : pi v = pi u + t u v := by
  have a := hC.2.1 v hv u hu (hs u v hr)
  have b := hC.2.1 u hu v hv hr
  unfold rcC at a b
  rw [if_pos hl, hts v u] at a
  split at b <;> omega
