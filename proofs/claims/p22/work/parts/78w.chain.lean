def mS (P pi : Nat → Int) (k : Nat → Nat) (clk v : Nat) : Nat := wk (P v - pi v) (k v) clk
def chn (fr : Nat → Int) (g : Nat) : Nat → Nat
  | 0 => g
  | n + 1 => (fr (chn fr g n)).toNat
def CHn (rd : Nat → Nat → Prop) (t l : Nat → Nat → Int) (pi P fr : Nat → Int) (k : Nat → Nat) (clk g n : Nat) : Prop := (∀ j, j ≤ n → chn fr g j < 12 ∧ P (chn fr g j) < 1000000) ∧ ∀ j, j < n → fr (chn fr g j) = (chn fr g (j + 1) : Int) ∧ rd (chn fr g (j + 1)) (chn fr g j) ∧ P (chn fr g j) = P (chn fr g (j + 1)) + rcC t l (chn fr g (j + 1)) (chn fr g j) ∧ mS P pi k clk (chn fr g (j + 1)) < mS P pi k clk (chn fr g j)
theorem CH_0 {rd : Nat → Nat → Prop} {t l : Nat → Nat → Int} {pi P fr : Nat → Int} {k : Nat → Nat} {clk g : Nat} (hg : g < 12) (hf : P g < 1000000) : CHn rd t l pi P fr k clk g 0 := ⟨fun j hj => by rw [show j = 0 by omega]; exact ⟨hg, hf⟩, fun _ w => absurd w (by omega)⟩
theorem CH_s {rd : Nat → Nat → Prop} {t l : Nat → Nat → Int} {sp pi P fr : Nat → Int} {k : Nat → Nat} {clk g n : Nat} (h : CBc rd t l sp pi P fr k clk) (hX : FXb rd t l P) (c : CHn rd t l pi P fr k clk g n) (hs : ¬ 0 < sp (chn fr g n)) : CHn rd t l pi P fr k clk g (n + 1) := by
  obtain ⟨hv, hf⟩ := c.1 n (Nat.le_refl _)
  rcases h.2.2 _ hv hs with ⟨q, _⟩ | ⟨q, u, hu, e, hr, q1, q2, q3⟩
  · omega
  · have eu : chn fr g (n + 1) = u := by
      show (fr (chn fr g n)).toNat = u
      rw [e]; rfl
    have lt : wk (P u - pi u) (k u) clk < wk (P (chn fr g n) - pi (chn fr g n)) (k (chn fr g n)) clk := wk_lt (by have := (h.1 u hu).1; omega) (h.1 u hu).2.2 q3
    have fx := hX u hu _ hv hr q1
    refine ⟨fun j hj => ?_, fun j hj => ?_⟩
    · by_cases z : j = n + 1
      · rw [z, eu]; exact ⟨hu, q1⟩
      · exact c.1 j (by omega)
    · by_cases z : j = n
      · rw [z, eu]
        exact ⟨e, hr, by omega, lt⟩
      · exact c.2 j (by omega)
theorem CH_cl {rd : Nat → Nat → Prop} {t l : Nat → Nat → Int} {pi P fr : Nat → Int} {k : Nat → Nat} {clk g : Nat} : ∀ n, CHn rd t l pi P fr k clk g n → n + clN (mS P pi k clk) (mS P pi k clk (chn fr g n)) 12 ≤ 11
  | 0, c => by
    have := clN_11 (m := mS P pi k clk) (c.1 0 (Nat.le_refl _)).1
    omega
  | n + 1, c => by
    have ih := CH_cl n ⟨fun j hj => c.1 j (by omega), fun j hj => c.2 j (by omega)⟩
    have a := c.2 n (by omega)
    have st := clN_st (m := mS P pi k clk) (u := chn fr g (n + 1)) (y := mS P pi k clk (chn fr g n)) a.2.2.2 12 (c.1 (n + 1) (Nat.le_refl _)).1
    omega
theorem CH_dec {rd : Nat → Nat → Prop} {t l : Nat → Nat → Int} {pi P fr : Nat → Int} {k : Nat → Nat} {clk g n : Nat} (c : CHn rd t l pi P fr k clk g n) : ∀ d i, i + d ≤ n → mS P pi k clk (chn fr g (i + d)) + d ≤ mS P pi k clk (chn fr g i)
  | 0, i, _ => Nat.le_refl _
  | d + 1, i, h => by
    have a := CH_dec c d i (by omega)
    have b := (c.2 (i + d) (by omega)).2.2.2
    show mS P pi k clk (chn fr g (i + d + 1)) + (d + 1) ≤ _
    omega
def LEk (rd : Nat → Nat → Prop) (t l : Nat → Nat → Int) (pi P fr : Nat → Int) (k : Nat → Nat) (clk g : Nat) (q : Int) (l' : Nat → Nat → Int) (n : Nat) : Prop := LDc rd t l l' P ∧ (∀ a, a < 12 → ∀ b, b < 12 → mS P pi k clk a ≤ mS P pi k clk (chn fr g n) → mS P pi k clk b ≤ mS P pi k clk (chn fr g n) → l' a b = l a b) ∧ (∀ a, a < 12 → ∀ b, b < 12 → 0 ≤ l' a b) ∧ (∀ a, a < 12 → ∀ b, b < 12 → l' a b ≤ l a b + q) ∧ (∀ x, net l' x = net l x + (if x = g then q else 0) - (if x = chn fr g n then q else 0)) ∧ sJ (fun i j => t i j * l' i j) = sJ (fun i j => t i j * l i j) + q * (P g - P (chn fr g n))
theorem LE_0 {rd : Nat → Nat → Prop} {t l : Nat → Nat → Int} {pi P fr : Nat → Int} {k : Nat → Nat} {clk g : Nat} {q : Int} (hq : 0 ≤ q) (hl : ∀ a, a < 12 → ∀ b, b < 12 → 0 ≤ l a b) : LEk rd t l pi P fr k clk g q l 0 := by
  refine ⟨LDc_0, fun _ _ _ _ _ _ => rfl, hl, fun a ha b hb => by omega, fun x => ?_, ?_⟩
  · show _ = net l x + (if x = g then q else 0) - (if x = g then q else 0)
    omega
  · show _ = _ + q * (P g - P g)
    rw [Int.sub_self, Int.mul_zero]; omega
theorem LE_s {rd : Nat → Nat → Prop} {t l l' : Nat → Nat → Int} {pi P fr : Nat → Int} {k : Nat → Nat} {clk g n : Nat} {q : Int} (hts : ∀ u v, t u v = t v u) (hq : 0 ≤ q) (c : CHn rd t l pi P fr k clk g (n + 1)) (hb : 0 < l (chn fr g n) (chn fr g (n + 1)) → q ≤ l (chn fr g n) (chn fr g (n + 1))) (h : LEk rd t l pi P fr k clk g q l' n) : LEk rd t l pi P fr k clk g q (arU l' (chn fr g (n + 1)) (chn fr g n) q) (n + 1) := by
  obtain ⟨a1, a2, a3, a4, a5, a6⟩ := h
  obtain ⟨hv, fv⟩ := c.1 n (by omega)
  obtain ⟨hu, fu⟩ := c.1 (n + 1) (Nat.le_refl _)
  obtain ⟨_, hr, hp, lt⟩ := c.2 n (by omega)
  have ne : ¬ chn fr g (n + 1) = chn fr g n := fun w => by rw [w] at lt; omega
  have e1 : l' (chn fr g n) (chn fr g (n + 1)) = l (chn fr g n) (chn fr g (n + 1)) := a2 _ hv _ hu (Nat.le_refl _) (Nat.le_of_lt lt)
  have e2 : l' (chn fr g (n + 1)) (chn fr g n) = l (chn fr g (n + 1)) (chn fr g n) := a2 _ hu _ hv (Nat.le_of_lt lt) (Nat.le_refl _)
  have rc : rcC t l' (chn fr g (n + 1)) (chn fr g n) = rcC t l (chn fr g (n + 1)) (chn fr g n) := by unfold rcC; rw [e1]
  refine ⟨LDc_u a1 hq e1 hr fu fv hp, fun a ha b hb2 m1 m2 => ?_, ar_pos hq a3 (by rw [e1]; exact hb), fun a ha b hb2 => ?_, fun x => ?_, ?_⟩
  · rw [ar_n (fun w => by rw [w.2] at m2; omega) (fun w => by rw [w.1] at m1; omega)]
    exact a2 a ha b hb2 (by omega) (by omega)
  · have z := a4 a ha b hb2
    unfold arU
    split
    · by_cases w : a = chn fr g n ∧ b = chn fr g (n + 1)
      · obtain ⟨w1, w2⟩ := w
        subst w1; subst w2
        rw [u2_s]; omega
      · rw [u2_n w]; exact z
    · by_cases w : a = chn fr g (n + 1) ∧ b = chn fr g n
      · obtain ⟨w1, w2⟩ := w
        subst w1; subst w2
        rw [u2_s, e2]; omega
      · rw [u2_n w]; exact z
  · rw [net_ar hu hv, a5 x]
    omega
  · rw [cost_ar hu hv (hts _ _), a6, rc]
    have : q * (P g - P (chn fr g (n + 1))) = q * (P g - P (chn fr g n)) + q * rcC t l (chn fr g (n + 1)) (chn fr g n) := by
      rw [← Int.mul_add]; congr 1; omega
    rw [this]; omega
def cls (rd : Nat → Nat → Prop) (C : Nat → Bool) : Prop := ∀ u v, u < 12 → v < 12 → rd u v → C u = C v
theorem net_cl {rd : Nat → Nat → Prop} {l : Nat → Nat → Int} {C : Nat → Bool} (hC : cls rd C) (hl : ∀ a, a < 12 → ∀ b, b < 12 → l a b = 0 ∨ rd a b) : sI (fun v => if C v = true then net l v else 0) 12 = 0 := by
  have a : sI (fun v => if C v = true then net l v else 0) 12 = sI (fun v => sI (fun u => if C v = true then l u v else 0) 12) 12 - sI (fun v => sI (fun u => if C v = true then l v u else 0) 12) 12 := by
    rw [← sI_sub]
    refine sI_c 12 (fun v _ => ?_)
    by_cases c : C v = true
    · simp only [if_pos c]; rfl
    · simp only [if_neg c]; rw [sI_z]; rfl
  rw [a, sI_sw (f := fun v u => if C v = true then l u v else 0)]
  have b : sI (fun u => sI (fun v => if C v = true then l u v else 0) 12) 12 = sI (fun u => sI (fun v => if C u = true then l u v else 0) 12) 12 := by
    refine sI_c 12 (fun u hu => sI_c 12 (fun v hv => ?_))
    rcases hl u hu v hv with e | e
    · rw [e]; split <;> split <;> rfl
    · rw [hC u v hu hv e]
  rw [b]; omega
