def sI (f : Nat → Int) : Nat → Int
  | 0 => 0
  | n + 1 => sI f n + f n
theorem sI_c {f g : Nat → Int} : ∀ n, (∀ i, i < n → f i = g i) → sI f n = sI g n
  | 0, _ => rfl
  | n + 1, h => by
    show sI f n + f n = sI g n + g n
    rw [sI_c n (fun i hi => h i (by omega)), h n (by omega)]
theorem sI_add {f g : Nat → Int} : ∀ n, sI (fun i => f i + g i) n = sI f n + sI g n
  | 0 => rfl
  | n + 1 => by
    show sI (fun i => f i + g i) n + (f n + g n) = (sI f n + f n) + (sI g n + g n)
    rw [sI_add n]; omega
theorem sI_sub {f g : Nat → Int} : ∀ n, sI (fun i => f i - g i) n = sI f n - sI g n
  | 0 => rfl
  | n + 1 => by
    show sI (fun i => f i - g i) n + (f n - g n) = (sI f n + f n) - (sI g n + g n)
    rw [sI_sub n]; omega
theorem sI_le {f g : Nat → Int} : ∀ n, (∀ i, i < n → f i ≤ g i) → sI f n ≤ sI g n
  | 0, _ => Int.le_refl _
  | n + 1, h => by
    show sI f n + f n ≤ sI g n + g n
    have a := sI_le n (fun i hi => h i (by omega))
    have b := h n (by omega)
    omega
theorem sI_mul {f : Nat → Int} {a : Int} : ∀ n, sI (fun i => a * f i) n = a * sI f n
  | 0 => (Int.mul_zero a).symm
  | n + 1 => by
    show sI (fun i => a * f i) n + a * f n = a * (sI f n + f n)
    rw [sI_mul n, Int.mul_add]
theorem sI_z : ∀ n, sI (fun _ => 0) n = 0
  | 0 => rfl
  | n + 1 => by
    show sI (fun _ => 0) n + 0 = 0
    rw [sI_z n]; rfl
theorem sI_sw {f : Nat → Nat → Int} {n : Nat} : ∀ m, sI (fun i => sI (f i) n) m = sI (fun k => sI (fun i => f i k) m) n
  | 0 => (sI_z n).symm
  | m + 1 => by
    show sI (fun i => sI (f i) n) m + sI (f m) n = _
    rw [sI_sw m, ← sI_add]
    exact sI_c n (fun k _ => rfl)
theorem sI_pos {f : Nat → Int} {n : Nat} (h : ∀ i, i < n → 0 ≤ f i) : 0 ≤ sI f n := by
  have := sI_le (f := fun _ => 0) (g := f) n h
  rw [sI_z] at this; exact this
def sJ (f : Nat → Nat → Int) : Int := sI (fun i => sI (f i) 12) 12
theorem sJ_le {f g : Nat → Nat → Int} (h : ∀ i, i < 12 → ∀ k, k < 12 → f i k ≤ g i k) : sJ f ≤ sJ g := sI_le 12 (fun i hi => sI_le 12 (fun k hk => h i hi k hk))
theorem sJ_c {f g : Nat → Nat → Int} (h : ∀ i, i < 12 → ∀ k, k < 12 → f i k = g i k) : sJ f = sJ g := sI_c 12 (fun i hi => sI_c 12 (fun k hk => h i hi k hk))
theorem sJ_pot {x : Nat → Nat → Int} {G T : Nat → Int} : sJ (fun i k => (T k - G i) * x i k) = sI (fun k => T k * sI (fun i => x i k) 12) 12 - sI (fun i => G i * sI (x i) 12) 12 := by
  have a : sJ (fun i k => (T k - G i) * x i k) = sJ (fun i k => T k * x i k) - sJ (fun i k => G i * x i k) := by
    unfold sJ
    rw [← sI_sub]
    refine sI_c 12 (fun i _ => ?_)
    rw [← sI_sub]
    exact sI_c 12 (fun k _ => Int.sub_mul _ _ _)
  rw [a]
  have b : sJ (fun i k => T k * x i k) = sI (fun k => T k * sI (fun i => x i k) 12) 12 := by
    unfold sJ
    rw [sI_sw]
    exact sI_c 12 (fun k _ => sI_mul 12)
  have c : sJ (fun i k => G i * x i k) = sI (fun i => G i * sI (x i) 12) 12 := sI_c 12 (fun i _ => sI_mul 12)
  rw [b, c]
theorem du_eq {c x : Nat → Nat → Int} {G T : Nat → Int} (h : ∀ i, i < 12 → ∀ k, k < 12 → x i k = 0 ∨ T k = G i + c i k) : sJ (fun i k => c i k * x i k) = sI (fun k => T k * sI (fun i => x i k) 12) 12 - sI (fun i => G i * sI (x i) 12) 12 := by
  rw [← sJ_pot]
  refine sJ_c (fun i hi k hk => ?_)
  rcases h i hi k hk with e | e
  · rw [e, Int.mul_zero, Int.mul_zero]
  · rw [show T k - G i = c i k from by omega]
theorem du_ge {c x : Nat → Nat → Int} {G T : Nat → Int} (hx : ∀ i, i < 12 → ∀ k, k < 12 → 0 ≤ x i k) (h : ∀ i, i < 12 → ∀ k, k < 12 → x i k = 0 ∨ T k ≤ G i + c i k) : sI (fun k => T k * sI (fun i => x i k) 12) 12 - sI (fun i => G i * sI (x i) 12) 12 ≤ sJ (fun i k => c i k * x i k) := by
  rw [← sJ_pot]
  refine sJ_le (fun i hi k hk => ?_)
  rcases h i hi k hk with e | e
  · rw [e, Int.mul_zero, Int.mul_zero]; exact Int.le_refl _
  · exact Int.mul_le_mul_of_nonneg_right (by omega) (hx i hi k hk)
def FLo (f : Nat → Nat → Int) (h w sp : Nat → Int) : Prop := ∀ v, v < 12 → sI (fun u => f u v) 12 - sI (f v) 12 = w v - h v + sp v
theorem du_M1 {c x t f : Nat → Nat → Int} {G T h left w sp : Nat → Int} (hh : ∀ v, v < 12 → 0 ≤ left v ∧ left v ≤ h v ∧ 0 ≤ sp v ∧ sp v ≤ h v) (hG : ∀ v, v < 12 → 0 ≤ G v ∧ T v ≤ G v) (hl : ∀ v, v < 12 → 0 < left v → G v = 0) (hx : ∀ i, i < 12 → ∀ k, k < 12 → x i k = 0 ∨ T k = G i + c i k) (hX : ∀ k, k < 12 → sI (fun i => x i k) 12 = w k) (hY : ∀ i, i < 12 → sI (x i) 12 = h i - left i) (hf : ∀ u, u < 12 → ∀ v, v < 12 → 0 ≤ f u v) (hT : ∀ u, u < 12 → ∀ v, v < 12 → f u v = 0 ∨ T v ≤ T u + t u v) (hF : FLo f h w sp) : sJ (fun i k => c i k * x i k) ≤ sJ (fun u v => t u v * f u v) := by
  rw [du_eq hx]
  refine Int.le_trans ?_ (du_ge hf hT)
  have e1 : sI (fun k => T k * sI (fun i => x i k) 12) 12 = sI (fun k => T k * w k) 12 := sI_c 12 (fun k hk => by rw [hX k hk])
  have e2 : sI (fun i => G i * sI (x i) 12) 12 = sI (fun i => G i * (h i - left i)) 12 := sI_c 12 (fun i hi => by rw [hY i hi])
  have e3 : sI (fun v => T v * sI (fun u => f u v) 12) 12 - sI (fun u => T u * sI (f u) 12) 12 = sI (fun v => T v * (w v - h v + sp v)) 12 := by
    rw [← sI_sub]
    refine sI_c 12 (fun v hv => ?_)
    rw [← Int.mul_sub, hF v hv]
  rw [e1, e2, e3, ← sI_sub]
  refine sI_le 12 (fun v hv => ?_)
  obtain ⟨a1, a2, a3, a4⟩ := hh v hv
  obtain ⟨b1, b2⟩ := hG v hv
  have p1 : T v * (h v - sp v) ≤ G v * (h v - sp v) := Int.mul_le_mul_of_nonneg_right b2 (by omega)
  have p2 : G v * (h v - sp v) ≤ G v * (h v - left v) := by
    by_cases z : 0 < left v
    · rw [hl v hv z, Int.zero_mul, Int.zero_mul]; exact Int.le_refl _
    · exact Int.mul_le_mul_of_nonneg_left (by omega) b1
  have e : T v * (w v - h v + sp v) = T v * w v - T v * (h v - sp v) := by
    rw [← Int.mul_sub]; congr 1; omega
  rw [e]; omega
theorem du_M2 {c x t f : Nat → Nat → Int} {P h left w sp : Nat → Int} (hh : ∀ v, v < 12 → 0 ≤ left v ∧ left v ≤ h v ∧ 0 ≤ sp v ∧ sp v ≤ h v) (hP : ∀ v, v < 12 → 0 ≤ P v) (hs : ∀ v, v < 12 → 0 < sp v → P v = 0) (hx0 : ∀ i, i < 12 → ∀ k, k < 12 → 0 ≤ x i k) (hx : ∀ i, i < 12 → ∀ k, k < 12 → x i k = 0 ∨ P k ≤ P i + c i k) (hX : ∀ k, k < 12 → sI (fun i => x i k) 12 = w k) (hY : ∀ i, i < 12 → sI (x i) 12 = h i - left i) (hT : ∀ u, u < 12 → ∀ v, v < 12 → f u v = 0 ∨ P v = P u + t u v) (hF : FLo f h w sp) : sJ (fun u v => t u v * f u v) ≤ sJ (fun i k => c i k * x i k) := by
  rw [du_eq hT]
  refine Int.le_trans ?_ (du_ge hx0 hx)
  have e1 : sI (fun k => P k * sI (fun i => x i k) 12) 12 = sI (fun k => P k * w k) 12 := sI_c 12 (fun k hk => by rw [hX k hk])
  have e2 : sI (fun i => P i * sI (x i) 12) 12 = sI (fun i => P i * (h i - left i)) 12 := sI_c 12 (fun i hi => by rw [hY i hi])
  have e3 : sI (fun v => P v * sI (fun u => f u v) 12) 12 - sI (fun u => P u * sI (f u) 12) 12 = sI (fun v => P v * (w v - h v + sp v)) 12 := by
    rw [← sI_sub]
    refine sI_c 12 (fun v hv => ?_)
    rw [← Int.mul_sub, hF v hv]
  rw [e1, e2, e3, ← sI_sub]
  refine sI_le 12 (fun v hv => ?_)
  obtain ⟨a1, a2, a3, a4⟩ := hh v hv
  have b1 := hP v hv
  have p2 : P v * (h v - left v) ≤ P v * (h v - sp v) := by
    by_cases z : 0 < sp v
    · rw [hs v hv z, Int.zero_mul, Int.zero_mul]; exact Int.le_refl _
    · exact Int.mul_le_mul_of_nonneg_left (by omega) b1
  have e : P v * (w v - h v + sp v) = P v * w v - P v * (h v - sp v) := by
    rw [← Int.mul_sub]; congr 1; omega
  rw [e]; omega
