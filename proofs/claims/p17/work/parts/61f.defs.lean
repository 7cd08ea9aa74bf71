def lnI (S : Nat → Nat → Nat → Int32) (p : Nat) : Nat := (S 448 0 p).toNatClampNeg
def sUW (S : Nat → Nat → Nat → Int32) (r : Nat) : Int32 := if S 36 r 0 = 0 then 1 else if S 36 r 0 = 1 then 1 else 0
def sSW (S : Nat → Nat → Nat → Int32) (r : Nat) (k : Int32) : Int32 := if k < 0 then -1 else if S 593 r 0 ≤ k then -1 else S 592 r k.toNatClampNeg
def nkS (S : Nat → Nat → Nat → Int32) (r : Nat) (p : Int32) : Int32 := if sp_st p = 0 then -1 else S 576 r p.toNatClampNeg
def hrS (S : Nat → Nat → Nat → Int32) (r : Nat) : Int32 := if S 36 r 0 = 1 then S 39 r 0 else -1
def lvS (S : Nat → Nat → Nat → Int32) (r h : Nat) (t d : Int32) : Nat → Nat → Nat → Int32 := up3 (up3 (up3 (up3 S 39 r 0 (nI h)) 40 r 0 t) 41 r 0 d) 36 r 0 1
def cmU (U : Nat → Nat → Nat → Int32) (r : Nat) : Nat → Nat → Nat → Int32 := if U 593 r 0 ≤ U 37 r 0 then up3 U 36 r 0 2 else up3 U 36 r 0 0
def cmT (T : Nat → Nat → Nat → Int32) (r : Nat) : Nat → Nat → Nat → Int32 := cmU (up3 T 37 r 0 (T 37 r 0 + 1)) r
def cmS (S : Nat → Nat → Nat → Int32) (r : Nat) (p : Int32) : Nat → Nat → Nat → Int32 := if sp_st (sSW S r (S 37 r 0)) = 0 then S else cmT (up3 (up3 S 576 r (sSW S r (S 37 r 0)).toNatClampNeg p) 38 r 0 p) r
def wkS (S : Nat → Nat → Nat → Int32) (h : Nat) (p : Int32) : Nat → Nat → Nat → Int32 := up3 S 2 h 0 (if 0 < S 2 h 0 - p then S 2 h 0 - p else 0)
def vdS (S : Nat → Nat → Nat → Int32) (t : Nat) (p : Int32) : Int32 := if sp_st p = 0 then -1 else S 560 t p.toNatClampNeg
def wvS (S : Nat → Nat → Nat → Int32) (t : Nat) (p d : Int32) : Int32 := if vdS S t p = -1 then 0 else if d < vdS S t p then 0 else 1
def tvR (S : Nat → Nat → Nat → Int32) (t : Nat) (p : Int32) : Int32 := if sp_st p = 0 then 0 else if S 560 t p.toNatClampNeg = -1 then 1 else 0
def tvS (S : Nat → Nat → Nat → Int32) (t : Nat) (p d : Int32) : Nat → Nat → Nat → Int32 := if sp_st p = 0 then S else if S 560 t p.toNatClampNeg = -1 then up3 S 560 t p.toNatClampNeg d else S
theorem tv01 {S : Nat → Nat → Nat → Int32} {t : Nat} {p r : Int32} (h : r = tvR S t p) (c : ¬ r = 0) : 1 = r := by
  rw [h] at c ⊢
  unfold tvR at c ⊢
  by_cases a : sp_st p = 0
  · rw [if_pos a] at c; exact absurd rfl c
  · rw [if_neg a] at c ⊢
    by_cases b : S 560 t p.toNatClampNeg = -1
    · rw [if_pos b]
    · rw [if_neg b] at c; exact absurd rfl c
def kpS (S : Nat → Nat → Nat → Int32) (g : Nat) (p : Int32) : Int32 := if p < 1 then 0 else if 3 < p then 0 else S 224 g (3 + p - 1).toNatClampNeg
def NC (S : Nat → Nat → Nat → Int32) (g : Nat → Int32) (u v : Nat) : Prop := ¬ tmN S u v = -1 ∧ g v + tmN S u v = g u
def NXs (S : Nat → Nat → Nat → Int32) (g : Nat → Int32) (u v : Nat) : Prop := NC S g u v ∧ ∀ z, z < v → ¬ NC S g u z
def STP (S : Nat → Nat → Nat → Int32) (u : Nat) (r : Int32) : Prop := (∃ v, v < 12 ∧ r = nI v ∧ NXs S (S 496 0) u v) ∨ (r = nI u ∧ ∀ v, v < 12 → ¬ NC S (S 496 0) u v)
theorem NC_s {P : Nat → Prop} {k : Nat} (h : ∀ z, z < k → ¬ P z) (c : ¬ P k) : ∀ z, z < k + 1 → ¬ P z := fun z hz => by
  by_cases q : z = k
  · rw [q]; exact c
  · exact h z (by omega)
def vdT (S : Nat → Nat → Nat → Int32) (n : Nat) (t p : Int32) : Int32 := if hOf n t = -1 then -1 else vdS S (hOf n t).toNatClampNeg p
def knT (S : Nat → Nat → Nat → Int32) (n : Nat) (t p : Int32) : Int32 := if hOf n t = -1 then -1 else nkS S (hOf n t).toNatClampNeg p
def wyT (S : Nat → Nat → Nat → Int32) (n : Nat) (t p : Int32) : Int32 := if hOf n t = -1 then -1 else sSW S (hOf n t).toNatClampNeg p
def HAD (S : Nat → Nat → Nat → Int32) (n : Nat) (t r : Int32) : Prop := (r = 1 ∧ ∃ q, q < n ∧ S 32 q 0 = t ∧ ¬ sUW S q = 0) ∨ (r = 0 ∧ ∀ q, q < n → S 32 q 0 = t → sUW S q = 0)
theorem HD_s {n k : Nat} {P : Nat → Prop} (h : ∀ q, q < k → q < n → P q) (c : k < n → P k) : ∀ q, q < k + 1 → q < n → P q := fun q h1 h2 => by
  by_cases e : q = k
  · subst e; exact c h2
  · exact h q (by omega) h2
def mn (k n : Nat) : Nat := if k < n then k else n
theorem mn_0 {n : Nat} : mn 0 n = 0 := by unfold mn; split <;> omega
theorem mn_s {k n : Nat} (h : k < n) : mn (k + 1) n = mn k n + 1 := by
  unfold mn
  rw [if_pos h]
  by_cases q : k + 1 < n
  · rw [if_pos q]
  · rw [if_neg q]; omega
theorem mn_k {k n : Nat} (h : k < n) : mn k n = k := if_pos h
theorem mn_n {k n : Nat} (h : ¬ k < n) : mn (k + 1) n = mn k n := by
  unfold mn
  rw [if_neg h, if_neg (by omega)]
theorem mn_e {k n : Nat} (h : n ≤ k) : mn k n = n := if_neg (by omega)
def pH (S : Nat → Nat → Nat → Int32) (p : Int32) (k : Nat) : Nat := if S 1 k 0 = p then 1 else 0
def pW (S : Nat → Nat → Nat → Int32) (p : Int32) (k : Nat) : Nat := if S 36 k 0 = 0 then (if sSW S k (S 37 k 0 - 1) = p then 1 else 0) else 0
def pU (S : Nat → Nat → Nat → Int32) (k : Nat) : Nat := if sUW S k = 0 then 0 else 1
def cn (b : Nat → Nat) : Nat → Nat
  | 0 => 0
  | k + 1 => cn b k + b k
theorem cn_1 {b : Nat → Nat} {k n : Nat} {x : Int32} (h : k < n) (e : x = nI (cn b (mn k n))) (c : b k = 1) : x + 1 = nI (cn b (mn (k + 1) n)) := by
  rw [mn_s h, e, mn_k h, nI_1]
  show nI (cn b k + 1) = nI (cn b k + b k)
  rw [c]
theorem cn_2 {b : Nat → Nat} {k n : Nat} {x : Int32} (h : k < n) (e : x = nI (cn b (mn k n))) (c : b k = 0) : x = nI (cn b (mn (k + 1) n)) := by
  rw [mn_s h, e, mn_k h]
  show nI (cn b k) = nI (cn b k + b k)
  rw [c]; rfl
theorem cn_3 {b : Nat → Nat} {k n : Nat} {x : Int32} (h : ¬ k < n) (e : x = nI (cn b (mn k n))) : x = nI (cn b (mn (k + 1) n)) := by rw [mn_n h]; exact e
theorem cn_0 {b : Nat → Nat} {n : Nat} : (0 : Int32) = nI (cn b (mn 0 n)) := by rw [mn_0]; rfl
theorem cn_e {b : Nat → Nat} {k m n : Nat} {x : Int32} (e : x = nI (cn b (mn k n))) (hk : k = m) (h : n ≤ m) : x = nI (cn b n) := by rw [e, hk, mn_e h]
def bst (S : Nat → Nat → Nat → Int32) (p : Int32) : Nat → Int32
  | 0 => -1
  | k + 1 => if S 1 k 0 = p ∧ (bst S p k = -1 ∨ ¬ S 2 k 0 ≤ S 2 (bst S p k).toNatClampNeg 0) then nI k else bst S p k
theorem bst_v {S : Nat → Nat → Nat → Int32} {p : Int32} : ∀ k, bst S p k = -1 ∨ ∃ u, u < k ∧ bst S p k = nI u
  | 0 => Or.inl rfl
  | k + 1 => by
    show (if S 1 k 0 = p ∧ (bst S p k = -1 ∨ ¬ S 2 k 0 ≤ S 2 (bst S p k).toNatClampNeg 0) then nI k else bst S p k) = -1 ∨ ∃ u, u < k + 1 ∧ (if S 1 k 0 = p ∧ (bst S p k = -1 ∨ ¬ S 2 k 0 ≤ S 2 (bst S p k).toNatClampNeg 0) then nI k else bst S p k) = nI u
    split
    · exact Or.inr ⟨k, by omega, rfl⟩
    · rcases bst_v (S := S) (p := p) k with h | ⟨u, hu, h⟩
      · exact Or.inl h
      · exact Or.inr ⟨u, by omega, h⟩
theorem bs_y {S : Nat → Nat → Nat → Int32} {p : Int32} {k n : Nat} {x : Int32} (h : k < n) (e : x = bst S p (mn k n)) (c : S 1 k 0 = p) (c2 : x = -1 ∨ ¬ S 2 k 0 ≤ S 2 x.toNatClampNeg 0) : nI k = bst S p (mn (k + 1) n) := by
  rw [mn_s h, mn_k h] at *
  show nI k = if _ then nI k else _
  rw [e] at c2
  rw [if_pos ⟨c, c2⟩]
theorem bs_n {S : Nat → Nat → Nat → Int32} {p : Int32} {k n : Nat} {x : Int32} (h : k < n) (e : x = bst S p (mn k n)) (c : ¬ (S 1 k 0 = p ∧ (x = -1 ∨ ¬ S 2 k 0 ≤ S 2 x.toNatClampNeg 0))) : x = bst S p (mn (k + 1) n) := by
  rw [mn_s h, mn_k h]
  rw [mn_k h] at e
  show x = if _ then nI k else _
  rw [e] at c
  rw [if_neg c, e]
theorem bs_o {S : Nat → Nat → Nat → Int32} {p : Int32} {k n : Nat} {x : Int32} (h : ¬ k < n) (e : x = bst S p (mn k n)) : x = bst S p (mn (k + 1) n) := by rw [mn_n h]; exact e
theorem bs_0 {S : Nat → Nat → Nat → Int32} {p : Int32} {n : Nat} : (-1 : Int32) = bst S p (mn 0 n) := by rw [mn_0]; rfl
theorem bs_e {S : Nat → Nat → Nat → Int32} {p : Int32} {k m n : Nat} {x : Int32} (e : x = bst S p (mn k n)) (hk : k = m) (h : n ≤ m) : bst S p n = x := by rw [e, hk, mn_e h]
def atT (S : Nat → Nat → Nat → Int32) (n0 n2 : Nat) (p0 p1 : Int32) : Int32 := if sp_st p0 = 0 then -1 else if p1 = 0 then S 480 0 p0.toNatClampNeg else if p1 = 1 then nI (cn (pH S p0) n0) else if p1 = 2 then nI (cn (pW S p0) n2) else -1
def ctT (a b c d e f p : Int32) : Int32 := if p = 0 then a else if p = 1 then b else if p = 2 then c else if p = 3 then d else if p = 4 then e else if p = 5 then f else -1
def gB (S : Nat → Nat → Nat → Int32) (a b : Nat) : Int32 := if sSW S a (S 37 a 0 - 1) = sSW S b (S 37 b 0 - 1) then (if S 33 a 0 = S 33 b 0 then (if S 38 b 0 ≤ S 38 a 0 then 0 else 1) else if S 33 b 0 ≤ S 33 a 0 then 0 else 1) else if sSW S b (S 37 b 0 - 1) ≤ sSW S a (S 37 a 0 - 1) then 0 else 1
def cr2 (T : Nat → Nat → Nat → Int32) (g h : Nat) : Nat → Nat → Nat → Int32 := up3 T 2 h 0 (if T 2 h 0 + T 224 g 1 < 100 then T 2 h 0 + T 224 g 1 else 100)
def crS (S : Nat → Nat → Nat → Int32) (g h s : Nat) : Nat → Nat → Nat → Int32 := if S 480 0 s ≤ 0 then wkS S h (S 224 g 2) else cr2 (up3 S 480 0 s (S 480 0 s - 1)) g h
def cr1 (S : Nat → Nat → Nat → Int32) (g n k : Nat) : Nat → Nat → Nat → Int32 := if k < n then (if sp_st (S 1 k 0) = 0 then S else crS S g k (S 1 k 0).toNatClampNeg) else S
def crK (S : Nat → Nat → Nat → Int32) (g n : Nat) : Nat → Nat → Nat → Nat → Int32
  | 0 => S
  | k + 1 => cr1 (crK S g n k) g n k
theorem crK_s {S T U : Nat → Nat → Nat → Int32} {g n k : Nat} (h : T = crK S g n k) (e : U = cr1 T g n k) : U = crK S g n (k + 1) := by
  rw [e, h]; rfl
def sd2 (S : Nat → Nat → Nat → Int32) (g n0 r : Nat) (hr fr tm x : Int32) : Nat → Nat → Nat → Int32 := if x = -1 then S else if tm = -1 then S else if nI (cn (pH S fr) n0) ≤ kpS S g (S 33 r 0) then S else if S 224 g 0 * tm ≤ S 2 x.toNatClampNeg 0 then lvS (up3 S 1 x.toNatClampNeg 0 (-1)) r x.toNatClampNeg hr tm else S
def sdS (S : Nat → Nat → Nat → Int32) (g n0 n6 : Nat) (hr : Int32) (r : Nat) : Nat → Nat → Nat → Int32 := if vdT S n6 (S 32 r 0) (sSW S r (S 37 r 0 - 1)) = -1 then sd2 S g n0 r hr (sSW S r (S 37 r 0 - 1)) (tmG S (sSW S r (S 37 r 0 - 1)) (sSW S r (S 37 r 0))) (bst S (sSW S r (S 37 r 0 - 1)) n0) else up3 S 36 r 0 3
def sdK (S : Nat → Nat → Nat → Int32) (g n0 n6 : Nat) (hr : Int32) (q : Nat → Nat) : Nat → Nat → Nat → Nat → Int32
  | 0 => S
  | k + 1 => sdS (sdK S g n0 n6 hr q k) g n0 n6 hr (q k)
theorem sdK_s {S T U : Nat → Nat → Nat → Int32} {g n0 n6 k w : Nat} {hr : Int32} {q : Nat → Nat} (h : T = sdK S g n0 n6 hr q k) (hw : w = q k) (e : U = sdS T g n0 n6 hr w) : U = sdK S g n0 n6 hr q (k + 1) := by
  rw [e, h, hw]; rfl
theorem lvS_l {S : Nat → Nat → Nat → Int32} {r h : Nat} {t d : Int32} : lvS S r h t d 448 = S 448 := by
  unfold lvS; rw [up3_c (by decide), up3_c (by decide), up3_c (by decide), up3_c (by decide)]
theorem sdS_l {S : Nat → Nat → Nat → Int32} {g n0 n6 r : Nat} {hr : Int32} : sdS S g n0 n6 hr r 448 = S 448 := by
  unfold sdS
  split
  · unfold sd2
    split
    · rfl
    · split
      · rfl
      · split
        · rfl
        · split
          · rw [lvS_l, up3_c (by decide)]
          · rfl
  · rw [up3_c (by decide)]
def cv1 (T : Nat → Nat → Nat → Int32) (n : Nat) (a b lf hr : Int32) (k : Nat) : Nat → Nat → Nat → Int32 := if k < n then (if wvS T k a lf = 0 then T else tvS T k b hr) else T
def cvK (T : Nat → Nat → Nat → Int32) (n : Nat) (a b lf hr : Int32) : Nat → Nat → Nat → Nat → Int32
  | 0 => T
  | k + 1 => cv1 (cvK T n a b lf hr k) n a b lf hr k
theorem cvK_s {S T U : Nat → Nat → Nat → Int32} {n k : Nat} {a b lf hr : Int32} (h : T = cvK S n a b lf hr k) (e : U = cv1 T n a b lf hr k) : U = cvK S n a b lf hr (k + 1) := by
  rw [e, h]; rfl
def br2 (T : Nat → Nat → Nat → Int32) (n6 r : Nat) (hr to : Int32) : Nat → Nat → Nat → Int32 := if T 36 r 0 = 1 then cmS (cvK T n6 (sSW T r (T 37 r 0 - 1)) to (T 40 r 0) hr 20) r hr else T
def brS (S : Nat → Nat → Nat → Int32) (g n6 : Nat) (hr : Int32) (r h : Nat) : Nat → Nat → Nat → Int32 := br2 (up3 (up3 (wkS S h (S 224 g 0 * S 41 r 0)) 1 h 0 (sSW S r (S 37 r 0))) 39 r 0 (-1)) n6 r hr (sSW S r (S 37 r 0))
def br1 (S : Nat → Nat → Nat → Int32) (g n6 n2 : Nat) (hr : Int32) (k : Nat) : Nat → Nat → Nat → Int32 := if k < n2 then (if S 39 k 0 = -1 then S else if hr < S 40 k 0 + S 41 k 0 then S else brS S g n6 hr k (S 39 k 0).toNatClampNeg) else S
def brK (S : Nat → Nat → Nat → Int32) (g n6 n2 : Nat) (hr : Int32) : Nat → Nat → Nat → Nat → Int32
  | 0 => S
  | k + 1 => br1 (brK S g n6 n2 hr k) g n6 n2 hr k
theorem brK_s {S T U : Nat → Nat → Nat → Int32} {g n6 n2 k : Nat} {hr : Int32} (h : T = brK S g n6 n2 hr k) (e : U = br1 T g n6 n2 hr k) : U = brK S g n6 n2 hr (k + 1) := by
  rw [e, h]; rfl
def klS (S : Nat → Nat → Nat → Int32) (n : Nat) (p : Int32) : Nat → Nat → Nat → Int32 := if hOf n p = -1 then S else if sUW S (hOf n p).toNatClampNeg = 0 then S else up3 S 36 (hOf n p).toNatClampNeg 0 4
def klR (S : Nat → Nat → Nat → Int32) (n : Nat) (p : Int32) : Int32 := if hOf n p = -1 then 0 else if sUW S (hOf n p).toNatClampNeg = 0 then 0 else 1
def caS (S : Nat → Nat → Nat → Int32) (n : Nat) (t p hr : Int32) : Nat → Nat → Nat → Int32 := if hOf n t = -1 then S else tvS S (hOf n t).toNatClampNeg p hr
def caR (S : Nat → Nat → Nat → Int32) (n : Nat) (t p : Int32) : Int32 := if hOf n t = -1 then 0 else tvR S (hOf n t).toNatClampNeg p
def fdS (S : Nat → Nat → Nat → Int32) (p0 p1 : Int32) : Nat → Nat → Nat → Int32 := if sp_st p0 = 0 then S else if p1 < 1 then S else if 10000 < p1 then S else if S 480 0 p0.toNatClampNeg + p1 ≤ 100000 then up3 S 480 0 p0.toNatClampNeg (S 480 0 p0.toNatClampNeg + p1) else S
def fdR (S : Nat → Nat → Nat → Int32) (p0 p1 : Int32) : Int32 := if sp_st p0 = 0 then -1 else if p1 < 1 then -1 else if 10000 < p1 then -1 else if S 480 0 p0.toNatClampNeg + p1 ≤ 100000 then S 480 0 p0.toNatClampNeg + p1 else -1
def AL (S T : Nat → Nat → Nat → Int32) : Prop := ∀ c, ¬ c = 448 → T c = S c
theorem AL.rf {S : Nat → Nat → Nat → Int32} : AL S S := fun _ _ => rfl
theorem AL.up {S T : Nat → Nat → Nat → Int32} {i j : Nat} {v : Int32} (h : AL S T) : AL S (up3 T 448 i j v) := fun c hc => by rw [up3_c hc]; exact h c hc
theorem AL.tr {S T U : Nat → Nat → Nat → Int32} (h : AL S T) (g : AL T U) : AL S U := fun c hc => (g c hc).trans (h c hc)
theorem sSW_c {S T : Nat → Nat → Nat → Int32} {r : Nat} {k : Int32} (h1 : T 593 = S 593) (h2 : T 592 = S 592) : sSW T r k = sSW S r k := by
  unfold sSW; rw [h1, h2]
theorem gB_c {S T : Nat → Nat → Nat → Int32} {a b : Nat} (h : AL S T) : gB T a b = gB S a b := by
  unfold gB
  rw [h 37 (by decide), h 33 (by decide), h 38 (by decide), sSW_c (h 593 (by decide)) (h 592 (by decide)), sSW_c (h 593 (by decide)) (h 592 (by decide))]
def PIL (S T : Nat → Nat → Nat → Int32) (r ll : Nat) : Prop := ∃ j, j ≤ ll ∧ AL S T ∧ (∀ p, p ≤ ll → T 448 0 p = if p < j then S 448 0 p else if p = j then nI r else S 448 0 (p - 1)) ∧ (∀ p, j ≤ p → p < ll → ¬ gB S r (lnI S p) = 0) ∧ (0 < j → gB S r (lnI S (j - 1)) = 0)
def PB (S T : Nat → Nat → Nat → Int32) (ll m : Nat) : Prop := ∀ p, p ≤ ll → T 448 0 p = if p ≤ m then S 448 0 p else S 448 0 (p - 1)
def PC (S : Nat → Nat → Nat → Int32) (r ll m : Nat) : Prop := ∀ p, m ≤ p → p < ll → ¬ gB S r (lnI S p) = 0
theorem PB_0 {S : Nat → Nat → Nat → Int32} {ll : Nat} : PB S S ll (ll - 0) := fun p hp => by rw [if_pos (by omega)]
theorem PC_0 {S : Nat → Nat → Nat → Int32} {r ll : Nat} : PC S r ll (ll - 0) := fun p h1 h2 => absurd h1 (by omega)
theorem PB_r {S T : Nat → Nat → Nat → Int32} {ll m p : Nat} (h : PB S T ll m) (h1 : p ≤ m) (h2 : p ≤ ll) : T 448 0 p = S 448 0 p := by rw [h p h2, if_pos h1]
theorem up3_n {S : Nat → Nat → Nat → Int32} {c i j x : Nat} {v : Int32} (h : ¬ x = j) : up3 S c i j v c i x = S c i x := by rw [up3_a, up_n h]
theorem PB_s {S T : Nat → Nat → Nat → Int32} {ll k : Nat} {v : Int32} (h : PB S T ll (ll - k)) (hk : k < ll) (e : T 448 0 (ll - (k + 1)) = v) : PB S (up3 T 448 0 (ll - k) v) ll (ll - (k + 1)) := fun p hp => by
  by_cases q : p = ll - k
  · subst q
    rw [up3_s, if_neg (by omega), ← e, PB_r h (by omega) (by omega)]
    rw [show ll - k - 1 = ll - (k + 1) by omega]
  · rw [up3_n q, h p hp]
    by_cases z : p ≤ ll - (k + 1)
    · rw [if_pos z, if_pos (by omega)]
    · rw [if_neg z, if_neg (by omega)]
theorem PC_s {S T : Nat → Nat → Nat → Int32} {r ll k u : Nat} {x : Int32} (h : PC S r ll (ll - k)) (ha : AL S T) (hB : PB S T ll (ll - k)) (hk : k < ll) (e : T 448 0 (ll - (k + 1)) = nI u) (hu : u < 2 ^ 31) (hx : x = gB T r u) (c : ¬ x = 0) : PC S r ll (ll - (k + 1)) := fun p h1 h2 => by
  by_cases q : p = ll - (k + 1)
  · subst q
    unfold lnI
    rw [← PB_r hB (by omega) (by omega), e, nI_clamp hu, ← gB_c ha, ← hx]; exact c
  · exact h p (by omega) h2
theorem PIL_e {S T : Nat → Nat → Nat → Int32} {r ll k : Nat} (ha : AL S T) (hB : PB S T ll (ll - k)) (hC : PC S r ll (ll - k)) (hz : 0 < ll - k → gB S r (lnI S (ll - k - 1)) = 0) : PIL S (up3 T 448 0 (ll - k) (nI r)) r ll := by
  refine ⟨ll - k, by omega, ha.up, fun p hp => ?_, hC, hz⟩
  by_cases q : p = ll - k
  · subst q; rw [up3_s, if_neg (by omega), if_pos rfl]
  · rw [up3_n q, hB p hp]
    by_cases z : p < ll - k
    · rw [if_pos z, if_pos (by omega)]
    · rw [if_neg z, if_neg q, if_neg (by omega)]
theorem PIL_z {S T : Nat → Nat → Nat → Int32} {r ll k u : Nat} {x : Int32} (ha : AL S T) (hB : PB S T ll (ll - k)) (hk : k < ll) (e : T 448 0 (ll - (k + 1)) = nI u) (hu : u < 2 ^ 31) (hx : x = gB T r u) (c : x = 0) : gB S r (lnI S (ll - k - 1)) = 0 := by
  unfold lnI
  rw [show ll - k - 1 = ll - (k + 1) by omega, ← PB_r hB (by omega) (by omega), e, nI_clamp hu, ← gB_c ha, ← hx]; exact c
def LNs (S : Nat → Nat → Nat → Int32) (n ll : Nat) (q : Nat → Nat) : Prop := ∀ j, j < ll → S 448 0 j = nI (q j) ∧ q j < n
theorem LN_ne {S T : Nat → Nat → Nat → Int32} {n ll k : Nat} {q : Nat → Nat} (h : LNs S n ll q) (hn : n < 2 ^ 31) (hB : PB S T ll (ll - k)) (hk : k < ll) : ¬ T 448 0 (ll - (k + 1)) = -1 := by
  rw [PB_r hB (by omega) (by omega), (h _ (by omega)).1]
  exact nI_m (by have := (h (ll - (k + 1)) (by omega)).2; omega)
def sT (S : Nat → Nat → Nat → Int32) (r : Nat) : Int := (sSW S r (S 37 r 0 - 1)).toInt
def rK (S : Nat → Nat → Nat → Int32) (r : Nat) : Int := (S 33 r 0).toInt
def cM (S : Nat → Nat → Nat → Int32) (r : Nat) : Int := (S 38 r 0).toInt
def kl (S : Nat → Nat → Nat → Int32) (a b : Nat) : Prop := sT S a < sT S b ∨ (sT S a = sT S b ∧ (rK S a < rK S b ∨ (rK S a = rK S b ∧ cM S a < cM S b)))
def lR (S : Nat → Nat → Nat → Int32) (a b : Nat) : Prop := kl S a b ∨ (¬ kl S b a ∧ a < b)
theorem lR_ir {S : Nat → Nat → Nat → Int32} : ∀ a, ¬ lR S a a := fun a h => by
  unfold lR kl at h; omega
theorem lR_tr {S : Nat → Nat → Nat → Int32} : ∀ a b c, lR S a b → lR S b c → lR S a c := fun a b c h g => by
  unfold lR kl at *; omega
theorem eq_I {a b : Int32} : a = b ↔ a.toInt = b.toInt := Int32.toInt_inj.symm
theorem gB_k {S : Nat → Nat → Nat → Int32} {a b : Nat} : (¬ gB S a b = 0) ↔ kl S a b := by
  unfold gB kl sT rK cM
  by_cases c1 : sSW S a (S 37 a 0 - 1) = sSW S b (S 37 b 0 - 1)
  · have d1 := eq_I.mp c1
    rw [if_pos c1]
    by_cases c2 : S 33 a 0 = S 33 b 0
    · have d2 := eq_I.mp c2
      rw [if_pos c2]
      by_cases c3 : S 38 b 0 ≤ S 38 a 0
      · have d3 := Int32.le_iff_toInt_le.mp c3
        rw [if_pos c3]; constructor
        · intro h; exact absurd rfl h
        · intro h; omega
      · have d3 : ¬ (S 38 b 0).toInt ≤ (S 38 a 0).toInt := fun w => c3 (Int32.le_iff_toInt_le.mpr w)
        rw [if_neg c3]; constructor
        · intro _; omega
        · intro _ h; exact absurd h (by decide)
    · have d2 : ¬ (S 33 a 0).toInt = (S 33 b 0).toInt := fun w => c2 (eq_I.mpr w)
      rw [if_neg c2]
      by_cases c3 : S 33 b 0 ≤ S 33 a 0
      · have d3 := Int32.le_iff_toInt_le.mp c3
        rw [if_pos c3]; constructor
        · intro h; exact absurd rfl h
        · intro h; omega
      · have d3 : ¬ (S 33 b 0).toInt ≤ (S 33 a 0).toInt := fun w => c3 (Int32.le_iff_toInt_le.mpr w)
        rw [if_neg c3]; constructor
        · intro _; omega
        · intro _ h; exact absurd h (by decide)
  · have d1 : ¬ (sSW S a (S 37 a 0 - 1)).toInt = (sSW S b (S 37 b 0 - 1)).toInt := fun w => c1 (eq_I.mpr w)
    rw [if_neg c1]
    by_cases c3 : sSW S b (S 37 b 0 - 1) ≤ sSW S a (S 37 a 0 - 1)
    · have d3 := Int32.le_iff_toInt_le.mp c3
      rw [if_pos c3]; constructor
      · intro h; exact absurd rfl h
      · intro h; omega
    · have d3 : ¬ (sSW S b (S 37 b 0 - 1)).toInt ≤ (sSW S a (S 37 a 0 - 1)).toInt := fun w => c3 (Int32.le_iff_toInt_le.mpr w)
      rw [if_neg c3]; constructor
      · intro _; omega
      · intro _ h; exact absurd h (by decide)
def LUk (S T : Nat → Nat → Nat → Int32) (n : Nat) (q : Nat → Nat) (ll k : Nat) : Prop := AL S T ∧ LNs T n ll q ∧ ll ≤ mn k n ∧ Srt (fun r => r < k ∧ r < n ∧ S 36 r 0 = 0) (lR S) q ll
theorem LU_0 {S T : Nat → Nat → Nat → Int32} {n : Nat} (h : AL S T) : LUk S T n (fun _ => 0) 0 0 := ⟨h, fun j hj => absurd hj (by omega), by omega, fun p hp => absurd hp (by omega), fun a b _ hb => absurd hb (by omega), fun r hr => absurd hr.1 (by omega)⟩
theorem Srt_W {W V : Nat → Prop} {lt : Nat → Nat → Prop} {q : Nat → Nat} {n : Nat} (h : Srt W lt q n) (e : ∀ r, W r ↔ V r) : Srt V lt q n := ⟨fun p hp => (e _).mp (h.1 p hp), h.2.1, fun r hr => h.2.2 r ((e r).mpr hr)⟩
theorem LU_n {S T : Nat → Nat → Nat → Int32} {n ll k : Nat} {q : Nat → Nat} (h : LUk S T n q ll k) (c : ¬ (k < n ∧ S 36 k 0 = 0)) : LUk S T n q ll (k + 1) := by
  refine ⟨h.1, h.2.1, ?_, Srt_W h.2.2.2 (fun r => ⟨fun w => ⟨by omega, w.2⟩, fun w => ⟨?_, w.2⟩⟩)⟩
  · have := h.2.2.1
    by_cases z : k < n
    · rw [mn_s z]; omega
    · rw [mn_n z]; exact this
  · rcases Nat.lt_or_ge r k with z | z
    · exact z
    · exfalso; apply c
      have : r = k := by omega
      subst this; exact w.2
theorem LU_y {S T U : Nat → Nat → Nat → Int32} {n ll k : Nat} {q : Nat → Nat} (h : LUk S T n q ll k) (hk : k < n) (hn : n < 2 ^ 31) (c : S 36 k 0 = 0) (hp : PIL T U k ll) : ∃ q', LUk S U n q' (ll + 1) (k + 1) := by
  obtain ⟨hA, hL, hm, hS⟩ := h
  obtain ⟨j, hj, hA2, hq, h2, h1⟩ := hp
  have hln : ∀ p, p < ll → lnI T p = q p := fun p hp => by
    unfold lnI; rw [(hL p hp).1, nI_clamp (by have := (hL p hp).2; omega)]
  have lk : ∀ p, p < ll → q p < k := fun p hp => (hS.1 p hp).1
  have a2 : ∀ p, j ≤ p → p < ll → lR S k (q p) := fun p h3 h4 => Or.inl (by
    rw [← gB_k, ← gB_c hA, ← hln p h4]; exact h2 p h3 h4)
  have a1 : ∀ p, p < j → lR S (q p) k := fun p h3 => by
    have hj1 : lR S (q (j - 1)) k := Or.inr ⟨by
      rw [← gB_k, ← gB_c hA, ← hln (j - 1) (by omega)]
      exact fun w => w (h1 (by omega)), lk (j - 1) (by omega)⟩
    by_cases e : p = j - 1
    · rw [e]; exact hj1
    · exact lR_tr _ _ _ (hS.2.1 p (j - 1) (by omega) (by omega)) hj1
  have R := srt_in (q' := fun p => if p < j then q p else if p = j then k else q (p - 1)) lR_tr hS hj a1 a2 (fun p _ => rfl)
  refine ⟨_, hA.tr hA2, fun p hp => ?_, by rw [mn_s hk]; omega, Srt_W R (fun r => ⟨fun w => ?_, fun w => ?_⟩)⟩
  · have e := hq p (by omega)
    by_cases z : p < j
    · rw [if_pos z] at e; simp only [if_pos z]; rw [e]; exact hL p (by omega)
    · rw [if_neg z] at e; simp only [if_neg z]
      by_cases z2 : p = j
      · rw [if_pos z2] at e; simp only [if_pos z2]; exact ⟨e, hk⟩
      · rw [if_neg z2] at e; simp only [if_neg z2]; rw [e]; exact hL (p - 1) (by omega)
  · rcases w with w | w
    · exact ⟨by omega, w.2⟩
    · subst w; exact ⟨by omega, hk, c⟩
  · by_cases z : r = k
    · exact Or.inr z
    · exact Or.inl ⟨by omega, w.2⟩
def LU (S T : Nat → Nat → Nat → Int32) (n : Nat) (q : Nat → Nat) (ll : Nat) : Prop := AL S T ∧ LNs T n ll q ∧ Srt (fun r => r < n ∧ S 36 r 0 = 0) (lR S) q ll
theorem LU_e {S T : Nat → Nat → Nat → Int32} {n ll k m : Nat} {q : Nat → Nat} (h : LUk S T n q ll k) (hk : k = m) (hm : n ≤ m) : LU S T n q ll := ⟨h.1, h.2.1, Srt_W h.2.2.2 (fun r => ⟨fun w => w.2, fun w => ⟨by omega, w⟩⟩)⟩
def NXc (S T : Nat → Nat → Nat → Int32) (g n0 n6 n2 hr : Nat) : Prop := (¬ hr < 9999 ∧ T = S) ∨ (hr < 9999 ∧ ∃ (U : Nat → Nat → Nat → Int32) (q : Nat → Nat) (ll : Nat), LU (crK S g n0 60) U n2 q ll ∧ T = brK (sdK U g n0 n6 (nI hr) q ll) g n6 n2 (nI (hr + 1)) 60)
