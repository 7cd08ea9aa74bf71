def ByR (t : Nat → Int32) : Prop := ∀ i, -128 ≤ (t i).toInt ∧ (t i).toInt ≤ 127
theorem i60 : (60 : Int32).toInt = 60 := by decide
theorem by_p : ∀ m : Fin 128, (nI m.1 &&& 255) = nI m.1 := by decide +kernel
theorem by_n : ∀ m : Fin 129, 0 < m.1 → ¬ ((-(nI m.1)) &&& 255) ≤ 60 := by decide +kernel
theorem by_e {x : Int32} (h : -128 ≤ x.toInt ∧ x.toInt ≤ 127) (c : (x &&& 255) ≤ 60) : x &&& 255 = x := by
  rcases Int.lt_or_le x.toInt 0 with w | w
  · exfalso
    have e : x = -(nI (-x.toInt).toNat) := by
      rw [eq_I, neg_i (by rw [nI_toInt (by omega)]; omega), nI_toInt (by omega)]; omega
    rw [e] at c
    exact by_n ⟨(-x.toInt).toNat, by omega⟩ (by show 0 < (-x.toInt).toNat; omega) c
  · have e : x = nI x.toInt.toNat := by
      rw [eq_I, nI_toInt (by omega)]; omega
    have p := by_p ⟨x.toInt.toNat, by omega⟩
    rw [e]
    exact p
def CXk (h s c : Nat → Int32) (n : Nat) : Prop := ∀ k, k < n → L1 h s k (fun i => c (12 * i + k)) ∧ FXa h s (fun i => c (12 * i + k))
def CYk (h s c g : Nat → Int32) (n j : Nat) : Prop := CXk h s c n ∧ ∀ a, a < j → c (12 * a + n) = g a
theorem CX_0 {h s c : Nat → Int32} : CXk h s c 0 := fun _ w => absurd w (by omega)
theorem CY_0 {h s c g : Nat → Int32} {n : Nat} (hc : CXk h s c n) : CYk h s c g n 0 := ⟨hc, fun _ w => absurd w (by omega)⟩
theorem CY_s {h s c g : Nat → Int32} {n j : Nat} (hn : n < 12) (hc : CYk h s c g n j) : CYk h s (upd c (12 * j + n) (g j)) g n (j + 1) := by
  refine ⟨fun k hk => ?_, fun a ha => ?_⟩
  · have e : (fun i => upd c (12 * j + n) (g j) (12 * i + k)) = fun i => c (12 * i + k) := funext fun i => up_n (by omega)
    rw [e]; exact hc.1 k hk
  · by_cases z : a = j
    · subst z; exact up_s
    · rw [up_n (by omega)]; exact hc.2 a (by omega)
theorem L1_v {h s f g : Nat → Int32} {n : Nat} (hn : n < 12) (e : ∀ i, i < 12 → f i = g i) (hL : L1 h s n g) : L1 h s n f := by
  refine ⟨fun i hi => by rw [e i hi]; exact hL.1 i hi, by rw [e n hn]; exact hL.2.1, fun u hu => ?_⟩
  rcases hL.2.2 u hu with q | q | ⟨v, hv, hr, q⟩
  · exact Or.inl q
  · exact Or.inr (Or.inl (by rw [e u hu]; exact q))
  · exact Or.inr (Or.inr ⟨v, hv, hr, by rw [e u hu, e v hv]; exact q⟩)
theorem FX_v {h s f g : Nat → Int32} (e : ∀ i, i < 12 → f i = g i) (hL : FXa h s g) : FXa h s f := fun u hu v hv hr => by
  have a := hL u hu v hv hr
  rw [e u hu, e v hv]; exact a
theorem CY_e {h s c g : Nat → Int32} {n : Nat} (hn : n < 12) (hc : CYk h s c g n 12) (hL : L1 h s n g ∧ FXa h s g) : CXk h s c (n + 1) := fun k hk => by
  by_cases z : k = n
  · subst z
    exact ⟨L1_v hn (fun i hi => hc.2 i hi) hL.1, FX_v (fun i hi => hc.2 i hi) hL.2⟩
  · exact hc.1 k (by omega)
def hcI (sd : Nat → Int32) (n v : Nat) : Int := (cntE sd (nI v) n : Int)
theorem cntE_le {sd : Nat → Int32} {x : Int32} : ∀ n, cntE sd x n ≤ n
  | 0 => Nat.le_refl _
  | n + 1 => by
    show cntE sd x n + (if sd n = x then 1 else 0) ≤ n + 1
    have := cntE_le (sd := sd) (x := x) n
    split <;> omega
def WLk (sd tp wa lf : Nat → Int32) (n k : Nat) : Prop := ∀ v, v < k → wa v = tp v ∧ lf v = nI (cntE sd (nI v) n)
theorem WL_0 {sd tp wa lf : Nat → Int32} {n : Nat} : WLk sd tp wa lf n 0 := fun _ w => absurd w (by omega)
theorem WL_s {sd tp wa lf : Nat → Int32} {n k : Nat} (h : WLk sd tp wa lf n k) : WLk sd tp (upd wa k (tp k)) (upd lf k (nI (cntE sd (nI k) n))) n (k + 1) := fun v hv => by
  by_cases z : v = k
  · subst z; rw [up_s, up_s]; exact ⟨rfl, rfl⟩
  · rw [up_n z, up_n z]; exact h v (by omega)
theorem by_0 {x : Int32} (h : -128 ≤ x.toInt ∧ x.toInt ≤ 127) (c : (x &&& 255) ≤ 60) : 0 ≤ x.toInt ∧ x.toInt ≤ 60 := by
  have e := by_e h c
  have c' := c
  rw [e, le_i, i60] at c'
  rcases Int.lt_or_le x.toInt 0 with w | w
  · exfalso
    have e2 : x = -(nI (-x.toInt).toNat) := by
      rw [eq_I, neg_i (by rw [nI_toInt (by omega)]; omega), nI_toInt (by omega)]; omega
    rw [e2] at c
    exact by_n ⟨(-x.toInt).toNat, by omega⟩ (by show 0 < (-x.toInt).toNat; omega) c
  · exact ⟨w, c'⟩
theorem RFh_i {h s c sd tp : Nat → Int32} {n : Nat} (hh : Rng h) (hs : Rng s) (hR : RDs h s) (hn : n ≤ 60) (hB : ByR tp) (hb : ∀ k, k < 12 → (tp k &&& 255) ≤ 60) (hC : CXk h s c 12) : RFh c (fun k => (tp k).toInt) (hcI sd n) := by
  refine ⟨MT_c hh hs hR hC, fun k hk => ⟨by_0 (hB k) (hb k hk), ?_⟩⟩
  have a := cntE_le (sd := sd) (x := nI k) n
  unfold hcI
  omega
theorem RF_i {c sd tp wa lf ld : Nat → Int32} {n : Nat} (hn : n ≤ 60) (hH : RFh c (fun k => (tp k).toInt) (hcI sd n)) (hW : WLk sd tp wa lf n 12) (hl : ∀ i, i < 12 → ∀ k, k < 12 → ld (12 * i + k) = 0) : RFk c (fun k => (tp k).toInt) (hcI sd n) wa lf ld 0 := by
  refine RF_0 hH hl (fun k hk => ?_) (fun k hk => ?_)
  · unfold fI; rw [(hW k hk).1]
  · unfold fI
    rw [(hW k hk).2]
    have a := cntE_le (sd := sd) (x := nI k) n
    exact nI_toInt (by omega)
def WNk (wa : Nat → Int32) (k : Nat) (y : Int32) : Prop := (y = -1 ∧ ∀ v, v < k → wa v ≤ 0) ∨ ∃ v, v < 12 ∧ ¬ wa v ≤ 0 ∧ y = nI v
theorem WN_0 {wa : Nat → Int32} : WNk wa 0 (-1) := Or.inl ⟨rfl, fun _ w => absurd w (by omega)⟩
theorem WN_n {wa : Nat → Int32} {k : Nat} {y : Int32} (h : WNk wa k y) (c : wa k ≤ 0) : WNk wa (k + 1) y := by
  rcases h with ⟨a, b⟩ | h
  · refine Or.inl ⟨a, fun v hv => ?_⟩
    by_cases z : v = k
    · subst z; exact c
    · exact b v (by omega)
  · exact Or.inr h
theorem WN_y {wa : Nat → Int32} {k : Nat} (hk : k < 12) (c : ¬ wa k ≤ 0) : WNk wa (k + 1) (nI k) := Or.inr ⟨k, hk, c, rfl⟩
theorem WN_d {wa : Nat → Int32} {y : Int32} (h : WNk wa 12 y) (c : ¬ 0 ≤ y) : ∀ v, v < 12 → wa v ≤ 0 := by
  rcases h with ⟨_, b⟩ | ⟨v, hv, _, e⟩
  · exact b
  · rw [e] at c; exact absurd (nI_pos' (by omega)) c
theorem WN_e {wa : Nat → Int32} {y : Int32} (h : WNk wa 12 y) (c : 0 ≤ y) : ∃ v, v < 12 ∧ ¬ wa v ≤ 0 := by
  rcases h with ⟨a, _⟩ | ⟨v, hv, b, _⟩
  · rw [a] at c; exact absurd c (by decide)
  · exact ⟨v, hv, b⟩
theorem RF_fin {c : Nat → Int32} {w0 h0 : Nat → Int} {wa lf ld : Nat → Int32} {x : Int32} (h : RFk c w0 h0 wa lf ld x) (hd : ∀ v, v < 12 → wa v ≤ 0) : RFf c w0 h0 x := Or.inr ⟨wa, lf, ld, h, fun k hk => by
  have a := (h.2.2.1 k hk).1
  have b := hd k hk
  rw [le_i, Int32.toInt_zero] at b
  unfold fI at a ⊢
  omega⟩
def toQ (w tt : Nat → Int32) (n : Nat) (r : Int32) : Prop := (r = -1 ∧ ∀ k, k < n → ¬ w k ≤ 0 → 1000000 ≤ tt k) ∨ ∃ t, t < n ∧ r = nI t ∧ ¬ w t ≤ 0 ∧ ¬ 1000000 ≤ tt t
theorem tq_p {w tt : Nat → Int32} {n : Nat} {r : Int32} (h : toQ w tt n r) : toP w tt n r := by
  rcases h with ⟨a, _⟩ | h
  · exact Or.inl a
  · exact Or.inr h
theorem tq_0 {w tt : Nat → Int32} : toQ w tt 0 (-1) := Or.inl ⟨rfl, fun _ q => absurd q (by omega)⟩
theorem tq_n {w tt : Nat → Int32} {n : Nat} {r : Int32} (h : toQ w tt n r) (c : w n ≤ 0 ∨ 1000000 ≤ tt n) : toQ w tt (n + 1) r := by
  rcases h with ⟨a, b⟩ | ⟨t, ht, e, g⟩
  · refine Or.inl ⟨a, fun k hk q => ?_⟩
    by_cases z : k = n
    · subst z
      rcases c with c | c
      · exact absurd c q
      · exact c
    · exact b k (by omega) q
  · exact Or.inr ⟨t, by omega, e, g⟩
theorem tq_m {w tt : Nat → Int32} {r : Int32} (h : toQ w tt 12 r) (c : ¬ 0 ≤ r) : ∀ k, k < 12 → ¬ w k ≤ 0 → 1000000 ≤ tt k := by
  rcases h with ⟨_, b⟩ | ⟨t, ht, e, _⟩
  · exact b
  · rw [e] at c; exact absurd (nI_pos' (by omega)) c
def RLd (h s sd tp : Nat → Int32) (n sz : Nat) (r : Int32) : Prop := (r = -1 ∧ (¬ sz = 12 ∨ ∃ k, k < 12 ∧ ¬ (tp k &&& 255) ≤ 60)) ∨ (sz = 12 ∧ (∀ k, k < 12 → (tp k &&& 255) ≤ 60) ∧ ∃ c, CXk h s c 12 ∧ RFf c (fun k => (tp k).toInt) (hcI sd n) r)
theorem by_s {t : Nat → Int32} {i : Nat} (h : ∀ k, k < i → (t k &&& 255) ≤ 60) (c : (t i &&& 255) ≤ 60) : ∀ k, k < i + 1 → (t k &&& 255) ≤ 60 := fun k hk => by
  by_cases z : k = i
  · subst z; exact c
  · exact h k (by omega)
theorem mb_b (p k : Int32) : -128 ≤ (mb p k).toInt ∧ (mb p k).toInt ≤ 127 := by
  have e : (mb p k).toInt = ((p >>> (k &&& 31)).toInt8.toInt32.toInt8).toInt := Int8.toInt_toInt32 _
  have a := Int8.le_toInt ((p >>> (k &&& 31)).toInt8.toInt32.toInt8)
  have b := Int8.toInt_lt ((p >>> (k &&& 31)).toInt8.toInt32.toInt8)
  rw [e]
  omega
theorem BR_u {t : Nat → Int32} {n : Nat} {x : Int32} (h : ByR t) (hx : -128 ≤ x.toInt ∧ x.toInt ≤ 127) : ByR (upd t n x) := fun i => by
  by_cases q : i = n
  · rw [q, up_s]; exact hx
  · rw [up_n q]; exact h i
theorem BR_4 {t : Nat → Int32} {n : Nat} {p : Int32} (h : ByR t) : ByR (up4 t n (mb p)) := BR_u (BR_u (BR_u (BR_u h (mb_b p 24)) (mb_b p 16)) (mb_b p 8)) (mb_b p 0)
theorem FD_b {t f : Nat → Int32} {m m2 : Nat} {p0 p1 p2 p3 p4 : Int32} (h : ByR t) (M : FDx mb t f m m2 p0 p1 p2 p3 p4) : ByR f := by
  rcases M with ⟨_, e⟩ | ⟨_, e⟩
  · rw [e]; exact h
  · rw [e]; exact BR_4 (BR_4 (BR_4 (BR_4 (BR_4 h))))
theorem BR_0 : ByR (fun _ => 0) := fun _ => by
  show -128 ≤ (0 : Int32).toInt ∧ (0 : Int32).toInt ≤ 127
  decide
