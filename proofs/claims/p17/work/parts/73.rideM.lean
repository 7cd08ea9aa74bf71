def cbN (g : Nat → Int32) (y : Int32) : Nat → Nat
  | 0 => 0
  | n + 1 => cbN g y n + (if g n < y then 1 else 0)
theorem cbN_le {g : Nat → Int32} {y : Int32} : ∀ n, cbN g y n ≤ n
  | 0 => Nat.le_refl _
  | n + 1 => by
    show cbN g y n + (if g n < y then 1 else 0) ≤ n + 1
    have := cbN_le (g := g) (y := y) n
    split <;> omega
theorem cbN_s {g : Nat → Int32} {y : Int32} {s : Nat} (h : ¬ g s < y) : ∀ n, s < n → cbN g y n + 1 ≤ n
  | 0, q => by omega
  | n + 1, q => by
    show cbN g y n + (if g n < y then 1 else 0) + 1 ≤ n + 1
    by_cases e : s = n
    · subst e; rw [if_neg h]; have := cbN_le (g := g) (y := y) s; omega
    · have := cbN_s h n (by omega)
      split <;> omega
theorem cbN_m {g : Nat → Int32} {y z : Int32} (h : y.toInt ≤ z.toInt) : ∀ n, cbN g y n ≤ cbN g z n
  | 0 => Nat.le_refl _
  | n + 1 => by
    show cbN g y n + (if g n < y then 1 else 0) ≤ cbN g z n + (if g n < z then 1 else 0)
    have := cbN_m (g := g) h n
    by_cases q : g n < y
    · have q2 : g n < z := by rw [lt_i] at q ⊢; omega
      rw [if_pos q, if_pos q2]; omega
    · rw [if_neg q]; split <;> omega
theorem cbN_l {g : Nat → Int32} {y z : Int32} {t : Nat} (h : y.toInt ≤ z.toInt) (h1 : ¬ g t < y) (h2 : g t < z) : ∀ n, t < n → cbN g y n + 1 ≤ cbN g z n
  | 0, q => by omega
  | n + 1, q => by
    show cbN g y n + (if g n < y then 1 else 0) + 1 ≤ cbN g z n + (if g n < z then 1 else 0)
    by_cases e : t = n
    · subst e; rw [if_neg h1, if_pos h2]; have := cbN_m (g := g) h t; omega
    · have := cbN_l h h1 h2 n (by omega)
      by_cases q : g n < y
      · have q2 : g n < z := by rw [lt_i] at q ⊢; omega
        rw [if_pos q, if_pos q2]; omega
      · rw [if_neg q]; split <;> omega
theorem irr {x : Int32} : ¬ x < x := by rw [lt_i]; omega
theorem cb_lt {g : Nat → Int32} {s t : Nat} (ht : t < 12) (h : g t < g s) : cbN g (g t) 12 + 1 ≤ cbN g (g s) 12 := cbN_l (by rw [lt_i] at h; omega) irr h 12 ht
theorem cb_11 {g : Nat → Int32} {s : Nat} (hs : s < 12) : cbN g (g s) 12 + 1 ≤ 12 := cbN_s irr 12 hs
def WT (h s g : Nat → Int32) (u a : Nat) : Prop := ∃ v, a ≤ v ∧ v < 12 ∧ ¬ h (12 * u + v) = 0 ∧ (h (12 * u + v) + s (12 * u + v)) + g v = g u
theorem WT_0 {h s g : Nat → Int32} {to u : Nat} (hh : Rng h) (hs : Rng s) (hL : L1 h s to g ∧ FXa h s g) (hu : u < 12) (hto : to < 12) (hne : ¬ nI u = nI to) (hf : (g u).toInt < 1000000) : WT h s g u 0 := by
  rcases hL.1.2.2 u hu with q | q | ⟨v, hv, hr, q⟩
  · exact absurd (by rw [q]) hne
  · omega
  · refine ⟨v, by omega, hv, hr, ?_⟩
    have f := hL.2 u hu v hv hr
    have r := hL.1.1 v hv
    obtain ⟨e, a1, a2, a3, a4⟩ := ti_r hh hs hu hv
    apply Int32.toInt_inj.mp
    rw [a_i (by omega) (by omega)]
    omega
theorem WT_lt {h s g : Nat → Int32} {u a : Nat} (w : WT h s g u a) : a < 12 := by
  obtain ⟨v, h1, h2, _⟩ := w; omega
theorem WT_s1 {h s g : Nat → Int32} {u a : Nat} (w : WT h s g u a) (c : h (12 * u + a) = 0) : WT h s g u (a + 1) := by
  obtain ⟨v, h1, h2, h3, h4⟩ := w
  have : v ≠ a := fun q => h3 (by rw [q]; exact c)
  exact ⟨v, by omega, h2, h3, h4⟩
theorem WT_s2 {h s g : Nat → Int32} {u a : Nat} (w : WT h s g u a) (c : ¬ (h (12 * u + a) + s (12 * u + a)) + g a = g u) : WT h s g u (a + 1) := by
  obtain ⟨v, h1, h2, h3, h4⟩ := w
  have : v ≠ a := fun q => c (by rw [← q]; exact h4)
  exact ⟨v, by omega, h2, h3, h4⟩
theorem WT_st {h s g : Nat → Int32} {to u a : Nat} (hh : Rng h) (hs : Rng s) (hL : L1 h s to g) (hu : u < 12) (ha : a < 12) (hr : ¬ h (12 * u + a) = 0) (c : (h (12 * u + a) + s (12 * u + a)) + g a = g u) : g a < g u ∧ ((g u).toInt < 1000000 → (g a).toInt < 1000000) := by
  obtain ⟨e, a1, a2, a3, a4⟩ := ti_r hh hs hu ha
  have r := hL.1 a ha
  have hne := i_ne hr
  have e2 := congrArg Int32.toInt c
  rw [a_i (by omega) (by omega)] at e2
  rw [lt_i]
  exact ⟨by omega, by omega⟩
theorem Stn_u {f : Nat → Int32} {n i j : Nat} (h : Stn f n) (hj : j < 12) : Stn (upd f i (nI j)) n := fun x hx => by
  by_cases q : x = i
  · subst q; rw [up_s, nI_toInt (by omega)]; omega
  · rw [up_n q]; exact h x hx
def Lz (lo : Nat → Int32) (nr : Nat) : Prop := ∀ r, nr ≤ r → r < 60 → lo r = 0
theorem RV_new {tb st co wm ho lo : Nat → Int32} {nr nt j n : Nat} {sv : Int32} (h : RV tb st co wm ho lo nr nt) (hl : lo nr = 0) (hj : j < nt) (hnt : nt ≤ 20) (hn : n ≤ 11) (hs : (sv = 2) ∨ (sv = 0 ∧ 1 ≤ n)) : RV (upd tb nr (nI j)) (upd st nr sv) (upd co nr 1) (upd wm nr (nI (n + 1))) (upd ho nr (-1)) lo (nr + 1) nt := fun r hr => by
  by_cases q : r = nr
  · subst q
    rw [up_s, up_s, up_s, up_s, up_s, nI_toInt (by omega), nI_toInt (by omega)]
    have e1 : (1 : Int32).toInt = 1 := by decide
    rw [e1]
    refine ⟨by omega, by omega, fun c => ?_, fun c => ?_, fun c => absurd hl c⟩
    · rcases hs with z | ⟨_, z⟩
      · subst z
        rcases c with c | c | c
        · exact absurd c (by decide)
        · exact absurd c (by decide)
        · exact absurd hl c
      · omega
    · rcases hs with z | ⟨z, _⟩
      · subst z
        rcases c with c | c
        · exact absurd c (by decide)
        · exact absurd hl c
      · subst z
        rcases c with c | c
        · exact absurd c (by decide)
        · exact absurd hl c
  · rw [up_n q, up_n q, up_n q, up_n q, up_n q]; exact h r (by omega)
theorem Lz_s {lo : Nat → Int32} {nr : Nat} (h : Lz lo nr) : Lz lo (nr + 1) := fun r h1 h2 => h r (by omega) h2

theorem ixN0 {u n : Nat} (h : 12 * u < n) (hn : n < 2 ^ 31) : vp_in (12 * nI u) n := by
  rw [show (12 : Int32) = nI 12 from rfl, pk_mul]
  exact vp_in_nI h hn
