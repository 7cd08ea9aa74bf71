def Tb (f : Nat → Int32) (n : Nat) : Prop := ∀ i, i < n → 0 ≤ (f i).toInt ∧ (f i).toInt < 20
theorem RV_tb {tb st co wm ho lo : Nat → Int32} {nr nt : Nat} (h : RV tb st co wm ho lo nr nt) (hn : nt ≤ 20) : Tb tb nr := fun r hr => by have := (h r hr).1; omega
theorem RV_cw {tb st co wm ho lo : Nat → Int32} {nr nt : Nat} (h : RV tb st co wm ho lo nr nt) : Cw co wm nr := fun r hr => (h r hr).2.1
def fstP (a : Nat → Int32) (n : Nat) (r : Int32) : Prop := r = -1 ∨ ∃ j, j < n ∧ r = nI j ∧ a j = 0
theorem fst_of {a : Nat → Int32} {n : Nat} {r : Int32} (h : fstP a n r) (c : ¬ r < 0) : ∃ j, j < n ∧ r = nI j ∧ a j = 0 := by
  rcases h with h | h
  · rw [h] at c; exact absurd (by decide) c
  · exact h
theorem fst_up {a : Nat → Int32} {n : Nat} {r : Int32} (h : fstP a n r) : fstP a (n + 1) r := by
  rcases h with h | ⟨j, hj, e, g⟩
  · exact Or.inl h
  · exact Or.inr ⟨j, by omega, e, g⟩
theorem fst_nw {a : Nat → Int32} {k : Nat} (h : a k = 0) : fstP a (k + 1) (nI k) := Or.inr ⟨k, by omega, rfl, h⟩
theorem best_of {f : Nat → Int32} {x : Int32} {n : Nat} {r : Int32} (h : bestP f x n r) (c : ¬ r < 0) : ∃ j : Nat, j < n ∧ r = nI j := by
  rcases h with h | ⟨j, hj, e, _⟩
  · rw [h] at c; exact absurd (by decide) c
  · exact ⟨j, hj, e⟩
theorem RV_s3 {tb st co wm ho lo : Nat → Int32} {nr nt r0 : Nat} (h : RV tb st co wm ho lo nr nt) (hl : lo r0 = 0) : RV tb (upd st r0 3) co wm ho lo nr nt := fun r hr => by
  by_cases q : r = r0
  · subst q
    rw [up_s]
    refine ⟨(h r hr).1, (h r hr).2.1, fun c => ?_, fun c => ?_, fun c => absurd hl c⟩
    · rcases c with c | c | c
      · exact absurd c (by decide)
      · exact absurd c (by decide)
      · exact absurd hl c
    · rcases c with c | c
      · exact absurd c (by decide)
      · exact absurd hl c
  · rw [up_n q]; exact h r hr
theorem RV_lv {tb st co wm ho lo : Nat → Int32} {nr nt r0 b : Nat} (h : RV tb st co wm ho lo nr nt) (hl : lo r0 = 0) (hc : (co r0).toInt < (wm r0).toInt) (hb : b < 60) : RV tb (upd st r0 1) co wm (upd ho r0 (nI b)) lo nr nt := fun r hr => by
  by_cases q : r = r0
  · subst q
    rw [up_s, up_s, nI_toInt (by omega)]
    exact ⟨(h r hr).1, (h r hr).2.1, fun _ => hc, fun _ => ⟨by omega, by omega⟩, fun c => absurd hl c⟩
  · rw [up_n q, up_n q]; exact h r hr
theorem Std_m {f : Nat → Int32} {n i : Nat} (h : Std f n) : Std (upd f i (-1)) n := fun x hx => by
  by_cases q : x = i
  · subst q; rw [up_s]; exact Or.inl rfl
  · rw [up_n q]; exact h x hx
theorem Std_u {f : Nat → Int32} {n i j : Nat} (h : Std f n) (hj : j < 12) : Std (upd f i (nI j)) n := fun x hx => by
  by_cases q : x = i
  · subst q; rw [up_s, nI_toInt (by omega)]; exact Or.inr ⟨by omega, by omega⟩
  · rw [up_n q]; exact h x hx
theorem Std_g {f : Nat → Int32} {n i : Nat} (h : Std f n) (hi : i < n) (c : ¬ f i < 0) : 0 ≤ (f i).toInt ∧ (f i).toInt < 12 := by
  rcases h i hi with q | q
  · rw [q] at c; exact absurd (by decide) c
  · exact q
theorem RV_lo {tb st co wm ho lo : Nat → Int32} {nr nt r0 : Nat} (h : RV tb st co wm ho lo nr nt) (hl : ¬ lo r0 = 0) : RV tb st co wm (upd ho r0 (-1)) (upd lo r0 0) nr nt := fun r hr => by
  by_cases q : r = r0
  · subst q
    rw [up_s, up_s]
    have h4 := (h r hr).2.2.2.2 hl
    refine ⟨(h r hr).1, (h r hr).2.1, fun _ => (h r hr).2.2.1 (Or.inr (Or.inr hl)), fun c => ?_, fun c => absurd rfl c⟩
    rcases c with c | c
    · rw [h4] at c; exact absurd c (by decide)
    · exact absurd rfl c
  · rw [up_n q, up_n q]; exact h r hr
theorem RV_cm {tb st co wm ho lo : Nat → Int32} {nr nt r0 c0 : Nat} {sv : Int32} (h : RV tb st co wm ho lo nr nt) (hr0 : r0 < nr) (hl : lo r0 = 0) (hc0 : c0 < 13) (hc : co r0 = nI c0) (hlt : (co r0).toInt < (wm r0).toInt) (hs : (sv = 2) ∨ (sv = 0 ∧ ¬ nI (c0 + 1) = wm r0)) : RV tb (upd st r0 sv) (upd co r0 (nI (c0 + 1))) wm (upd ho r0 (-1)) lo nr nt := fun r hr => by
  by_cases q : r = r0
  · subst q
    have b := (h r hr).2.1
    rw [hc] at b hlt
    rw [nI_toInt (by omega)] at b hlt
    have e1 : (nI (c0 + 1)).toInt = (c0 : Int) + 1 := by rw [nI_toInt (by omega)]; omega
    rw [up_s, up_s, up_s, e1]
    refine ⟨(h r hr).1, by omega, fun c => ?_, fun c => ?_, fun c => absurd hl c⟩
    · rcases hs with z | ⟨z, w⟩
      · subst z
        rcases c with c | c | c
        · exact absurd c (by decide)
        · exact absurd c (by decide)
        · exact absurd hl c
      · have : (wm r).toInt ≠ (c0 : Int) + 1 := fun q => w (Int32.toInt_inj.mp (by rw [e1]; exact q.symm))
        omega
    · rcases hs with z | ⟨z, _⟩
      · subst z
        rcases c with c | c
        · exact absurd c (by decide)
        · exact absurd hl c
      · subst z
        rcases c with c | c
        · exact absurd c (by decide)
        · exact absurd hl c
  · rw [up_n q, up_n q, up_n q]; exact h r hr
theorem Lz_u {lo : Nat → Int32} {nr r0 : Nat} {x : Int32} (h : Lz lo nr) (hr : r0 < nr) : Lz (upd lo r0 x) nr := fun r h1 h2 => by rw [up_n (by omega)]; exact h r h1 h2
def AK (a co wm lo : Nat → Int32) (n : Nat) : Prop := ∀ j, j < n → a j = 0 → (co j).toInt < (wm j).toInt ∧ lo j = 0
theorem AK_1 {a co wm lo : Nat → Int32} {k : Nat} {x : Int32} (h : AK a co wm lo k) (hx : ¬ x = 0) : AK (upd a k x) co wm lo (k + 1) := fun j hj c => by
  by_cases q : j = k
  · subst q; rw [up_s] at c; exact absurd c hx
  · rw [up_n q] at c; exact h j (by omega) c
theorem AK_0 {tb st co wm ho lo a : Nat → Int32} {nr nt k : Nat} {x : Int32} (hR : RV tb st co wm ho lo nr nt) (hk : k < nr) (h : AK a co wm lo k) (hs : st k = 0) : AK (upd a k x) co wm lo (k + 1) := fun j hj c => by
  by_cases q : j = k
  · subst q
    refine ⟨(hR j hk).2.2.1 (Or.inl hs), Decidable.byContradiction fun z => ?_⟩
    have := (hR j hk).2.2.2.2 z
    rw [hs] at this; exact absurd this (by decide)
  · rw [up_n q] at c; exact h j (by omega) c
theorem AK_u {a co wm lo : Nat → Int32} {n k : Nat} {x : Int32} (h : AK a co wm lo n) (hx : ¬ x = 0) : AK (upd a k x) co wm lo n := fun j hj c => by
  by_cases q : j = k
  · subst q; rw [up_s] at c; exact absurd c hx
  · rw [up_n q] at c; exact h j hj c
def c0N (a : Nat → Int32) : Nat → Nat
  | 0 => 0
  | n + 1 => c0N a n + (if a n = 0 then 1 else 0)
theorem c0_same {a : Nat → Int32} {k : Nat} {x : Int32} : ∀ n, n ≤ k → c0N (upd a k x) n = c0N a n
  | 0, _ => rfl
  | n + 1, h => by
    show c0N (upd a k x) n + (if upd a k x n = 0 then 1 else 0) = c0N a n + (if a n = 0 then 1 else 0)
    rw [c0_same n (by omega), up_n (by omega)]
theorem c0_lt {a : Nat → Int32} {k : Nat} {x : Int32} (hx : ¬ x = 0) (ha : a k = 0) : ∀ n, k < n → c0N (upd a k x) n + 1 ≤ c0N a n
  | 0, q => by omega
  | n + 1, q => by
    show c0N (upd a k x) n + (if upd a k x n = 0 then 1 else 0) + 1 ≤ c0N a n + (if a n = 0 then 1 else 0)
    by_cases e : k = n
    · subst e
      rw [c0_same k (by omega), up_s, if_neg hx, if_pos ha]; omega
    · rw [up_n (Ne.symm e)]
      have := c0_lt hx ha n (by omega)
      omega
theorem nar1 : ¬ vp_nar .boolean 1 = 0 := by decide
theorem rk1 {x : Int32} {k : Nat} (h : 1 ≤ x.toInt) (e : x = nI k) (hk : k < 4) : 1 ≤ k := by
  rw [e, nI_toInt (by omega)] at h; omega
theorem ix2 {k : Nat} (h : 1 ≤ k) (h2 : k ≤ 3) : vp_in (2 + nI k) 6 := by
  rw [show (2 : Int32) = nI 2 from rfl, nI_add]
  exact vp_in_nI (by omega) (by decide)

theorem nar0 : vp_nar .boolean 0 = 0 := by decide
