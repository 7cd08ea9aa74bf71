def Cst (c : Nat → Int32) : Prop := ∀ i, i < 144 → 0 ≤ (c i).toInt ∧ (c i).toInt ≤ 1000000
def PO (c led lf : Nat → Int32) (G T : Nat → Int) : Prop := (∀ i, i < 12 → 0 ≤ G i ∧ G i ≤ 1000000) ∧ (∀ k, k < 12 → 0 ≤ T k ∧ T k ≤ 1000000) ∧ (∀ i, i < 12 → ∀ k, k < 12 → G i < 1000000 → (c (12 * i + k)).toInt < 1000000 → T k ≤ G i + (c (12 * i + k)).toInt) ∧ (∀ i, i < 12 → ∀ k, k < 12 → 0 < (led (12 * i + k)).toInt → T k < 1000000 → G i ≤ T k - (c (12 * i + k)).toInt) ∧ ∀ i, i < 12 → 0 < (lf i).toInt → G i = 0
def CH (c led lf : Nat → Int32) (G T : Nat → Int) (tg tt gb tb : Nat → Int32) (kg kt : Nat → Nat) (clk : Nat) : Prop :=
  (∀ i, i < 12 → G i ≤ (tg i).toInt ∧ (tg i).toInt ≤ 1000000 ∧ kg i ≤ clk) ∧ (∀ k, k < 12 → T k ≤ (tt k).toInt ∧ (tt k).toInt ≤ 1000000 ∧ kt k ≤ clk) ∧
  (∀ i, i < 12 → (gb i = -1 ∧ ((tg i).toInt = 0 ∨ (tg i).toInt = 1000000)) ∨ ∃ k, k < 12 ∧ gb i = nI k ∧ (tt k).toInt < 1000000 ∧ (tg i).toInt < 1000000 ∧ 0 < (led (12 * i + k)).toInt ∧ (tt k).toInt - (c (12 * i + k)).toInt ≤ (tg i).toInt ∧ ((tt k).toInt - T k < (tg i).toInt - G i ∨ ((tt k).toInt - T k = (tg i).toInt - G i ∧ kt k < kg i))) ∧
  (∀ k, k < 12 → (tb k = -1 ∧ (tt k).toInt = 1000000) ∨ ∃ i, i < 12 ∧ tb k = nI i ∧ (tg i).toInt < 1000000 ∧ (tt k).toInt < 1000000 ∧ (c (12 * i + k)).toInt < 1000000 ∧ (tg i).toInt + (c (12 * i + k)).toInt ≤ (tt k).toInt ∧ ((tg i).toInt - G i < (tt k).toInt - T k ∨ ((tg i).toInt - G i = (tt k).toInt - T k ∧ kg i < kt k))) ∧
  ∀ i, i < 12 → 0 < (lf i).toInt → (tg i).toInt ≤ 0
def un (f : Nat → Nat) (k x : Nat) : Nat → Nat := fun j => if j = k then x else f j
theorem un_s {f : Nat → Nat} {k x : Nat} : un f k x k = x := if_pos rfl
theorem un_n {f : Nat → Nat} {k x j : Nat} (h : j ≠ k) : un f k x j = f j := if_neg h
theorem CH_t {c led lf : Nat → Int32} {G T : Nat → Int} {tg tt gb tb : Nat → Int32} {kg kt : Nat → Nat} {clk i k : Nat} (hc : Cst c) (hP : PO c led lf G T) (h : CH c led lf G T tg tt gb tb kg kt clk) (hi : i < 12) (hk : k < 12) (h1 : (tg i).toInt < 1000000) (h2 : (c (12 * i + k)).toInt < 1000000) (h3 : tg i + c (12 * i + k) < tt k) :
    (tg i + c (12 * i + k)).toInt = (tg i).toInt + (c (12 * i + k)).toInt ∧ CH c led lf G T tg (upd tt k (tg i + c (12 * i + k))) gb (upd tb k (nI i)) kg (un kt k (clk + 1)) (clk + 1) := by
  have ci := hc (12 * i + k) (by omega)
  have gi := h.1 i hi
  have Gi := hP.1 i hi
  have e : (tg i + c (12 * i + k)).toInt = (tg i).toInt + (c (12 * i + k)).toInt := a_i (by omega) (by omega)
  refine ⟨e, ?_⟩
  rw [lt_i, e] at h3
  have tk := h.2.1 k hk
  have pa := hP.2.2.1 i hi k hk (by omega) h2
  obtain ⟨a1, a2, a3, a4, a5⟩ := h
  refine ⟨fun j hj => ?_, fun j hj => ?_, fun j hj => ?_, fun j hj => ?_, a5⟩
  · have := a1 j hj; exact ⟨this.1, this.2.1, by omega⟩
  · by_cases q : j = k
    · subst q; rw [up_s, un_s, e]; exact ⟨by omega, by omega, by omega⟩
    · rw [up_n q, un_n q]; have := a2 j hj; exact ⟨this.1, this.2.1, by omega⟩
  · rcases a3 j hj with z | ⟨k', hk', z1, z2, z3, z4, z5, z6⟩
    · exact Or.inl z
    · refine Or.inr ⟨k', hk', z1, ?_⟩
      by_cases q : k' = k
      · subst q
        rw [up_s, un_s, e]
        exact ⟨by omega, z3, z4, by omega, Or.inl (by omega)⟩
      · rw [up_n q, un_n q]; exact ⟨z2, z3, z4, z5, z6⟩
  · by_cases q : j = k
    · subst q
      refine Or.inr ⟨i, hi, up_s, h1, ?_⟩
      rw [up_s, un_s, e]
      refine ⟨by omega, h2, by omega, ?_⟩
      have := (a1 i hi).2.2
      rcases Int.lt_or_le ((tg i).toInt - G i) ((tg i).toInt + (c (12 * i + j)).toInt - T j) with w | w
      · exact Or.inl w
      · exact Or.inr ⟨by omega, by omega⟩
    · rw [up_n q, up_n q, un_n q]; exact a4 j hj
theorem CH_g {c led lf : Nat → Int32} {G T : Nat → Int} {tg tt gb tb : Nat → Int32} {kg kt : Nat → Nat} {clk i k : Nat} (hc : Cst c) (hP : PO c led lf G T) (h : CH c led lf G T tg tt gb tb kg kt clk) (hi : i < 12) (hk : k < 12) (h1 : 0 < (led (12 * i + k)).toInt) (h2 : (tt k).toInt < 1000000) (h3 : tt k - c (12 * i + k) < tg i) :
    (tt k - c (12 * i + k)).toInt = (tt k).toInt - (c (12 * i + k)).toInt ∧ CH c led lf G T (upd tg i (tt k - c (12 * i + k))) tt (upd gb i (nI k)) tb (un kg i (clk + 1)) kt (clk + 1) := by
  have ci := hc (12 * i + k) (by omega)
  have tk := h.2.1 k hk
  have Tk := hP.2.1 k hk
  have Gi := hP.1 i hi
  have e : (tt k - c (12 * i + k)).toInt = (tt k).toInt - (c (12 * i + k)).toInt := s_i (by omega) (by omega)
  refine ⟨e, ?_⟩
  rw [lt_i, e] at h3
  have gi := h.1 i hi
  have pa := hP.2.2.2.1 i hi k hk h1 (by omega)
  obtain ⟨a1, a2, a3, a4, a5⟩ := h
  refine ⟨fun j hj => ?_, fun j hj => ?_, fun j hj => ?_, fun j hj => ?_, fun j hj hl => ?_⟩
  · by_cases q : j = i
    · subst q; rw [up_s, un_s, e]; exact ⟨by omega, by omega, by omega⟩
    · rw [up_n q, un_n q]; have := a1 j hj; exact ⟨this.1, this.2.1, by omega⟩
  · have := a2 j hj; exact ⟨this.1, this.2.1, by omega⟩
  · by_cases q : j = i
    · subst q
      refine Or.inr ⟨k, hk, up_s, h2, ?_⟩
      rw [up_s, un_s, e]
      refine ⟨by omega, h1, by omega, ?_⟩
      have := (a2 k hk).2.2
      rcases Int.lt_or_le ((tt k).toInt - T k) ((tt k).toInt - (c (12 * j + k)).toInt - G j) with w | w
      · exact Or.inl w
      · exact Or.inr ⟨by omega, by omega⟩
    · rw [up_n q, up_n q, un_n q]; exact a3 j hj
  · rcases a4 j hj with z | ⟨i', hi', z1, z2, z3, z4, z5, z6⟩
    · exact Or.inl z
    · refine Or.inr ⟨i', hi', z1, ?_⟩
      by_cases q : i' = i
      · subst q
        rw [up_s, un_s, e]
        exact ⟨by omega, z3, z4, by omega, Or.inl (by omega)⟩
      · rw [up_n q, un_n q]; exact ⟨z2, z3, z4, z5, z6⟩
  · by_cases q : j = i
    · subst q; rw [up_s, e]; have := a5 j hj hl; omega
    · rw [up_n q]; exact a5 j hj hl
def FC1 (c tg tt : Nat → Int32) (i k : Nat) : Prop := (tg i).toInt < 1000000 → (c (12 * i + k)).toInt < 1000000 → (tt k).toInt ≤ (tg i).toInt + (c (12 * i + k)).toInt
def FC2 (c led tg tt : Nat → Int32) (i k : Nat) : Prop := 0 < (led (12 * i + k)).toInt → (tt k).toInt < 1000000 → (tg i).toInt ≤ (tt k).toInt - (c (12 * i + k)).toInt
def FC (c led tg tt : Nat → Int32) (i k : Nat) : Prop := FC1 c tg tt i k ∧ FC2 c led tg tt i k
def FXc (c led tg tt : Nat → Int32) : Prop := ∀ i, i < 12 → ∀ k, k < 12 → FC c led tg tt i k
def PSc (c led tg tt : Nat → Int32) (U V : Nat) : Prop := (∀ i, i < U → ∀ k, k < 12 → FC c led tg tt i k) ∧ ∀ k, k < V → FC c led tg tt U k
def Ms (tg tt : Nat → Int32) : Nat := sumG tg 12 + sumG tt 12
def IC (c led tg0 tt0 tg tt : Nat → Int32) (m : Int32) (U V : Nat) : Prop := (m = 0 ∧ tg = tg0 ∧ tt = tt0 ∧ PSc c led tg tt U V) ∨ (m = 1 ∧ Ms tg tt < Ms tg0 tt0)
def ID (c led tg0 tt0 tg tt : Nat → Int32) (m : Int32) (U V : Nat) : Prop := (m = 0 ∧ tg = tg0 ∧ tt = tt0 ∧ PSc c led tg tt U V ∧ FC1 c tg tt U V) ∨ (m = 1 ∧ Ms tg tt < Ms tg0 tt0)
def CHe (c led lf : Nat → Int32) (G T : Nat → Int) (tg tt gb tb : Nat → Int32) : Prop := ∃ (kg kt : Nat → Nat) (clk : Nat), CH c led lf G T tg tt gb tb kg kt clk
section FL
variable {c led lf tg tt gb tb tg0 tt0 : Nat → Int32} {G T : Nat → Int} {m : Int32} {i k U V : Nat}
theorem FC1_1 (h : 1000000 ≤ tg i) : FC1 c tg tt i k := fun a _ => by
  rw [le_i, far_i] at h; omega
theorem FC1_2 (h : 1000000 ≤ c (12 * i + k)) : FC1 c tg tt i k := fun _ a => by
  rw [le_i, far_i] at h; omega
theorem FC1_3 (hc : Cst c) (hP : PO c led lf G T) (hC : CHe c led lf G T tg tt gb tb) (hi : i < 12) (hk : k < 12) (h : tt k ≤ tg i + c (12 * i + k)) : FC1 c tg tt i k := fun _ _ => by
  obtain ⟨kg, kt, clk, hC⟩ := hC
  have a := hc (12 * i + k) (by omega)
  have b := hC.1 i hi
  have d := hP.1 i hi
  rw [le_i, a_i (by omega) (by omega)] at h
  exact h
theorem FC2_1 (h : led (12 * i + k) ≤ 0) : FC2 c led tg tt i k := fun a _ => by
  rw [le_i, Int32.toInt_zero] at h; omega
theorem FC2_2 (h : 1000000 ≤ tt k) : FC2 c led tg tt i k := fun _ a => by
  rw [le_i, far_i] at h; omega
theorem FC2_3 (hc : Cst c) (hP : PO c led lf G T) (hC : CHe c led lf G T tg tt gb tb) (hi : i < 12) (hk : k < 12) (h : tg i ≤ tt k - c (12 * i + k)) : FC2 c led tg tt i k := fun _ _ => by
  obtain ⟨kg, kt, clk, hC⟩ := hC
  have a := hc (12 * i + k) (by omega)
  have b := hC.2.1 k hk
  have d := hP.2.1 k hk
  rw [le_i, s_i (by omega) (by omega)] at h
  exact h
theorem ID_a (h : IC c led tg0 tt0 tg tt m U V) (f : FC1 c tg tt U V) : ID c led tg0 tt0 tg tt m U V := by
  rcases h with ⟨a, b, d, e⟩ | h
  · exact Or.inl ⟨a, b, d, e, f⟩
  · exact Or.inr h
theorem UT (hc : Cst c) (hP : PO c led lf G T) (hC : CHe c led lf G T tg tt gb tb) (hi : i < 12) (hk : k < 12) (h1 : ¬ 1000000 ≤ tg i) (h2 : ¬ 1000000 ≤ c (12 * i + k)) (h3 : ¬ tt k ≤ tg i + c (12 * i + k)) (hI : IC c led tg0 tt0 tg tt m i k) : CHe c led lf G T tg (upd tt k (tg i + c (12 * i + k))) gb (upd tb k (nI i)) ∧ ID c led tg0 tt0 tg (upd tt k (tg i + c (12 * i + k))) 1 i k := by
  obtain ⟨kg, kt, clk, hC⟩ := hC
  rw [le_i, far_i] at h1 h2
  have h3 := Int32.not_le.mp h3
  obtain ⟨e, hN⟩ := CH_t hc hP hC hi hk (by omega) (by omega) h3
  refine ⟨⟨_, _, _, hN⟩, Or.inr ⟨rfl, ?_⟩⟩
  have b := hC.1 i hi
  have d := hP.1 i hi
  have a := hc (12 * i + k) (by omega)
  rw [lt_i, e] at h3
  have hs := sumG_lt (g := tt) (u := k) (x := tg i + c (12 * i + k)) (by rw [e]; omega) 12 hk
  rcases hI with ⟨_, q1, q2, _⟩ | ⟨_, q⟩
  · subst q1; subst q2; unfold Ms; omega
  · unfold Ms at q ⊢; omega
theorem UG (hc : Cst c) (hP : PO c led lf G T) (hC : CHe c led lf G T tg tt gb tb) (hi : i < 12) (hk : k < 12) (h1 : ¬ led (12 * i + k) ≤ 0) (h2 : ¬ 1000000 ≤ tt k) (h3 : ¬ tg i ≤ tt k - c (12 * i + k)) (hI : ID c led tg0 tt0 tg tt m i k) : CHe c led lf G T (upd tg i (tt k - c (12 * i + k))) tt (upd gb i (nI k)) tb ∧ IC c led tg0 tt0 (upd tg i (tt k - c (12 * i + k))) tt 1 i (k + 1) := by
  obtain ⟨kg, kt, clk, hC⟩ := hC
  rw [le_i, far_i] at h2
  rw [le_i, Int32.toInt_zero] at h1
  have h3 := Int32.not_le.mp h3
  obtain ⟨e, hN⟩ := CH_g hc hP hC hi hk (by omega) (by omega) h3
  refine ⟨⟨_, _, _, hN⟩, Or.inr ⟨rfl, ?_⟩⟩
  have n := hN.1 i hi
  rw [up_s, e] at n
  have d := hP.1 i hi
  rw [lt_i, e] at h3
  have hs := sumG_lt (g := tg) (u := i) (x := tt k - c (12 * i + k)) (by rw [e]; omega) 12 hi
  rcases hI with ⟨_, q1, q2, _⟩ | ⟨_, q⟩
  · subst q1; subst q2; unfold Ms; omega
  · unfold Ms at q ⊢; omega
theorem IC_a (h : ID c led tg0 tt0 tg tt m U V) (f : FC2 c led tg tt U V) : IC c led tg0 tt0 tg tt m U (V + 1) := by
  rcases h with ⟨a, b, d, ⟨e1, e2⟩, f1⟩ | h
  · refine Or.inl ⟨a, b, d, e1, fun k hk => ?_⟩
    by_cases q : k = V
    · subst q; exact ⟨f1, f⟩
    · exact e2 k (by omega)
  · exact Or.inr h
theorem IC_0 : IC c led tg tt tg tt 0 0 0 := Or.inl ⟨rfl, rfl, rfl, fun _ q => absurd q (by omega), fun _ q => absurd q (by omega)⟩
theorem IC_r (h : IC c led tg0 tt0 tg tt m U 12) : IC c led tg0 tt0 tg tt m (U + 1) 0 := by
  rcases h with ⟨a, b, d, e1, e2⟩ | h
  · refine Or.inl ⟨a, b, d, fun i hi k hk => ?_, fun _ q => absurd q (by omega)⟩
    by_cases q : i = U
    · subst q; exact e2 k hk
    · exact e1 i (by omega) k hk
  · exact Or.inr h
theorem IC_f {m0 : Int32} {n : Nat} (h : IC c led tg0 tt0 tg tt m 12 0) (hf : Ms tg0 tt0 + 1 + wb m0 ≤ n + 1) (hm : ¬ m0 = 0) : Ms tg tt + 1 + wb m ≤ n := by
  have e0 : wb m0 = 1 := if_neg hm
  rcases h with ⟨a, b, d, _⟩ | ⟨a, b⟩
  · subst b; subst d; have : wb m = 0 := if_pos a
    omega
  · have : wb m ≤ 1 := by unfold wb; split <;> omega
    omega
theorem IC_e (h : IC c led tg0 tt0 tg tt m 12 0) : (m = 0 ∧ FXc c led tg tt) ∨ m = 1 := by
  rcases h with ⟨a, _, _, d, _⟩ | ⟨a, _⟩
  · exact Or.inl ⟨a, d⟩
  · exact Or.inr a
def CI (lf tg tt gb tb : Nat → Int32) (n : Nat) : Prop := ∀ x, x < n → (0 < (lf x).toInt ∧ tg x = 0 ∨ ¬ 0 < (lf x).toInt ∧ tg x = 1000000) ∧ gb x = -1 ∧ tt x = 1000000 ∧ tb x = -1
theorem CI_s {x : Int32} (h : CI lf tg tt gb tb k) (hx : (¬ lf k ≤ 0 ∧ x = 0) ∨ (lf k ≤ 0 ∧ x = 1000000)) : CI lf (upd tg k x) (upd tt k 1000000) (upd gb k (-1)) (upd tb k (-1)) (k + 1) := fun y hy => by
  by_cases q : y = k
  · subst q
    rw [up_s, up_s, up_s, up_s, le_i, Int32.toInt_zero] at *
    exact ⟨by rcases hx with ⟨a, b⟩ | ⟨a, b⟩; exact Or.inl ⟨by omega, b⟩; exact Or.inr ⟨by omega, b⟩, rfl, rfl, rfl⟩
  · rw [up_n q, up_n q, up_n q, up_n q]; exact h y (by omega)
theorem CI_C (hP : PO c led lf G T) (h : CI lf tg tt gb tb 12) : CHe c led lf G T tg tt gb tb := by
  refine ⟨fun _ => 0, fun _ => 0, 0, fun i hi => ?_, fun k hk => ?_, fun i hi => ?_, fun k hk => ?_, fun i hi hl => ?_⟩
  · have a := hP.1 i hi
    rcases (h i hi).1 with ⟨q, e⟩ | ⟨q, e⟩
    · rw [e, Int32.toInt_zero]; have := hP.2.2.2.2 i hi q; exact ⟨by omega, by omega, Nat.le_refl _⟩
    · rw [e, far_i]; exact ⟨by omega, by omega, Nat.le_refl _⟩
  · have a := hP.2.1 k hk
    rw [(h k hk).2.2.1, far_i]; exact ⟨by omega, by omega, Nat.le_refl _⟩
  · refine Or.inl ⟨(h i hi).2.1, ?_⟩
    rcases (h i hi).1 with ⟨q, e⟩ | ⟨q, e⟩
    · rw [e]; exact Or.inl rfl
    · rw [e]; exact Or.inr far_i
  · exact Or.inl ⟨(h k hk).2.2.2, by rw [(h k hk).2.2.1]; exact far_i⟩
  · rcases (h i hi).1 with ⟨q, e⟩ | ⟨q, e⟩
    · rw [e, Int32.toInt_zero]; omega
    · exact absurd hl q
def LD (led led' gb tb : Nat → Int32) : Prop := ∀ i, i < 12 → ∀ k, k < 12 → 0 < (led' (12 * i + k)).toInt → 0 < (led (12 * i + k)).toInt ∨ tb k = nI i ∨ gb i = nI k
def LF (lf lf' tg : Nat → Int32) : Prop := ∀ i, i < 12 → 0 < (lf' i).toInt → 0 < (lf i).toInt ∨ (tg i).toInt = 0
theorem PO_n {led' lf' : Nat → Int32} (hP : PO c led lf G T) (hC : CHe c led lf G T tg tt gb tb) (hX : FXc c led tg tt) (hD : LD led led' gb tb) (hF : LF lf lf' tg) : PO c led' lf' (fun i => (tg i).toInt) (fun k => (tt k).toInt) := by
  obtain ⟨kg, kt, clk, hC⟩ := hC
  refine ⟨fun i hi => ?_, fun k hk => ?_, fun i hi k hk a b => (hX i hi k hk).1 a b, fun i hi k hk a b => ?_, fun i hi a => ?_⟩
  · have := hP.1 i hi; have := hC.1 i hi; show 0 ≤ (tg i).toInt ∧ (tg i).toInt ≤ 1000000; omega
  · have := hP.2.1 k hk; have := hC.2.1 k hk; show 0 ≤ (tt k).toInt ∧ (tt k).toInt ≤ 1000000; omega
  · rcases hD i hi k hk a with z | z | z
    · exact (hX i hi k hk).2 z b
    · rcases hC.2.2.2.1 k hk with ⟨w, _⟩ | ⟨i', hi', w, _, _, _, w5, _⟩
      · rw [w] at z
        have := congrArg Int32.toInt z
        rw [nI_toInt (by omega)] at this
        have e : (-1 : Int32).toInt = -1 := by decide
        omega
      · rw [w] at z
        have := nI_inj (by omega) (by omega) z
        subst this
        show (tg i').toInt ≤ (tt k).toInt - _
        omega
    · rcases hC.2.2.1 i hi with ⟨w, _⟩ | ⟨k', hk', w, _, _, w4, _, _⟩
      · rw [w] at z
        have := congrArg Int32.toInt z
        rw [nI_toInt (by omega)] at this
        have e : (-1 : Int32).toInt = -1 := by decide
        omega
      · rw [w] at z
        have := nI_inj (by omega) (by omega) z
        subst this
        exact (hX i hi k' hk').2 w4 b
  · show (tg i).toInt = 0
    rcases hF i hi a with z | z
    · have h1 := hC.2.2.2.2 i hi z
      have h2 := hC.1 i hi
      have h3 := hP.1 i hi
      omega
    · exact z
theorem LD_u {led' : Nat → Int32} {x : Int32} (h : LD led led' gb tb) (hi : i < 12) (hk : k < 12) (hw : tb k = nI i ∨ gb i = nI k) : LD led (upd led' (12 * i + k) x) gb tb := fun a ha b hb z => by
  by_cases q : 12 * a + b = 12 * i + k
  · have e1 : a = i := by omega
    have e2 : b = k := by omega
    rw [e1, e2]
    exact Or.inr hw
  · rw [up_n q] at z; exact h a ha b hb z
theorem LFf_u {x : Int32} (hg : (tg i).toInt = 0) : LF lf (upd lf i x) tg := fun a ha z => by
  by_cases q : a = i
  · subst q; exact Or.inr hg
  · rw [up_n q] at z; exact Or.inl z
theorem PO_0 (hc : Cst c) (hl : ∀ i, i < 12 → ∀ k, k < 12 → led (12 * i + k) = 0) : PO c led lf (fun _ => 0) (fun _ => 0) := by
  refine ⟨fun _ _ => ⟨Int.le_refl 0, by show (0 : Int) ≤ 1000000; omega⟩, fun _ _ => ⟨Int.le_refl 0, by show (0 : Int) ≤ 1000000; omega⟩, fun i hi k hk _ _ => ?_, fun i hi k hk z _ => ?_, fun _ _ _ => rfl⟩
  · have := hc (12 * i + k) (by omega)
    show (0 : Int) ≤ 0 + _
    omega
  · rw [hl i hi k hk, Int32.toInt_zero] at z; omega
end FL
def wk (a : Int) (b n : Nat) : Nat := a.toNat * (n + 1) + b
theorem wk_lt {a a' : Int} {b b' n : Nat} (ha : 0 ≤ a) (hb : b ≤ n) (h : a < a' ∨ (a = a' ∧ b < b')) : wk a b n < wk a' b' n := by
  unfold wk
  rcases h with h | ⟨h, h2⟩
  · have h1 : a.toNat + 1 ≤ a'.toNat := by omega
    have h2 := Nat.mul_le_mul_right (n + 1) h1
    rw [Nat.add_mul, Nat.one_mul] at h2
    omega
  · subst h; omega
theorem sumG_1 {w : Nat → Int32} {t : Nat} (ht : t < 12) (h : ¬ w t ≤ 0) : sumG (upd w t (w t - 1)) 12 < sumG w 12 := by
  rw [le_i, Int32.toInt_zero] at h
  have e1 : (1 : Int32).toInt = 1 := by decide
  have := Int32.toInt_lt (w t)
  exact sumG_lt (by rw [s_i (by rw [e1]; omega) (by rw [e1]; omega), e1]; omega) 12 ht
def CP (co le : Nat → Int32) (n : Nat) : Prop := ∀ a, a < 12 → ∀ b, b < n → (0 ≤ (co (12 * a + b)).toInt ∧ (co (12 * a + b)).toInt ≤ 1000000) ∧ le (12 * a + b) = 0
def CR (co le : Nat → Int32) (n j : Nat) : Prop := CP co le n ∧ ∀ a, a < j → (0 ≤ (co (12 * a + n)).toInt ∧ (co (12 * a + n)).toInt ≤ 1000000) ∧ le (12 * a + n) = 0
theorem CR_0 {co le : Nat → Int32} {n : Nat} (h : CP co le n) : CR co le n 0 := ⟨h, fun _ q => absurd q (by omega)⟩
theorem CR_s {co le g : Nat → Int32} {n j : Nat} (hn : n < 12) (hj : j < 12) (h : CR co le n j) (hg : 0 ≤ (g j).toInt ∧ (g j).toInt ≤ 1000000) : CR (upd co (12 * j + n) (g j)) (upd le (12 * j + n) 0) n (j + 1) := by
  refine ⟨fun a ha b hb => ?_, fun a ha => ?_⟩
  · have q : 12 * a + b ≠ 12 * j + n := by omega
    rw [up_n q, up_n q]; exact h.1 a ha b hb
  · by_cases e : a = j
    · subst e; rw [up_s, up_s]; exact ⟨hg, rfl⟩
    · have q : 12 * a + n ≠ 12 * j + n := by omega
      rw [up_n q, up_n q]; exact h.2 a (by omega)
theorem CR_e {co le : Nat → Int32} {n : Nat} (h : CR co le n 12) : CP co le (n + 1) := fun a ha b hb => by
  by_cases e : b = n
  · subst e; exact h.2 a ha
  · exact h.1 a ha b (by omega)
theorem CP_c {co le : Nat → Int32} (h : CP co le 12) : Cst co := fun x hx => by
  have := (h (x / 12) (by omega) (x % 12) (by omega)).1
  rw [show 12 * (x / 12) + x % 12 = x by omega] at this
  exact this
theorem CP_l {co le : Nat → Int32} (h : CP co le 12) : ∀ i, i < 12 → ∀ k, k < 12 → le (12 * i + k) = 0 := fun i hi k hk => (h i hi k hk).2
def toP (w tt : Nat → Int32) (n : Nat) (r : Int32) : Prop := r = -1 ∨ ∃ t, t < n ∧ r = nI t ∧ ¬ w t ≤ 0 ∧ ¬ 1000000 ≤ tt t
theorem to_of {w tt : Nat → Int32} {n : Nat} {r : Int32} (h : toP w tt n r) (c : ¬ r < 0) : ∃ t, t < n ∧ r = nI t ∧ ¬ w t ≤ 0 ∧ ¬ 1000000 ≤ tt t := by
  rcases h with h | h
  · rw [h] at c; exact absurd (by decide) c
  · exact h
theorem to_up {w tt : Nat → Int32} {n : Nat} {r : Int32} (h : toP w tt n r) : toP w tt (n + 1) r := by
  rcases h with h | ⟨t, ht, e, g⟩
  · exact Or.inl h
  · exact Or.inr ⟨t, by omega, e, g⟩
theorem CHe_t {c led lf : Nat → Int32} {G T : Nat → Int} {tg tt gb tb : Nat → Int32} {kg kt : Nat → Nat} {clk k : Nat} (h : CH c led lf G T tg tt gb tb kg kt clk) (hk : k < 12) (hf : (tt k).toInt < 1000000) : ∃ i, i < 12 ∧ tb k = nI i ∧ (tg i).toInt < 1000000 ∧ wk ((tg i).toInt - G i) (kg i) clk < wk ((tt k).toInt - T k) (kt k) clk := by
  rcases h.2.2.2.1 k hk with ⟨_, q⟩ | ⟨i, hi, a, b, _, _, _, d⟩
  · omega
  · have h1 := h.1 i hi
    exact ⟨i, hi, a, b, wk_lt (by omega) h1.2.2 d⟩
theorem CHe_g {c led lf : Nat → Int32} {G T : Nat → Int} {tg tt gb tb : Nat → Int32} {kg kt : Nat → Nat} {clk i : Nat} (h : CH c led lf G T tg tt gb tb kg kt clk) (hi : i < 12) (hf : 0 ≤ gb i) : ∃ k, k < 12 ∧ gb i = nI k ∧ (tt k).toInt < 1000000 ∧ wk ((tt k).toInt - T k) (kt k) clk < wk ((tg i).toInt - G i) (kg i) clk := by
  rcases h.2.2.1 i hi with ⟨q, _⟩ | ⟨k, hk, a, b, _, _, _, d⟩
  · rw [q] at hf; exact absurd hf (by decide)
  · have h1 := h.2.1 k hk
    exact ⟨k, hk, a, b, wk_lt (by omega) h1.2.2 d⟩
theorem CHe_0 {c led lf : Nat → Int32} {G T : Nat → Int} {tg tt gb tb : Nat → Int32} {kg kt : Nat → Nat} {clk i : Nat} (h : CH c led lf G T tg tt gb tb kg kt clk) (hi : i < 12) (hf : ¬ 0 ≤ gb i) (h1 : (tg i).toInt < 1000000) : (tg i).toInt = 0 := by
  rcases h.2.2.1 i hi with ⟨_, q⟩ | ⟨k, hk, a, _⟩
  · omega
  · rw [a] at hf; exact absurd (nI_pos' (by omega)) hf
theorem nfar {x : Int32} (h : ¬ 1000000 ≤ x) : x.toInt < 1000000 := by
  rw [le_i, far_i] at h; omega
