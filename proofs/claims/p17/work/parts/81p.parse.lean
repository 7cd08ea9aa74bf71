def bl (x : Int32) : Int32 := if x = 32 then 1 else if x = 10 then 1 else 0
def cap (x : Int32) : Prop := 65 ≤ x.toInt ∧ x.toInt ≤ 90
def isS (x : Int32) : Prop := 97 ≤ x.toInt ∧ x.toInt ≤ 122
def isD (x : Int32) : Prop := 48 ≤ x.toInt ∧ x.toInt ≤ 57
def SDx (x : Int32) : Prop := isS x ∨ isD x
def LOx (x : Int32) : Prop := isS x ∨ cap x ∨ isD x
def Byt (P : Nat → Int32) (n : Nat) : Prop := (∀ i, i < n → 0 ≤ (P i).toInt ∧ (P i).toInt ≤ 255) ∧ ∀ i, n ≤ i → P i = -1
def SKp (P : Nat → Int32) (i t : Nat) : Prop := i ≤ t ∧ (∀ k, i ≤ k → k < t → ¬ bl (P k) = 0) ∧ bl (P t) = 0
theorem SK_u {P : Nat → Int32} {i t s : Nat} (a : SKp P i t) (b : SKp P i s) : t = s := by
  rcases Nat.lt_trichotomy t s with c | c | c
  · exact absurd a.2.2 (b.2.1 t a.1 c)
  · exact c
  · exact absurd b.2.2 (a.2.1 s b.1 c)
def RNp (Q : Int32 → Prop) (P : Nat → Int32) (t m : Nat) : Prop := (∀ k, k < m → Q (P (t + k))) ∧ ¬ Q (P (t + m))
theorem RN_u {Q : Int32 → Prop} {P : Nat → Int32} {t m n : Nat} (a : RNp Q P t m) (b : RNp Q P t n) : m = n := by
  rcases Nat.lt_trichotomy m n with c | c | c
  · exact absurd (b.1 m c) a.2
  · exact c
  · exact absurd (a.1 n c) b.2
theorem RN_sub {P : Nat → Int32} {t m n : Nat} (a : RNp SDx P t m) (b : RNp LOx P t n) : m ≤ n := by
  rcases Nat.lt_or_ge n m with c | c
  · exact absurd ((a.1 n c).elim Or.inl (fun w => Or.inr (Or.inr w))) b.2
  · exact c
theorem RN_eq {P : Nat → Int32} {t m n : Nat} (a : RNp SDx P t m) (b : RNp LOx P t n) (h : ¬ cap (P (t + m))) : m = n := by
  have l := RN_sub a b
  rcases Nat.lt_or_ge m n with c | c
  · exfalso
    rcases b.1 m c with w | w | w
    · exact a.2 (Or.inl w)
    · exact h w
    · exact a.2 (Or.inr w)
  · omega
def allS (P : Nat → Int32) (t m : Nat) : Prop := ∀ k, k < m → isS (P (t + k))
def allD (P : Nat → Int32) (t m : Nat) : Prop := ∀ k, k < m → isD (P (t + k))
def nuV (P : Nat → Int32) (t : Nat) : Nat → Int
  | 0 => 0
  | m + 1 => 10 * nuV P t m + ((P (t + m)).toInt - 48)
def TKo (tk : Int32) (P : Nat → Int32) (t m : Nat) : Prop := (tk = 1 ∧ 1 ≤ m ∧ allS P t m) ∨ (tk = 2 ∧ 1 ≤ m ∧ m ≤ 3 ∧ allD P t m) ∨ (tk = 4 ∧ ¬ (1 ≤ m ∧ allS P t m) ∧ ¬ (1 ≤ m ∧ m ≤ 3 ∧ allD P t m))
def TC (P : Nat → Int32) (i : Nat) (tk : Int32) (t e : Nat) (va : Int32) : Prop := SKp P i t ∧ ((P t = -1 ∧ tk = 0 ∧ e = t) ∨ (P t = 59 ∧ tk = 3 ∧ e = t + 1) ∨ (¬ P t = -1 ∧ ¬ P t = 59 ∧ ∃ m, RNp LOx P t m ∧ e = t + m ∧ TKo tk P t m ∧ (tk = 2 → va.toInt = nuV P t m)))
def TM (P : Nat → Int32) (i : Nat) (tk : Int32) (t e : Nat) (va : Int32) : Prop := SKp P i t ∧ ((P t = -1 ∧ tk = 0 ∧ e = t) ∨ (P t = 59 ∧ tk = 3 ∧ e = t + 1) ∨ (¬ P t = -1 ∧ ¬ P t = 59 ∧ ¬ SDx (P t) ∧ tk = 4 ∧ e = t + 1) ∨ (SDx (P t) ∧ ∃ m, RNp SDx P t m ∧ 1 ≤ m ∧ e = t + m ∧ TKo tk P t m ∧ (tk = 2 → va.toInt = nuV P t m)))
theorem sS_m1 : ¬ isS (-1) := by unfold isS; decide
theorem sD_m1 : ¬ isD (-1) := by unfold isD; decide
theorem sS_59 : ¬ isS 59 := by unfold isS; decide
theorem sD_59 : ¬ isD 59 := by unfold isD; decide
theorem TKo_u {P : Nat → Int32} {t m : Nat} {a b : Int32} (x : TKo a P t m) (y : TKo b P t m) : a = b := by
  have ex : ∀ h : allS P t m, 1 ≤ m → ¬ allD P t m := fun h hm d => by
    have u := h 0 (by omega)
    have v := d 0 (by omega)
    unfold isS at u; unfold isD at v; omega
  rcases x with ⟨e, x1, x2⟩ | ⟨e, x1, x2, x3⟩ | ⟨e, x1, x2⟩ <;> rcases y with ⟨f, y1, y2⟩ | ⟨f, y1, y2, y3⟩ | ⟨f, y1, y2⟩
  · rw [e, f]
  · exact absurd y3 (ex x2 x1)
  · exact absurd ⟨x1, x2⟩ y1
  · exact absurd x3 (ex y2 y1)
  · rw [e, f]
  · exact absurd ⟨x1, x2, x3⟩ y2
  · exact absurd ⟨y1, y2⟩ x1
  · exact absurd ⟨y1, y2, y3⟩ x2
  · rw [e, f]
theorem tk_le {P : Nat → Int32} {i t e : Nat} {tk va : Int32} (h : TM P i tk t e va) : tk = 0 ∨ tk = 1 ∨ tk = 2 ∨ tk = 3 ∨ tk = 4 := by
  rcases h.2 with ⟨_, w, _⟩ | ⟨_, w, _⟩ | ⟨_, _, _, w, _⟩ | ⟨_, m, _, _, _, w, _⟩
  · exact Or.inl w
  · exact Or.inr (Or.inr (Or.inr (Or.inl w)))
  · exact Or.inr (Or.inr (Or.inr (Or.inr w)))
  · rcases w with ⟨w, _⟩ | ⟨w, _⟩ | ⟨w, _⟩
    · exact Or.inr (Or.inl w)
    · exact Or.inr (Or.inr (Or.inl w))
    · exact Or.inr (Or.inr (Or.inr (Or.inr w)))
theorem CM_c {P : Nat → Int32} {i t e s f : Nat} {tk va mk nu : Int32} (C : TC P i tk t e va) (M : TM P i mk s f nu) (h : ¬ tk = 4) : mk = tk ∧ s = t ∧ f = e ∧ (tk = 2 → nu = va) := by
  have et := SK_u C.1 M.1
  subst et
  rcases C.2 with ⟨c1, c2, c3⟩ | ⟨c1, c2, c3⟩ | ⟨c1, c2, m, c3, c4, c5, c6⟩
  · rcases M.2 with ⟨_, m2, m3⟩ | ⟨m1, _, _⟩ | ⟨m1, _⟩ | ⟨m1, _⟩
    · exact ⟨m2.trans c2.symm, rfl, m3.trans c3.symm, fun w => absurd (c2.symm.trans w) (by decide)⟩
    · rw [c1] at m1; exact absurd m1 (by decide)
    · exact absurd c1 m1
    · rw [c1] at m1; exact m1.elim (fun w => absurd w sS_m1) (fun w => absurd w sD_m1)
  · rcases M.2 with ⟨m1, _, _⟩ | ⟨_, m2, m3⟩ | ⟨_, m1, _⟩ | ⟨m1, _⟩
    · rw [c1] at m1; exact absurd m1 (by decide)
    · exact ⟨m2.trans c2.symm, rfl, m3.trans c3.symm, fun w => absurd (c2.symm.trans w) (by decide)⟩
    · exact absurd c1 m1
    · rw [c1] at m1; exact m1.elim (fun w => absurd w sS_59) (fun w => absurd w sD_59)
  · have sd : SDx (P t) ∧ ∀ k, k < m → SDx (P (t + k)) := by
      rcases c5 with ⟨_, w1, w2⟩ | ⟨_, w1, _, w2⟩ | ⟨w, _⟩
      · exact ⟨Or.inl (by have := w2 0 (by omega); rw [Nat.add_zero] at this; exact this), fun k hk => Or.inl (w2 k hk)⟩
      · exact ⟨Or.inr (by have := w2 0 (by omega); rw [Nat.add_zero] at this; exact this), fun k hk => Or.inr (w2 k hk)⟩
      · exact absurd w h
    rcases M.2 with ⟨m1, _, _⟩ | ⟨m1, _, _⟩ | ⟨_, _, m1, _⟩ | ⟨_, n, m2, m3, m4, m5, m6⟩
    · exact absurd m1 c1
    · exact absurd m1 c2
    · exact absurd sd.1 m1
    · have e2 : n = m := by
        have l := RN_sub m2 c3
        rcases Nat.lt_or_ge n m with z | z
        · exact absurd (sd.2 n z) m2.2
        · omega
      subst e2
      refine ⟨TKo_u m5 c5, rfl, by omega, fun w => ?_⟩
      have a := c6 w
      have b := m6 ((TKo_u m5 c5).trans w)
      exact Int32.toInt_inj.mp (b.trans a.symm)
theorem bl_cap {x : Int32} (h : cap x) : bl x = 0 ∧ ¬ x = -1 ∧ ¬ x = 59 ∧ ¬ SDx x := by
  unfold cap at h
  refine ⟨?_, fun w => by rw [w] at h; exact absurd h.1 (by decide), fun w => by rw [w] at h; exact absurd h.1 (by decide), fun w => ?_⟩
  · unfold bl
    rw [if_neg (fun w => by rw [w] at h; exact absurd h.1 (by decide)), if_neg (fun w => by rw [w] at h; exact absurd h.1 (by decide))]
  · unfold SDx isS isD at w; omega
theorem CM_m {P : Nat → Int32} {i t e s f s2 f2 : Nat} {tk va mk nu mk2 nu2 : Int32} (C : TC P i tk t e va) (M : TM P i mk s f nu) (N : TM P f mk2 s2 f2 nu2) (h : mk = 1 ∨ mk = 2) (h2 : ¬ mk2 = 4) : ¬ tk = 4 := by
  have et := SK_u C.1 M.1
  subst et
  intro w4
  rcases M.2 with ⟨_, m2, _⟩ | ⟨_, m2, _⟩ | ⟨_, _, _, m2, _⟩ | ⟨m1, n, m2, m3, m4, m5, m6⟩
  · rw [m2] at h; exact absurd h (by decide)
  · rw [m2] at h; exact absurd h (by decide)
  · rw [m2] at h; exact absurd h (by decide)
  · rcases C.2 with ⟨c1, _, _⟩ | ⟨c1, _, _⟩ | ⟨_, _, m, c3, c4, c5, _⟩
    · rw [c1] at m1; exact m1.elim (fun w => absurd w sS_m1) (fun w => absurd w sD_m1)
    · rw [c1] at m1; exact m1.elim (fun w => absurd w sS_59) (fun w => absurd w sD_59)
    · by_cases cp : cap (P (t + n))
      · obtain ⟨b1, b2, b3, b4⟩ := bl_cap cp
        have es : s2 = f := SK_u N.1 ⟨Nat.le_refl _, fun k h1 h2 => absurd h1 (by omega), by rw [m4]; exact b1⟩
        rw [es, m4] at N
        rcases N.2 with ⟨n1, _, _⟩ | ⟨n1, _, _⟩ | ⟨_, _, _, n4, _⟩ | ⟨n1, _⟩
        · exact b2 n1
        · exact b3 n1
        · exact h2 n4
        · exact b4 n1
      · have e2 := RN_eq m2 c3 cp
        subst e2
        have := TKo_u m5 c5
        rw [this, w4] at h
        exact absurd h (by decide)
