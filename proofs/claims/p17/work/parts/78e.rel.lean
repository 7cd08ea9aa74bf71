def SEG (U : Nat → Nat → Nat → Int32) (q : Nat → Nat) (ll : Nat) (s : Int) (j : Nat) : Prop := j ≤ ll ∧ (∀ p, p < j → sT U (q p) < s) ∧ ∀ p, j ≤ p → p < ll → s ≤ sT U (q p)
def ZQ (U : Nat → Nat → Nat → Int32) (q : Nat → Nat) (ll n j : Nat) (s : Int) (z : Nat → Int32) : Prop := j ≤ ll ∧ (∀ p, p < j → sT U (q p) ≤ s) ∧ (∀ p, j ≤ p → p < ll → s ≤ sT U (q p)) ∧ ∀ r, r < n → (z r = 0 ↔ ∃ p, j ≤ p ∧ p < ll ∧ q p = r ∧ sT U r = s)
theorem ZQ_0 {U V : Nat → Nat → Nat → Int32} {q : Nat → Nat} {ll n j : Nat} {s : Int} {z : Nat → Int32} (hS : Srt (fun r => r < n ∧ U 36 r 0 = 0) (lR U) q ll) (hG : SEG U q ll s j) (hV : ∀ r, (∀ p, p < j → ¬ q p = r) → V 36 r = U 36 r) (hW : ∀ r, r < n → V 36 r 0 = 0 → U 36 r 0 = 0) (hz : ∀ r, r < n → (z r = 0 ↔ (V 36 r 0 = 0 ∧ sT U r = s))) : ZQ U q ll n j s z := by
  refine ⟨hG.1, fun p hp => Int.le_of_lt (hG.2.1 p hp), hG.2.2, fun r hr => ?_⟩
  rw [hz r hr]
  constructor
  · intro ⟨h1, h2⟩
    obtain ⟨p, hp, e⟩ := hS.2.2 r ⟨hr, hW r hr h1⟩
    refine ⟨p, ?_, hp, e, h2⟩
    rcases Nat.lt_or_ge p j with c | c
    · have := hG.2.1 p c
      rw [e] at this; omega
    · exact c
  · intro ⟨p, h1, h2, e, h3⟩
    refine ⟨?_, h3⟩
    have := hS.1 p h2
    rw [hV r (fun p2 hp2 e2 => ?_), ← e]
    · exact this.2
    · have l := hS.2.1 p2 p (by omega) h2
      rw [e2, e] at l
      exact lR_ir _ l
theorem FS_j {U : Nat → Nat → Nat → Int32} {q : Nat → Nat} {ll n j jb : Nat} {s : Int} {z : Nat → Int32} (hS : Srt (fun r => r < n ∧ U 36 r 0 = 0) (lR U) q ll) (hZ : ZQ U q ll n j s z) (hjb : jb < n) (h0 : z jb = 0) (hf : ∀ i, i < n → z i = 0 → i = jb ∨ lr2 U jb i) : j < ll ∧ q j = jb ∧ sT U jb = s := by
  obtain ⟨h1, h2, h3, h4⟩ := hZ
  obtain ⟨p, hp1, hp2, e, es⟩ := (h4 jb hjb).mp h0
  have hj : j < ll := by omega
  refine ⟨hj, ?_, es⟩
  by_cases c : p = j
  · rw [← c]; exact e
  · exfalso
    have l := hS.2.1 j p (by omega) hp2
    rw [e] at l
    have sj := h3 j (Nat.le_refl _) hj
    have hqn := (hS.1 j hj).1
    have sle : sT U (q j) ≤ sT U jb := by unfold lR kl at l; omega
    have sz : sT U (q j) = s := by omega
    have z0 : z (q j) = 0 := (h4 (q j) hqn).mpr ⟨j, Nat.le_refl _, hj, rfl, sz⟩
    rcases hf (q j) hqn z0 with w | w
    · rw [w] at l; exact lR_ir _ l
    · unfold lr2 at w; unfold lR kl at l; omega
theorem ZQ_s {U : Nat → Nat → Nat → Int32} {q : Nat → Nat} {ll n j jb : Nat} {s : Int} {z : Nat → Int32} {x : Int32} (hS : Srt (fun r => r < n ∧ U 36 r 0 = 0) (lR U) q ll) (hZ : ZQ U q ll n j s z) (hj : j < ll) (e : q j = jb) (es : sT U jb = s) (hx : ¬ x = 0) : ZQ U q ll n (j + 1) s (upd z jb x) := by
  obtain ⟨h1, h2, h3, h4⟩ := hZ
  refine ⟨by omega, fun p hp => ?_, fun p hp hp2 => h3 p (by omega) hp2, fun r hr => ?_⟩
  · by_cases c : p = j
    · rw [c, e, es]; exact Int.le_refl _
    · exact h2 p (by omega)
  · by_cases c : r = jb
    · subst c
      rw [up_s]
      constructor
      · intro w; exact absurd w hx
      · intro ⟨p, hp1, hp2, e2, _⟩
        exfalso
        have l := hS.2.1 j p (by omega) hp2
        rw [e, e2] at l
        exact lR_ir _ l
    · rw [up_n c, h4 r hr]
      constructor
      · intro ⟨p, hp1, hp2, e2, e3⟩
        refine ⟨p, ?_, hp2, e2, e3⟩
        rcases Nat.lt_or_ge j p with w | w
        · omega
        · have : p = j := by omega
          subst this; exact absurd (e2.symm.trans e) c
      · intro ⟨p, hp1, hp2, e2, e3⟩
        exact ⟨p, by omega, hp2, e2, e3⟩
theorem ZQ_e {U : Nat → Nat → Nat → Int32} {q : Nat → Nat} {ll n j : Nat} {s : Int} {z : Nat → Int32} (hS : Srt (fun r => r < n ∧ U 36 r 0 = 0) (lR U) q ll) (hZ : ZQ U q ll n j s z) (h0 : ∀ i, i < n → ¬ z i = 0) : SEG U q ll (s + 1) j := by
  obtain ⟨h1, h2, h3, h4⟩ := hZ
  refine ⟨h1, fun p hp => by have := h2 p hp; omega, fun p hp hp2 => ?_⟩
  have a := h3 p hp hp2
  have hqn := (hS.1 p hp2).1
  have b : ¬ sT U (q p) = s := fun w => h0 (q p) hqn ((h4 (q p) hqn).mpr ⟨p, hp, hp2, rfl, w⟩)
  omega
theorem SEG_0 {U : Nat → Nat → Nat → Int32} {q : Nat → Nat} {ll n : Nat} (hS : Srt (fun r => r < n ∧ U 36 r 0 = 0) (lR U) q ll) (h : ∀ r, r < n → 0 ≤ sT U r) : SEG U q ll 0 0 := ⟨Nat.zero_le _, fun p hp => absurd hp (by omega), fun p _ hp2 => h _ (hS.1 p hp2).1⟩
theorem SEG_e {U : Nat → Nat → Nat → Int32} {q : Nat → Nat} {ll n j : Nat} (hS : Srt (fun r => r < n ∧ U 36 r 0 = 0) (lR U) q ll) (h : ∀ r, r < n → sT U r < 12) (hG : SEG U q ll 12 j) : j = ll := by
  rcases Nat.lt_or_ge j ll with c | c
  · have a := hG.2.2 j (Nat.le_refl _) c
    have b := h _ (hS.1 j c).1
    omega
  · have := hG.1; omega
theorem cntE_cn {S : Nat → Nat → Nat → Int32} {sd sg : Nat → Int32} {p : Int32} {n : Nat} (H : RH S n sd sg) : ∀ k, k ≤ n → cntE sd p k = cn (pH S p) k
  | 0, _ => rfl
  | k + 1, h => by
    have ih := cntE_cn (p := p) H k (by omega)
    show cntE sd p k + (if sd k = p then 1 else 0) = cn (pH S p) k + pH S p k
    rw [ih, (H k (by omega)).1]
    rfl
theorem sd_st {S T : Nat → Nat → Nat → Int32} {r : Nat} (h1 : T 37 = S 37) (h2 : T 592 = S 592) (h3 : T 593 = S 593) : sT T r = sT S r := by
  unfold sT; rw [h1, sSW_c h3 h2]
theorem AL_lR {S T : Nat → Nat → Nat → Int32} (h : AL S T) : lR T = lR S := by
  funext a b
  unfold lR kl rK cM
  rw [sd_st (r := a) (h 37 (by decide)) (h 592 (by decide)) (h 593 (by decide)), sd_st (r := b) (h 37 (by decide)) (h 592 (by decide)) (h 593 (by decide)), h 33 (by decide), h 38 (by decide)]
theorem LU_srt {S T : Nat → Nat → Nat → Int32} {n ll : Nat} {q : Nat → Nat} (h : LU S T n q ll) : Srt (fun r => r < n ∧ T 36 r 0 = 0) (lR T) q ll := by
  rw [AL_lR h.1, h.1 36 (by decide)]; exact h.2.2
theorem RX_al {S T : Nat → Nat → Nat → Int32} (h : AL S T) : ∀ c, c / 16 = 2 ∨ c / 16 = 37 → T c = S c := fun c hc => h c (fun w => by rw [w] at hc; exact absurd hc (by decide))
theorem IV.al {S T : Nat → Nat → Nat → Int32} {g n0 n6 n2 : Nat} {a d : Int} {b : Nat → Int} (H : IV S g n0 n6 n2 a d b) (h : AL S T) : IV T g n0 n6 n2 a d b := by
  obtain ⟨h1, h2, h3, h4⟩ := H
  refine ⟨fun r hr => IVr.cg (fun c hc => by rw [h c (fun w => by rw [w] at hc; exact absurd hc (by decide))]) (h 96 (by decide)) (h1 r hr), fun t ht => IVt.cg (h 96 (by decide)) (by rw [h 560 (by decide)]) (h2 t ht), fun y hy => IVh.cg (by rw [h 1 (by decide)]) (by rw [h 2 (by decide)]) (h3 y hy), ?_⟩
  unfold IVl; rw [h 224 (by decide)]; exact h4
