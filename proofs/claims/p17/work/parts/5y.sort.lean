def Srt (W : Nat → Prop) (lt : Nat → Nat → Prop) (q : Nat → Nat) (n : Nat) : Prop := (∀ p, p < n → W (q p)) ∧ (∀ a b, a < b → b < n → lt (q a) (q b)) ∧ ∀ r, W r → ∃ p, p < n ∧ q p = r
theorem srt_1 {W : Nat → Prop} {lt : Nat → Nat → Prop} (irr : ∀ a, ¬ lt a a) (tr : ∀ a b c, lt a b → lt b c → lt a c) {q q' : Nat → Nat} {n n' : Nat} (h : Srt W lt q n) (h' : Srt W lt q' n') : ∀ m p, p < m → p < n → p < n' ∧ q p = q' p := by
  intro m
  induction m with
  | zero => intro p hp; exact absurd hp (Nat.not_lt_zero _)
  | succ m ih =>
    intro p hp hn
    have ih' : ∀ a, a < p → a < n' ∧ q a = q' a := fun a ha => ih a (by omega) (by omega)
    obtain ⟨p', hp', e⟩ := h'.2.2 (q p) (h.1 p hn)
    rcases Nat.lt_trichotomy p' p with c | c | c
    · exfalso
      have e2 := (ih' p' c).2
      have l := h.2.1 p' p c hn
      rw [e2, e] at l
      exact irr _ l
    · subst c; exact ⟨hp', e.symm⟩
    · exfalso
      have hpn : p < n' := by omega
      obtain ⟨a, ha, ea⟩ := h.2.2 (q' p) (h'.1 p hpn)
      have l := h'.2.1 p p' c hp'
      rw [← ea, e] at l
      rcases Nat.lt_trichotomy a p with d | d | d
      · have e2 := (ih' a d).2
        have l2 := h'.2.1 a p d hpn
        rw [← e2, ← ea] at l2
        exact irr _ l2
      · subst d; exact irr _ l
      · exact irr _ (tr _ _ _ l (h.2.1 p a d ha))
theorem srt_u {W : Nat → Prop} {lt : Nat → Nat → Prop} (irr : ∀ a, ¬ lt a a) (tr : ∀ a b c, lt a b → lt b c → lt a c) {q q' : Nat → Nat} {n n' : Nat} (h : Srt W lt q n) (h' : Srt W lt q' n') : n = n' ∧ ∀ p, p < n → q p = q' p := by
  have a : ∀ p, p < n → p < n' ∧ q p = q' p := fun p hp => srt_1 irr tr h h' (p + 1) p (by omega) hp
  have b : ∀ p, p < n' → p < n ∧ q' p = q p := fun p hp => srt_1 irr tr h' h (p + 1) p (by omega) hp
  refine ⟨?_, fun p hp => (a p hp).2⟩
  rcases Nat.lt_trichotomy n n' with c | c | c
  · have := (b n c).1; omega
  · exact c
  · have := (a n' c).1; omega
theorem srt_in {W : Nat → Prop} {lt : Nat → Nat → Prop} (tr : ∀ a b c, lt a b → lt b c → lt a c) {q q' : Nat → Nat} {n j r : Nat} (h : Srt W lt q n) (hj : j ≤ n) (h1 : ∀ p, p < j → lt (q p) r) (h2 : ∀ p, j ≤ p → p < n → lt r (q p)) (hq : ∀ p, p ≤ n → q' p = if p < j then q p else if p = j then r else q (p - 1)) : Srt (fun x => W x ∨ x = r) lt q' (n + 1) := by
  have e1 : ∀ p, p < j → q' p = q p := fun p hp => by rw [hq p (by omega), if_pos hp]
  have e2 : q' j = r := by rw [hq j hj, if_neg (Nat.lt_irrefl _), if_pos rfl]
  have e3 : ∀ p, j < p → p ≤ n → q' p = q (p - 1) := fun p hp hn => by rw [hq p hn, if_neg (by omega), if_neg (by omega)]
  refine ⟨fun p hp => ?_, fun a b hab hb => ?_, fun x hx => ?_⟩
  · rcases Nat.lt_trichotomy p j with c | c | c
    · rw [e1 p c]; exact Or.inl (h.1 p (by omega))
    · subst c; exact Or.inr e2
    · rw [e3 p c (by omega)]; exact Or.inl (h.1 (p - 1) (by omega))
  · rcases Nat.lt_trichotomy a j with c | c | c
    · rw [e1 a c]
      rcases Nat.lt_trichotomy b j with d | d | d
      · rw [e1 b d]; exact h.2.1 a b hab (by omega)
      · subst d; rw [e2]; exact h1 a c
      · rw [e3 b d (by omega)]; exact h.2.1 a (b - 1) (by omega) (by omega)
    · subst c
      rw [e2, e3 b hab (by omega)]
      exact h2 (b - 1) (by omega) (by omega)
    · rw [e3 a c (by omega), e3 b (by omega) (by omega)]
      exact h.2.1 (a - 1) (b - 1) (by omega) (by omega)
  · rcases hx with hx | hx
    · obtain ⟨p, hp, e⟩ := h.2.2 x hx
      by_cases c : p < j
      · exact ⟨p, by omega, by rw [e1 p c]; exact e⟩
      · refine ⟨p + 1, by omega, ?_⟩
        rw [e3 (p + 1) (by omega) (by omega)]
        exact e
    · exact ⟨j, by omega, by rw [e2, hx]⟩
