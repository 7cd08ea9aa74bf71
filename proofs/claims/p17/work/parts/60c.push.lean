def newR (S : Nat → Nat → Nat → Int32) (n : Nat) (x0 x1 x4 x5 x6 x8 x9 : Int32) (js j1 : Nat) : Nat → Nat → Nat → Int32 := fun c i => if i = n then (if c = 32 then fun _ => x0 else if c = 33 then fun _ => x1 else if c = 36 then fun _ => x4 else if c = 37 then fun _ => x5 else if c = 38 then fun _ => x6 else if c = 39 then fun _ => -1 else if c = 40 then fun _ => x8 else if c = 41 then fun _ => x9 else if c = 576 then S 608 j1 else if c = 592 then S 608 js else if c = 593 then S 609 js else S c i) else S c i
section NR
variable {S : Nat → Nat → Nat → Int32} {n : Nat} {x0 x1 x4 x5 x6 x8 x9 : Int32} {js j1 : Nat}
theorem newR_o {c i : Nat} (h : i = n → ¬ c / 16 = 2 ∧ ¬ c / 16 = 36 ∧ ¬ c / 16 = 37) : newR S n x0 x1 x4 x5 x6 x8 x9 js j1 c i = S c i := by
  unfold newR
  by_cases z : i = n
  · obtain ⟨h2, h6, h7⟩ := h z
    rw [if_pos z, if_neg (by omega), if_neg (by omega), if_neg (by omega), if_neg (by omega), if_neg (by omega), if_neg (by omega), if_neg (by omega), if_neg (by omega), if_neg (by omega), if_neg (by omega), if_neg (by omega)]
  · rw [if_neg z]
theorem newR_n : newR S n x0 x1 x4 x5 x6 x8 x9 js j1 576 n = S 608 j1 := by simp [newR]
theorem newR_w : newR S n x0 x1 x4 x5 x6 x8 x9 js j1 592 n = S 608 js := by simp [newR]
theorem newR_l : newR S n x0 x1 x4 x5 x6 x8 x9 js j1 593 n = S 609 js := by simp [newR]
theorem newR_h : newR S n x0 x1 x4 x5 x6 x8 x9 js j1 39 n 0 = -1 := by simp [newR]
theorem newR_e {ad : Nat → Nat → Nat} {cs : Nat → ClassId} {n0 n6 n2 : Nat} : EN ad cs n0 n6 n2 (newR S n x0 x1 x4 x5 x6 x8 x9 js j1) 2 n = .inr (2, [.int x0, .int x1, .ref (ad 37 n), .ref (ad 36 n), .int x4, .int x5, .int x6, va_rf none, .int x8, .int x9]) := by simp [EN, newR, oq_m1]
end NR
section GR
variable {ad ad2 : Nat → Nat → Nat} {cs : Nat → ClassId} {n0 n6 n2 m0 m6 m2 : Nat} {S T : Nat → Nat → Nat → Int32} {L : List Nat} {ka ix ka1 ix1 : Nat → Nat} {f f1 : Nat → va_E}
theorem tB.grow {q k0 i0 : Nat} {e : va_E} (hE : ∀ a ∈ L, f1 a = EN ad2 cs m0 m6 m2 T (ka1 a) (ix1 a)) (hA : ∀ a ∈ L, a = ad2 (ka1 a) (ix1 a) ∧ kd m0 m6 m2 (ka1 a) (ix1 a)) (hq : q ∉ L) (hq0 : ad2 k0 i0 = q) (hk0 : kd m0 m6 m2 k0 i0) (he : EN ad2 cs m0 m6 m2 T k0 i0 = e) (hd : ∀ k i, dm m0 m6 m2 k i → (k = k0 ∧ i = i0) ∨ tpx L ka1 ix1 k i (ad2 k i)) (hw : wf m0 m6 m2 T) : tB (L ++ [q]) (va_up ka1 q k0) (va_up ix1 q i0) ad2 cs m0 m6 m2 T (va_up f1 q e) := by
  have hne : ∀ a ∈ L, a ≠ q := fun a ha z => hq (z ▸ ha)
  have hm : ∀ b ∈ L ++ [q], b ≠ q → b ∈ L := fun b hb z => (List.mem_append.mp hb).resolve_right (fun w => z (List.mem_singleton.mp w))
  refine ⟨fun b hb => ?_, ⟨fun b hb => ?_, fun k i h => ?_⟩, hw⟩
  · by_cases z : b = q
    · subst z; rw [va_up_self, va_up_self, va_up_self]; exact he.symm
    · rw [va_up_ne _ _ z, va_up_ne _ _ z, va_up_ne _ _ z]; exact hE b (hm b hb z)
  · by_cases z : b = q
    · subst z; rw [va_up_self, va_up_self]; exact ⟨hq0.symm, hk0⟩
    · rw [va_up_ne _ _ z, va_up_ne _ _ z]; exact hA b (hm b hb z)
  · rcases hd k i h with z | t
    · rw [z.1, z.2, hq0]
      exact ⟨List.mem_append_right _ (List.mem_singleton.mpr rfl), va_up_self _ _ _, va_up_self _ _ _⟩
    · exact ⟨List.mem_append_left _ t.1, by rw [va_up_ne _ _ (hne _ t.1)]; exact t.2.1, by rw [va_up_ne _ _ (hne _ t.1)]; exact t.2.2⟩
theorem gl_up {k n q : Nat} : gl (adU ad k n q) k (n + 1) = va_up (gl ad k n) n (some q) := funext fun i => by
  by_cases h : i = n
  · subst h; rw [va_up_self, gl_p (by omega), adU_s]
  · rw [va_up_ne _ _ h]
    by_cases h2 : i < n
    · rw [gl_p (by omega), gl_p h2, adU_o (fun w => h w.2)]
    · rw [gl_n (by omega), gl_n h2]
theorem kd.i {k i : Nat} (h : kd n0 n6 n2 k i) : (k = 0 → i < n0) ∧ (k = 6 ∨ k = 35 → i < n6) ∧ (k = 2 ∨ k = 36 ∨ k = 37 → i < n2) ∧ (k = 21 ∨ k = 22 ∨ k = 23 → i = 0) := by
  rcases h with h | h | h | h
  · rcases h with ⟨h, hi⟩ | ⟨h, hi⟩ | ⟨h, hi⟩ | ⟨h, hi⟩ | ⟨hi, h⟩
    · exact ⟨fun _ => hi, fun z => by omega, fun z => by omega, fun z => by omega⟩
    · exact ⟨fun z => by omega, fun _ => hi, fun z => by omega, fun z => by omega⟩
    · exact ⟨fun z => by omega, fun z => by omega, fun _ => hi, fun z => by omega⟩
    · exact ⟨fun z => by omega, fun z => by omega, fun z => by omega, fun z => by omega⟩
    · refine ⟨fun z => ?_, fun z => ?_, fun z => ?_, fun _ => hi⟩
      · subst z; exact absurd h (by decide)
      · rcases z with z | z <;> (subst z; exact absurd h (by decide))
      · rcases z with z | z | z <;> (subst z; exact absurd h (by decide))
  · exact ⟨fun z => by omega, fun z => by omega, fun z => by omega, fun z => by omega⟩
  · exact ⟨fun z => by omega, fun z => by omega, fun z => by omega, fun z => by omega⟩
  · exact ⟨fun z => by omega, fun z => by omega, fun z => by omega, fun z => by omega⟩
theorem dm.mono {k i : Nat} (h : dm n0 n6 n2 k i) (h0 : n0 ≤ m0) (h6 : n6 ≤ m6) (h2 : n2 ≤ m2) : dm m0 m6 m2 k i := by
  rcases h with ⟨h, hi⟩ | ⟨h, hi⟩ | ⟨h, hi⟩ | h | h
  · exact Or.inl ⟨h, by omega⟩
  · exact Or.inr (Or.inl ⟨h, by omega⟩)
  · exact Or.inr (Or.inr (Or.inl ⟨h, by omega⟩))
  · exact Or.inr (Or.inr (Or.inr (Or.inl h)))
  · exact Or.inr (Or.inr (Or.inr (Or.inr h)))
theorem kd.mono {k i : Nat} (h : kd n0 n6 n2 k i) (h0 : n0 ≤ m0) (h6 : n6 ≤ m6) (h2 : n2 ≤ m2) : kd m0 m6 m2 k i := h.elim (fun z => Or.inl (z.mono h0 h6 h2)) Or.inr
theorem dm.back {k i : Nat} (h : dm m0 m6 m2 k i) (h0 : k = 0 → i < n0) (h6 : k = 6 ∨ k = 35 → i < n6) (h2 : k = 2 ∨ k = 36 ∨ k = 37 → i < n2) : dm n0 n6 n2 k i := by
  rcases h with ⟨h, _⟩ | ⟨h, _⟩ | ⟨h, _⟩ | h | h
  · exact Or.inl ⟨h, h0 h⟩
  · exact Or.inr (Or.inl ⟨h, h6 h⟩)
  · exact Or.inr (Or.inr (Or.inl ⟨h, h2 h⟩))
  · exact Or.inr (Or.inr (Or.inr (Or.inl h)))
  · exact Or.inr (Or.inr (Or.inr (Or.inr h)))
end GR
section PU
variable {A : Nat → Prop} {D : va_G} {cl : List vw_C} {X : va_W} {H : Heap} {ad : Nat → Nat → Nat} {cs : Nat → ClassId} {n0 n6 n2 : Nat} {S : Nat → Nat → Nat → Int32} {L : List Nat} {ka ix : Nat → Nat} {f : Nat → va_E}
theorem e_push38 {q n : Nat} {g : Nat → Int32} (hn : n < 2 ^ 31) (hT : tB L ka ix ad cs n0 n6 n2 S f) (hP : va_P D cl ((X ++ [(q, .inl (cs 0, n, .inl g))]) ++ va_pl L f) H) (hD : va_D A ((X ++ [(q, .inl (cs 0, n, .inl g))]) ++ va_pl L f)) : ∃ (L2 : List Nat) (ka2 ix2 : Nat → Nat) (ad2 : Nat → Nat → Nat) (f2 : Nat → va_E) (j : Nat) (T : Nat → Nat → Nat → Int32), eS L ka ix L2 ka2 ix2 ∧ tB L2 ka2 ix2 ad2 cs n0 n6 n2 T f2 ∧ tpx L2 ka2 ix2 38 j q ∧ T 609 j 0 = nI n ∧ T 608 j = g ∧ (∀ c i, ¬ (c / 16 = 38 ∧ i = j) → T c i = S c i) ∧ (∀ a ∈ L, ¬ ix a = j) ∧ va_P D cl (X ++ va_pl L2 f2) H ∧ va_D A (X ++ va_pl L2 f2) := by
  obtain ⟨hq, hP, hD⟩ := r_push hP hD
  obtain ⟨j, hj⟩ := fr_ix L ix
  have hTc : ∀ c i, ¬ (c / 16 = 38 ∧ i = j) → upC (upC S 608 j g) 609 j (fun _ => nI n) c i = S c i := fun c i z => by
    rw [upC_o (fun w => z ⟨by rw [w.1], w.2⟩), upC_o (fun w => z ⟨by rw [w.1], w.2⟩)]
  have e1 : upC (upC S 608 j g) 609 j (fun _ => nI n) 608 j = g := by rw [upC_o (fun w => absurd w.1 (by decide)), upC_s]
  have e2 : upC (upC S 608 j g) 609 j (fun _ => nI n) 609 j 0 = nI n := by rw [upC_s]
  obtain ⟨h1, h2⟩ := tB.add 38 j (q := q) (e := .inl (cs 0, n, .inl g)) (T := upC (upC S 608 j g) 609 j (fun _ => nI n)) hT hq (by decide) (fun a ha z => hj a ha z.2) (fun z => absurd z (by decide)) hTc (by
    show Sum.inl (cs 0, (upC (upC S 608 j g) 609 j (fun _ => nI n) 609 j 0).toNatClampNeg, Sum.inl (upC (upC S 608 j g) 609 j (fun _ => nI n) 608 j)) = _
    rw [e1, e2, nI_clamp hn])
  exact ⟨_, _, _, _, _, j, _, h2, h1, ⟨List.mem_append_right _ (List.mem_singleton.mpr rfl), va_up_self _ _ _, va_up_self _ _ _⟩, e2, e1, hTc, hj, hP, hD⟩
theorem e_pushH {q a5 : Nat} {x y : Int32} (hn : n0 < 60) (hT : tB L ka ix ad cs n0 n6 n2 S f) (h5 : tpx L ka ix 21 0 a5) (hP : va_P D cl ((X ++ [(q, .inr (0, [.int (nI n0), .int x, .int y]))]) ++ va_pl L (va_up f a5 (.inl (cs 3, 60, .inr (.inr (.inr (.inr (va_up (gl ad 0 n0) n0 (some q))))))))) H) (hD : va_D A ((X ++ [(q, .inr (0, [.int (nI n0), .int x, .int y]))]) ++ va_pl L (va_up f a5 (.inl (cs 3, 60, .inr (.inr (.inr (.inr (va_up (gl ad 0 n0) n0 (some q)))))))))) : ∃ (L2 : List Nat) (ka2 ix2 : Nat → Nat) (ad2 : Nat → Nat → Nat) (f2 : Nat → va_E), eX L ka ix L2 ka2 ix2 ∧ tB L2 ka2 ix2 ad2 cs (n0 + 1) n6 n2 (upC (upC S 1 n0 (fun _ => x)) 2 n0 (fun _ => y)) f2 ∧ va_P D cl (X ++ va_pl L2 f2) H ∧ va_D A (X ++ va_pl L2 f2) := by
  obtain ⟨hq, hP, hD⟩ := r_push hP hD
  have hne : ∀ a ∈ L, a ≠ q := fun a ha z => hq (z ▸ ha)
  have hx : eX L ka ix (L ++ [q]) (va_up ka q 0) (va_up ix q n0) := fun k i a _ t => ⟨List.mem_append_left _ t.1, by rw [va_up_ne _ _ (hne a t.1)]; exact t.2.1, by rw [va_up_ne _ _ (hne a t.1)]; exact t.2.2⟩
  have hTc : ∀ c i, ¬ (c / 16 = 0 ∧ i = n0) → upC (upC S 1 n0 (fun _ => x)) 2 n0 (fun _ => y) c i = S c i := fun c i z => by
    rw [upC_o (fun w => z ⟨by rw [w.1], w.2⟩), upC_o (fun w => z ⟨by rw [w.1], w.2⟩)]
  have hb : ∀ k i, dm n0 n6 n2 k i → ¬ (k = 0 ∧ i = n0) := fun k i h z => by have := (kd.i (Or.inl h)).1 z.1; omega
  refine ⟨_, _, _, adU ad 0 n0 q, _, hx, tB.grow (ka1 := ka) (ix1 := ix) ?_ ?_ hq adU_s (Or.inl (Or.inl ⟨rfl, by omega⟩)) ?_ ?_ ?_, hP, hD⟩
  · intro a ha
    have ki := kd.i (hT.2.1.1 a ha).2
    by_cases z : a = a5
    · subst z; rw [va_up_self, h5.2.1, h5.2.2]
      show _ = Sum.inl (cs 3, 60, Sum.inr (Sum.inr (Sum.inr (Sum.inr (gl (adU ad 0 n0 q) 0 (n0 + 1))))))
      rw [gl_up]
    · rw [va_up_ne _ _ z, hT.1 a ha]
      refine (EN_ext (hT.2.1.1 a ha).2 hT.2.2 (fun c hc => hTc c _ (fun w => ?_)) (fun k i h => adU_o (hb k i h)) (fun w => adU_o (fun y => absurd y.1 (by decide))) (fun w => ?_) (fun _ => rfl) (fun _ => rfl)).symm
      · have := ki.1 (hc.symm.trans w.1); omega
      · exfalso
        apply z
        rw [(hT.2.1.1 a ha).1, w, ki.2.2.2 (Or.inl w)]
        exact (hT.adr h5).symm
  · intro a ha
    have ki := kd.i (hT.2.1.1 a ha).2
    refine ⟨?_, (hT.2.1.1 a ha).2.mono (by omega) (by omega) (by omega)⟩
    rw [adU_o (fun w => by have := ki.1 w.1; omega)]
    exact (hT.2.1.1 a ha).1
  · show Sum.inr (0, [Value.int (nI n0), Value.int (upC (upC S 1 n0 (fun _ => x)) 2 n0 (fun _ => y) 1 n0 0), Value.int (upC (upC S 1 n0 (fun _ => x)) 2 n0 (fun _ => y) 2 n0 0)]) = _
    rw [upC_s, upC_o (fun w => absurd w.1 (by decide)), upC_s]
  · intro k i h
    by_cases z : k = 0 ∧ i = n0
    · exact Or.inl z
    · refine Or.inr ?_
      rw [adU_o z]
      exact hT.2.1.2 k i (h.back (fun w => by have := (kd.i (Or.inl h)).1 w; have : ¬ i = n0 := fun y => z ⟨w, y⟩; omega) (kd.i (Or.inl h)).2.1 (kd.i (Or.inl h)).2.2.1)
  · obtain ⟨w1, w2, w3⟩ := hT.2.2
    refine ⟨⟨by omega, w1.2.1, w1.2.2⟩, fun r hr => ?_, fun j => ?_⟩
    · rw [hTc 593 r (fun w => absurd w.1 (by decide)), hTc 39 r (fun w => absurd w.1 (by decide))]
      exact ⟨(w2 r hr).1, (w2 r hr).2.imp id (fun ⟨u, hu, e⟩ => ⟨u, by omega, e⟩)⟩
    · rw [hTc 448 0 (fun w => absurd w.1 (by decide))]; exact w3 j
theorem e_pushT {q q1 a6 j : Nat} {rk : Int32} (hn : n6 < 20) (hT : tB L ka ix ad cs n0 n6 n2 S f) (h6 : tpx L ka ix 22 0 a6) (h1 : tpx L ka ix 38 j q1) (hl : S 609 j 0 = nI 12) (hP : va_P D cl ((X ++ [(q, .inr (6, [.int rk, .ref q1]))]) ++ va_pl L (va_up f a6 (.inl (cs 4, 20, .inr (.inr (.inr (.inr (va_up (gl ad 6 n6) n6 (some q))))))))) H) (hD : va_D A ((X ++ [(q, .inr (6, [.int rk, .ref q1]))]) ++ va_pl L (va_up f a6 (.inl (cs 4, 20, .inr (.inr (.inr (.inr (va_up (gl ad 6 n6) n6 (some q)))))))))) : ∃ (L2 : List Nat) (ka2 ix2 : Nat → Nat) (ad2 : Nat → Nat → Nat) (f2 : Nat → va_E), eX L ka ix L2 ka2 ix2 ∧ tB L2 ka2 ix2 ad2 cs n0 (n6 + 1) n2 (upC (upC S 560 n6 (S 608 j)) 96 n6 (fun _ => rk)) f2 ∧ va_P D cl (X ++ va_pl L2 f2) H ∧ va_D A (X ++ va_pl L2 f2) := by
  obtain ⟨hq, hP, hD⟩ := r_push hP hD
  have hne : ∀ a ∈ L, a ≠ q := fun a ha z => hq (z ▸ ha)
  have hq1 : q1 ≠ q := hne q1 h1.1
  have h61 : a6 ≠ q1 := fun z => by have := h6.2.1; rw [z, h1.2.1] at this; exact absurd this (by decide)
  have hTc : ∀ c i, ¬ (c / 16 = 35 ∧ i = n6) → ¬ (c / 16 = 6 ∧ i = n6) → upC (upC S 560 n6 (S 608 j)) 96 n6 (fun _ => rk) c i = S c i := fun c i z w => by
    rw [upC_o (fun y => w ⟨by rw [y.1], y.2⟩), upC_o (fun y => z ⟨by rw [y.1], y.2⟩)]
  have e35 : upC (upC S 560 n6 (S 608 j)) 96 n6 (fun _ => rk) 560 n6 = S 608 j := by rw [upC_o (fun w => absurd w.1 (by decide)), upC_s]
  have hb : ∀ k i, dm n0 n6 n2 k i → ¬ (k = 35 ∧ i = n6) ∧ ¬ (k = 6 ∧ i = n6) := fun k i h => ⟨fun z => by have := (kd.i (Or.inl h)).2.1 (Or.inr z.1); omega, fun z => by have := (kd.i (Or.inl h)).2.1 (Or.inl z.1); omega⟩
  have hno : ∀ a ∈ L, ¬ (ka a = 35 ∧ ix a = n6) ∧ ¬ (ka a = 6 ∧ ix a = n6) := fun a ha => ⟨fun z => by have := (kd.i (hT.2.1.1 a ha).2).2.1 (Or.inr z.1); omega, fun z => by have := (kd.i (hT.2.1.1 a ha).2).2.1 (Or.inl z.1); omega⟩
  have had : ∀ k i, ¬ (k = 35 ∧ i = n6) → ¬ (k = 6 ∧ i = n6) → adU (adU ad 35 n6 q1) 6 n6 q k i = ad k i := fun k i z w => by rw [adU_o w, adU_o z]
  have hrow : ∀ a ∈ L, ¬ a = q1 → va_up ka q1 35 a = ka a ∧ va_up ix q1 n6 a = ix a := fun a _ z => ⟨va_up_ne _ _ z, va_up_ne _ _ z⟩
  have hgl : gl (adU (adU ad 35 n6 q1) 6 n6 q) 6 (n6 + 1) = va_up (gl ad 6 n6) n6 (some q) := by
    rw [gl_up]
    congr 1
  refine ⟨_, _, _, adU (adU ad 35 n6 q1) 6 n6 q, _, ?_, tB.grow (ka1 := va_up ka q1 35) (ix1 := va_up ix q1 n6) ?_ ?_ hq adU_s (Or.inl (Or.inr (Or.inl ⟨Or.inl rfl, by omega⟩))) ?_ ?_ ?_, hP, hD⟩
  · intro k i a hk t
    have z : ¬ a = q1 := fun w => hk (by rw [← t.2.1, w]; exact h1.2.1)
    exact ⟨List.mem_append_left _ t.1, by rw [va_up_ne _ _ (hne a t.1), va_up_ne _ _ z]; exact t.2.1, by rw [va_up_ne _ _ (hne a t.1), va_up_ne _ _ z]; exact t.2.2⟩
  · intro a ha
    have ki := kd.i (hT.2.1.1 a ha).2
    by_cases y : a = q1
    · subst y
      rw [va_up_self, va_up_self, va_up_ne _ _ (fun w => h61 w.symm), hT.get h1]
      show Sum.inl (cs 0, (S 609 j 0).toNatClampNeg, Sum.inl (S 608 j)) = Sum.inl (cs 0, 12, Sum.inl (upC (upC S 560 n6 (S 608 j)) 96 n6 (fun _ => rk) 560 n6))
      rw [hl, e35]; rfl
    · rw [(hrow a ha y).1, (hrow a ha y).2]
      by_cases z : a = a6
      · subst z; rw [va_up_self, h6.2.1, h6.2.2]
        show _ = Sum.inl (cs 4, 20, Sum.inr (Sum.inr (Sum.inr (Sum.inr (gl (adU (adU ad 35 n6 q1) 6 n6 q) 6 (n6 + 1))))))
        rw [hgl]
      · rw [va_up_ne _ _ z, hT.1 a ha]
        refine (EN_ext (hT.2.1.1 a ha).2 hT.2.2 (fun c hc => hTc c _ (fun w => (hno a ha).1 ⟨hc.symm.trans w.1, w.2⟩) (fun w => (hno a ha).2 ⟨hc.symm.trans w.1, w.2⟩)) (fun k i h => had k i (hb k i h).1 (hb k i h).2) (fun _ => had 14 _ (fun w => absurd w.1 (by decide)) (fun w => absurd w.1 (by decide))) (fun _ => rfl) (fun w => ?_) (fun _ => rfl)).symm
        exfalso
        apply z
        rw [(hT.2.1.1 a ha).1, w, ki.2.2.2 (Or.inr (Or.inl w))]
        exact (hT.adr h6).symm
  · intro a ha
    by_cases y : a = q1
    · subst y; rw [va_up_self, va_up_self]
      exact ⟨by rw [adU_o (fun w => absurd w.1 (by decide)), adU_s], Or.inl (Or.inr (Or.inl ⟨Or.inr rfl, by omega⟩))⟩
    · rw [(hrow a ha y).1, (hrow a ha y).2]
      refine ⟨?_, (hT.2.1.1 a ha).2.mono (by omega) (by omega) (by omega)⟩
      rw [had _ _ (hno a ha).1 (hno a ha).2]
      exact (hT.2.1.1 a ha).1
  · show Sum.inr (6, [Value.int (upC (upC S 560 n6 (S 608 j)) 96 n6 (fun _ => rk) 96 n6 0), Value.ref (adU (adU ad 35 n6 q1) 6 n6 q 35 n6)]) = _
    rw [upC_s, adU_o (fun w => absurd w.1 (by decide)), adU_s]
  · intro k i h
    by_cases z : k = 6 ∧ i = n6
    · exact Or.inl z
    · refine Or.inr ?_
      by_cases z2 : k = 35 ∧ i = n6
      · rw [z2.1, z2.2, adU_o (fun w => absurd w.1 (by decide)), adU_s]
        exact ⟨h1.1, va_up_self _ _ _, va_up_self _ _ _⟩
      · rw [had k i z2 z]
        have t := hT.2.1.2 k i (h.back (kd.i (Or.inl h)).1 (fun w => by
          have h9 := (kd.i (Or.inl h)).2.1 w
          have : ¬ i = n6 := fun y => w.elim (fun w => z ⟨w, y⟩) (fun w => z2 ⟨w, y⟩)
          omega) (kd.i (Or.inl h)).2.2.1)
        have y : ¬ ad k i = q1 := fun w => by
          have := t.2.1; rw [w, h1.2.1] at this
          subst this
          rcases h with h | h | h | h | h
          · exact absurd h.1 (by decide)
          · exact absurd h.1 (by decide)
          · exact absurd h.1 (by decide)
          · exact absurd h.1 (by decide)
          · exact absurd h.2 (by decide)
        exact ⟨t.1, by rw [va_up_ne _ _ y]; exact t.2.1, by rw [va_up_ne _ _ y]; exact t.2.2⟩
  · obtain ⟨w1, w2, w3⟩ := hT.2.2
    refine ⟨⟨w1.1, by omega, w1.2.2⟩, fun r hr => ?_, fun j => ?_⟩
    · rw [hTc 593 r (fun w => absurd w.1 (by decide)) (fun w => absurd w.1 (by decide)), hTc 39 r (fun w => absurd w.1 (by decide)) (fun w => absurd w.1 (by decide))]
      exact w2 r hr
    · rw [hTc 448 0 (fun w => absurd w.1 (by decide)) (fun w => absurd w.1 (by decide))]; exact w3 j
theorem e_pushR {q q1 qs a7 j1 js : Nat} {x0 x1 x4 x5 x6 x8 x9 : Int32} {w : Nat} (hn : n2 < 60) (hT : tB L ka ix ad cs n0 n6 n2 S f) (h7 : tpx L ka ix 23 0 a7) (h1 : tpx L ka ix 38 j1 q1) (hs : tpx L ka ix 38 js qs) (hj : ¬ j1 = js) (hl : S 609 j1 0 = nI 12) (hw : w ≤ 12) (hls : S 609 js 0 = nI w) (hP : va_P D cl ((X ++ [(q, .inr (2, [.int x0, .int x1, .ref qs, .ref q1, .int x4, .int x5, .int x6, .null, .int x8, .int x9]))]) ++ va_pl L (va_up f a7 (.inl (cs 5, 60, .inr (.inr (.inr (.inr (va_up (gl ad 2 n2) n2 (some q))))))))) H) (hD : va_D A ((X ++ [(q, .inr (2, [.int x0, .int x1, .ref qs, .ref q1, .int x4, .int x5, .int x6, .null, .int x8, .int x9]))]) ++ va_pl L (va_up f a7 (.inl (cs 5, 60, .inr (.inr (.inr (.inr (va_up (gl ad 2 n2) n2 (some q)))))))))) : ∃ (L2 : List Nat) (ka2 ix2 : Nat → Nat) (ad2 : Nat → Nat → Nat) (f2 : Nat → va_E), eX L ka ix L2 ka2 ix2 ∧ tB L2 ka2 ix2 ad2 cs n0 n6 (n2 + 1) (newR S n2 x0 x1 x4 x5 x6 x8 x9 js j1) f2 ∧ va_P D cl (X ++ va_pl L2 f2) H ∧ va_D A (X ++ va_pl L2 f2) := by
  obtain ⟨hq, hP, hD⟩ := r_push hP hD
  have hne : ∀ a ∈ L, a ≠ q := fun a ha z => hq (z ▸ ha)
  have hqs : ¬ qs = q1 := fun z => hj (by rw [← h1.2.2, ← hs.2.2, z])
  have h71 : a7 ≠ q1 := fun z => by have := h7.2.1; rw [z, h1.2.1] at this; exact absurd this (by decide)
  have h7s : a7 ≠ qs := fun z => by have := h7.2.1; rw [z, hs.2.1] at this; exact absurd this (by decide)
  have hTc : ∀ c i, (i = n2 → ¬ c / 16 = 2 ∧ ¬ c / 16 = 36 ∧ ¬ c / 16 = 37) → newR S n2 x0 x1 x4 x5 x6 x8 x9 js j1 c i = S c i := fun c i z => newR_o z
  have hbd : ∀ k i, kd n0 n6 n2 k i → (i = n2 → ¬ k = 2 ∧ ¬ k = 36 ∧ ¬ k = 37) := fun k i h z => by
    have := (kd.i h).2.2.1
    exact ⟨fun w => by have := this (Or.inl w); omega, fun w => by have := this (Or.inr (Or.inl w)); omega, fun w => by have := this (Or.inr (Or.inr w)); omega⟩
  have had : ∀ k i, (i = n2 → ¬ k = 2 ∧ ¬ k = 36 ∧ ¬ k = 37) → adU (adU (adU ad 37 n2 qs) 36 n2 q1) 2 n2 q k i = ad k i := fun k i z => by
    rw [adU_o (fun w => (z w.2).1 w.1), adU_o (fun w => (z w.2).2.1 w.1), adU_o (fun w => (z w.2).2.2 w.1)]
  have hgl : gl (adU (adU (adU ad 37 n2 qs) 36 n2 q1) 2 n2 q) 2 (n2 + 1) = va_up (gl ad 2 n2) n2 (some q) := by
    rw [gl_up]
    congr 1
  have hrow : ∀ a, ¬ a = q1 → ¬ a = qs → va_up (va_up ka qs 37) q1 36 a = ka a ∧ va_up (va_up ix qs n2) q1 n2 a = ix a := fun a z y => ⟨by rw [va_up_ne _ _ z, va_up_ne _ _ y], by rw [va_up_ne _ _ z, va_up_ne _ _ y]⟩
  refine ⟨_, _, _, adU (adU (adU ad 37 n2 qs) 36 n2 q1) 2 n2 q, _, ?_, tB.grow (ka1 := va_up (va_up ka qs 37) q1 36) (ix1 := va_up (va_up ix qs n2) q1 n2) ?_ ?_ hq adU_s (Or.inl (Or.inr (Or.inr (Or.inl ⟨Or.inl rfl, by omega⟩)))) ?_ ?_ ?_, hP, hD⟩
  · intro k i a hk t
    have z : ¬ a = q1 := fun w => hk (by rw [← t.2.1, w]; exact h1.2.1)
    have z2 : ¬ a = qs := fun w => hk (by rw [← t.2.1, w]; exact hs.2.1)
    exact ⟨List.mem_append_left _ t.1, by rw [va_up_ne _ _ (hne a t.1), (hrow a z z2).1]; exact t.2.1, by rw [va_up_ne _ _ (hne a t.1), (hrow a z z2).2]; exact t.2.2⟩
  · intro a ha
    have ki := kd.i (hT.2.1.1 a ha).2
    by_cases y : a = q1
    · subst y
      rw [va_up_self, va_up_self, va_up_ne _ _ (fun w => h71 w.symm), hT.get h1]
      show Sum.inl (cs 0, (S 609 j1 0).toNatClampNeg, Sum.inl (S 608 j1)) = Sum.inl (cs 0, 12, Sum.inl (newR S n2 x0 x1 x4 x5 x6 x8 x9 js j1 576 n2))
      rw [hl, newR_n]; rfl
    · by_cases y2 : a = qs
      · subst y2
        rw [va_up_ne _ _ y, va_up_ne _ _ y, va_up_self, va_up_self, va_up_ne _ _ (fun w => h7s w.symm), hT.get hs]
        show Sum.inl (cs 0, (S 609 js 0).toNatClampNeg, Sum.inl (S 608 js)) = Sum.inl (cs 0, (newR S n2 x0 x1 x4 x5 x6 x8 x9 js j1 593 n2 0).toNatClampNeg, Sum.inl (newR S n2 x0 x1 x4 x5 x6 x8 x9 js j1 592 n2))
        rw [newR_w, newR_l]
      · rw [(hrow a y y2).1, (hrow a y y2).2]
        by_cases z : a = a7
        · subst z; rw [va_up_self, h7.2.1, h7.2.2]
          show _ = Sum.inl (cs 5, 60, Sum.inr (Sum.inr (Sum.inr (Sum.inr (gl (adU (adU (adU ad 37 n2 qs) 36 n2 q1) 2 n2 q) 2 (n2 + 1))))))
          rw [hgl]
        · rw [va_up_ne _ _ z, hT.1 a ha]
          refine (EN_ext (hT.2.1.1 a ha).2 hT.2.2 (fun c hc => hTc c _ (fun w => by rw [hc]; exact hbd _ _ (hT.2.1.1 a ha).2 w)) (fun k i h => had k i (hbd k i (Or.inl h))) (fun _ => had 14 _ (fun _ => ⟨by decide, by decide, by decide⟩)) (fun _ => rfl) (fun _ => rfl) (fun w => ?_)).symm
          exfalso
          apply z
          rw [(hT.2.1.1 a ha).1, w, ki.2.2.2 (Or.inr (Or.inr w))]
          exact (hT.adr h7).symm
  · intro a ha
    by_cases y : a = q1
    · subst y; rw [va_up_self, va_up_self]
      exact ⟨by rw [adU_o (fun w => absurd w.1 (by decide)), adU_s], Or.inl (Or.inr (Or.inr (Or.inl ⟨Or.inr (Or.inl rfl), by omega⟩)))⟩
    · by_cases y2 : a = qs
      · subst y2; rw [va_up_ne _ _ y, va_up_ne _ _ y, va_up_self, va_up_self]
        exact ⟨by rw [adU_o (fun w => absurd w.1 (by decide)), adU_o (fun w => absurd w.1 (by decide)), adU_s], Or.inl (Or.inr (Or.inr (Or.inl ⟨Or.inr (Or.inr rfl), by omega⟩)))⟩
      · rw [(hrow a y y2).1, (hrow a y y2).2]
        refine ⟨?_, (hT.2.1.1 a ha).2.mono (by omega) (by omega) (by omega)⟩
        rw [had _ _ (hbd _ _ (hT.2.1.1 a ha).2)]
        exact (hT.2.1.1 a ha).1
  · rw [newR_e, adU_o (fun w => absurd w.1 (by decide)), adU_o (fun w => absurd w.1 (by decide)), adU_s, adU_o (fun w => absurd w.1 (by decide)), adU_s]
    rfl
  · intro k i h
    by_cases z : k = 2 ∧ i = n2
    · exact Or.inl z
    · refine Or.inr ?_
      by_cases z2 : k = 36 ∧ i = n2
      · rw [z2.1, z2.2, adU_o (fun w => absurd w.1 (by decide)), adU_s]
        exact ⟨h1.1, va_up_self _ _ _, va_up_self _ _ _⟩
      · by_cases z3 : k = 37 ∧ i = n2
        · rw [z3.1, z3.2, adU_o (fun w => absurd w.1 (by decide)), adU_o (fun w => absurd w.1 (by decide)), adU_s]
          exact ⟨hs.1, by rw [va_up_ne _ _ hqs, va_up_self], by rw [va_up_ne _ _ hqs, va_up_self]⟩
        · have zz : i = n2 → ¬ k = 2 ∧ ¬ k = 36 ∧ ¬ k = 37 := fun w => ⟨fun y => z ⟨y, w⟩, fun y => z2 ⟨y, w⟩, fun y => z3 ⟨y, w⟩⟩
          rw [had k i zz]
          have t := hT.2.1.2 k i (h.back (kd.i (Or.inl h)).1 (kd.i (Or.inl h)).2.1 (fun w => by
            have h9 := (kd.i (Or.inl h)).2.2.1 w
            have : ¬ i = n2 := fun y => w.elim (fun w => (zz y).1 w) (fun w => w.elim (fun w => (zz y).2.1 w) (fun w => (zz y).2.2 w))
            omega))
          have nk : ¬ k = 38 := fun w => by
            subst w
            rcases h with h | h | h | h | h
            · exact absurd h.1 (by decide)
            · exact absurd h.1 (by decide)
            · exact absurd h.1 (by decide)
            · exact absurd h.1 (by decide)
            · exact absurd h.2 (by decide)
          have y : ¬ ad k i = q1 := fun w => nk (by rw [← t.2.1, w]; exact h1.2.1)
          have y2 : ¬ ad k i = qs := fun w => nk (by rw [← t.2.1, w]; exact hs.2.1)
          exact ⟨t.1, by rw [(hrow _ y y2).1]; exact t.2.1, by rw [(hrow _ y y2).2]; exact t.2.2⟩
  · obtain ⟨w1, w2, w3⟩ := hT.2.2
    refine ⟨⟨w1.1, w1.2.1, by omega⟩, fun r hr => ?_, fun j => ?_⟩
    · by_cases z : r = n2
      · subst z
        rw [newR_l, newR_h]
        exact ⟨⟨w, hw, hls⟩, Or.inl rfl⟩
      · rw [hTc 593 r (fun w => absurd w z), hTc 39 r (fun w => absurd w z)]
        exact w2 r (by omega)
    · rw [hTc 448 0 (fun _ => ⟨by decide, by decide, by decide⟩)]
      exact (w3 j).imp id (fun ⟨u, hu, e⟩ => ⟨u, by omega, e⟩)
theorem e_push5 {q q1 : Nat} {g : Nat → Int32} (hT : tB L ka ix ad cs n0 n6 n2 S f) (hP : va_P D cl (((X ++ [(q, .inr (5, [.ref q1]))]) ++ [(q1, .inl (cs 0, 6, .inl g))]) ++ va_pl L f) H) (hD : va_D A (((X ++ [(q, .inr (5, [.ref q1]))]) ++ [(q1, .inl (cs 0, 6, .inl g))]) ++ va_pl L f)) : ∃ (L2 : List Nat) (ka2 ix2 : Nat → Nat) (ad2 : Nat → Nat → Nat) (f2 : Nat → va_E) (j : Nat) (T : Nat → Nat → Nat → Int32), eS L ka ix L2 ka2 ix2 ∧ tB L2 ka2 ix2 ad2 cs n0 n6 n2 T f2 ∧ tpx L2 ka2 ix2 5 j q ∧ tpx L2 ka2 ix2 14 j (ad2 14 j) ∧ T 224 j = g ∧ (∀ c i, ¬ (c / 16 = 14 ∧ i = j) → T c i = S c i) ∧ va_P D cl (X ++ va_pl L2 f2) H ∧ va_D A (X ++ va_pl L2 f2) := by
  obtain ⟨hq1, hP, hD⟩ := r_push hP hD
  obtain ⟨hq, hP, hD⟩ := r_push hP hD
  obtain ⟨j, hj⟩ := fr_ix L ix
  have hTc : ∀ c i, ¬ (c / 16 = 14 ∧ i = j) → upC S 224 j g c i = S c i := fun c i z => upC_o (fun w => z ⟨by rw [w.1], w.2⟩)
  obtain ⟨h1, x1⟩ := tB.add 14 j (q := q1) (e := .inl (cs 0, 6, .inl g)) (T := upC S 224 j g) hT hq1 (by decide) (fun a ha z => hj a ha z.2) (fun _ a ha z => hj a ha z.2) hTc (by
    show Sum.inl (cs 0, 6, Sum.inl (upC S 224 j g 224 j)) = _
    rw [upC_s])
  have hqq : ¬ q = q1 := fun z => hq (by rw [z]; exact List.mem_append_right _ (List.mem_singleton.mpr rfl))
  have k1 : tpx (L ++ [q1]) (va_up ka q1 14) (va_up ix q1 j) 14 j q1 := ⟨List.mem_append_right _ (List.mem_singleton.mpr rfl), va_up_self _ _ _, va_up_self _ _ _⟩
  obtain ⟨h2, x2⟩ := tB.add 5 j (q := q) (e := .inr (5, [.ref q1])) (T := upC S 224 j g) h1 hq (by decide) (fun a ha z => by
      by_cases w : a = q1
      · subst w; rw [va_up_self] at z; exact absurd z.1 (by decide)
      · rw [va_up_ne _ _ w, va_up_ne _ _ w] at z
        exact hj a ((List.mem_append.mp ha).resolve_right (fun y => w (List.mem_singleton.mp y))) z.2) (fun z => absurd z (by decide)) (fun _ _ _ => rfl) (by
    show Sum.inr (5, [Value.ref (adU (adU ad 14 j q1) 5 j q 14 j)]) = _
    rw [adU_o (fun w => absurd w.1 (by decide)), adU_s])
  refine ⟨_, _, _, _, _, j, _, fun k i a t => x2 k i a (x1 k i a t), h2, ⟨List.mem_append_right _ (List.mem_singleton.mpr rfl), va_up_self _ _ _, va_up_self _ _ _⟩, ?_, upC_s, hTc, hP, hD⟩
  rw [adU_o (fun w => absurd w.1 (by decide)), adU_s]
  exact x2 _ _ _ k1
end PU
theorem FR.uC {S T : Nat → Nat → Nat → Int32} {c i : Nat} {g : Nat → Int32} (h : FR S T) (h1 : ¬ 416 = c) (h2 : ¬ 432 = c) : FR S (upC T c i g) := ⟨(upC_c h1).trans h.1, (upC_c h2).trans h.2⟩
theorem FR.k {S T U : Nat → Nat → Nat → Int32} {k j : Nat} (h : FR S T) (hU : ∀ c i, ¬ (c / 16 = k ∧ i = j) → U c i = T c i) (h1 : ¬ 26 = k) (h2 : ¬ 27 = k) : FR S U := ⟨(funext fun i => hU 416 i (fun w => h1 w.1)).trans h.1, (funext fun i => hU 432 i (fun w => h2 w.1)).trans h.2⟩
theorem FR.nR {S T : Nat → Nat → Nat → Int32} {n : Nat} {x0 x1 x4 x5 x6 x8 x9 : Int32} {js j1 : Nat} (h : FR S T) : FR S (newR T n x0 x1 x4 x5 x6 x8 x9 js j1) := ⟨(funext fun i => newR_o (fun _ => ⟨by decide, by decide, by decide⟩)).trans h.1, (funext fun i => newR_o (fun _ => ⟨by decide, by decide, by decide⟩)).trans h.2⟩
