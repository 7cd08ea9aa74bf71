theorem oq_cg {ad ad2 : Nat → Nat → Nat} {k n : Nat} {x : Int32} (h : x = -1 ∨ ∃ u, u < n ∧ x = nI u) (hn : n < 2 ^ 31) (ha : ∀ u, u < n → ad2 k u = ad k u) : oq ad2 k x = oq ad k x := by
  rcases h with h | ⟨u, hu, h⟩
  · rw [h, oq_m1, oq_m1]
  · rw [h, oq_s (by omega), oq_s (by omega), ha u hu]
theorem gl_cg {ad ad2 : Nat → Nat → Nat} {k n : Nat} (ha : ∀ u, u < n → ad2 k u = ad k u) : gl ad2 k n = gl ad k n := funext fun u => by
  by_cases h : u < n
  · rw [gl_p h, gl_p h, ha u h]
  · rw [gl_n h, gl_n h]
theorem dm_f {n0 n6 n2 k : Nat} (h : k ∈ [1, 3, 21, 22, 23, 24, 25, 28, 30, 31, 32, 33, 41, 42, 43, 44]) : dm n0 n6 n2 k 0 := Or.inr (Or.inr (Or.inr (Or.inr ⟨rfl, h⟩)))
theorem EN_ext {ad ad2 : Nat → Nat → Nat} {cs : Nat → ClassId} {n0 n6 n2 m0 m6 m2 : Nat} {S T : Nat → Nat → Nat → Int32} {k i : Nat} (hk : kd n0 n6 n2 k i) (hw : wf n0 n6 n2 S) (hS : ∀ c, c / 16 = k → T c i = S c i) (ha : ∀ k' i', dm n0 n6 n2 k' i' → ad2 k' i' = ad k' i') (h14 : k = 5 → ad2 14 i = ad 14 i) (h21 : k = 21 → m0 = n0) (h22 : k = 22 → m6 = n6) (h23 : k = 23 → m2 = n2) : EN ad2 cs m0 m6 m2 T k i = EN ad cs n0 n6 n2 S k i := by
  rcases hk with hk | hk | hk | hk
  · rcases hk with ⟨hk, hi⟩ | ⟨hk, hi⟩ | ⟨hk, hi⟩ | ⟨hk, hi⟩ | ⟨hi, hk⟩
    · subst hk; simp only [EN]; rw [hS 1 rfl, hS 2 rfl]
    · rcases hk with hk | hk
      · subst hk; simp only [EN]; rw [hS 96 rfl, ha 35 i (Or.inr (Or.inl ⟨by decide, hi⟩))]
      · subst hk; simp only [EN]; rw [hS 560 rfl]
    · rcases hk with hk | hk | hk
      · subst hk; simp only [EN]
        rw [hS 32 rfl, hS 33 rfl, hS 36 rfl, hS 37 rfl, hS 38 rfl, hS 39 rfl, hS 40 rfl, hS 41 rfl, ha 37 i (Or.inr (Or.inr (Or.inl ⟨by decide, hi⟩))), ha 36 i (Or.inr (Or.inr (Or.inl ⟨by decide, hi⟩))), oq_cg (hw.2.1 i hi).2 (by have := hw.1.1; omega) (fun u hu => ha 0 u (Or.inl ⟨rfl, hu⟩))]
      · subst hk; simp only [EN]; rw [hS 576 rfl]
      · subst hk; simp only [EN]; rw [hS 592 rfl, hS 593 rfl]
    · rcases hk with hk | hk | hk
      · subst hk; simp only [EN]; rw [hS 416 rfl]
      · subst hk; simp only [EN]; rw [hS 432 rfl]
      · subst hk; simp only [EN]; rw [hS 720 rfl]
    · subst hi
      simp only [List.mem_cons, List.not_mem_nil, or_false] at hk
      rcases hk with hk | hk | hk | hk | hk | hk | hk | hk | hk | hk | hk | hk | hk | hk | hk | hk
      · subst hk; simp only [EN]
        rw [ha 41 0 (dm_f (by decide)), ha 42 0 (dm_f (by decide)), ha 43 0 (dm_f (by decide)), ha 44 0 (dm_f (by decide))]
      · subst hk; simp only [EN]
        rw [ha 24 0 (dm_f (by decide)), ha 25 0 (dm_f (by decide)), ha 31 0 (dm_f (by decide)), ha 32 0 (dm_f (by decide)), ha 33 0 (dm_f (by decide))]
      · subst hk; simp only [EN]
        rw [h21 rfl, gl_cg (fun u hu => ha 0 u (Or.inl ⟨rfl, hu⟩))]
      · subst hk; simp only [EN]
        rw [h22 rfl, gl_cg (fun u hu => ha 6 u (Or.inr (Or.inl ⟨by decide, hu⟩)))]
      · subst hk; simp only [EN]
        rw [h23 rfl, gl_cg (fun u hu => ha 2 u (Or.inr (Or.inr (Or.inl ⟨by decide, hu⟩))))]
      · subst hk; simp only [EN]
        rw [gl_cg (fun u hu => ha 26 u (Or.inr (Or.inr (Or.inr (Or.inl ⟨by decide, hu⟩)))))]
      · subst hk; simp only [EN]
        rw [gl_cg (fun u hu => ha 27 u (Or.inr (Or.inr (Or.inr (Or.inl ⟨by decide, hu⟩)))))]
      · subst hk; simp only [EN]
        have e : (fun j => oq ad2 2 (T 448 0 j)) = fun j => oq ad 2 (S 448 0 j) := funext fun j => by
          rw [hS 448 rfl]
          exact oq_cg (hw.2.2 j) (by have := hw.1.2.2; omega) (fun u hu => ha 2 u (Or.inr (Or.inr (Or.inl ⟨by decide, hu⟩))))
        rw [e]
      · subst hk; simp only [EN]
        rw [hS 480 rfl]
      · subst hk; simp only [EN]
        rw [hS 496 rfl]
      · subst hk; simp only [EN]
        rw [hS 512 rfl]
      · subst hk; simp only [EN]
        rw [hS 528 rfl]
      · subst hk; simp only [EN]
        rw [hS 656 rfl]
      · subst hk; simp only [EN]
        rw [gl_cg (fun u hu => ha 45 u (Or.inr (Or.inr (Or.inr (Or.inl ⟨by decide, hu⟩)))))]
      · subst hk; simp only [EN]
        rw [hS 688 rfl]
      · subst hk; simp only [EN]
        rw [hS 704 rfl]
  · subst hk; simp only [EN]; rw [h14 rfl]
  · subst hk; simp only [EN]; rw [hS 224 rfl]
  · subst hk; simp only [EN]; rw [hS 608 rfl, hS 609 rfl]
def upC (S : Nat → Nat → Nat → Int32) (c i : Nat) (g : Nat → Int32) : Nat → Nat → Nat → Int32 := fun c' i' => if c' = c ∧ i' = i then g else S c' i'
theorem upC_s {S : Nat → Nat → Nat → Int32} {c i : Nat} {g : Nat → Int32} : upC S c i g c i = g := if_pos ⟨rfl, rfl⟩
theorem upC_o {S : Nat → Nat → Nat → Int32} {c i c' i' : Nat} {g : Nat → Int32} (h : ¬ (c' = c ∧ i' = i)) : upC S c i g c' i' = S c' i' := if_neg h
theorem upC_c {S : Nat → Nat → Nat → Int32} {c i c' : Nat} {g : Nat → Int32} (h : ¬ c' = c) : upC S c i g c' = S c' := funext fun _ => upC_o (fun q => h q.1)
def adU (ad : Nat → Nat → Nat) (k i q : Nat) : Nat → Nat → Nat := fun k' i' => if k' = k ∧ i' = i then q else ad k' i'
theorem adU_s {ad : Nat → Nat → Nat} {k i q : Nat} : adU ad k i q k i = q := if_pos ⟨rfl, rfl⟩
theorem adU_o {ad : Nat → Nat → Nat} {k i q k' i' : Nat} (h : ¬ (k' = k ∧ i' = i)) : adU ad k i q k' i' = ad k' i' := if_neg h
theorem r_push {A : Nat → Prop} {D : va_G} {cl : List vw_C} {X : va_W} {H : Heap} {q : Nat} {e : va_E} {L : List Nat} {f : Nat → va_E} (hP : va_P D cl ((X ++ [(q, e)]) ++ va_pl L f) H) (hD : va_D A ((X ++ [(q, e)]) ++ va_pl L f)) : q ∉ L ∧ va_P D cl (X ++ va_pl (L ++ [q]) (va_up f q e)) H ∧ va_D A (X ++ va_pl (L ++ [q]) (va_up f q e)) := by
  have hP := hP.swap
  have hD := hD.swap
  have hq : q ∉ L := va_pl_fresh2 hD
  have e1 : (X ++ va_pl L f) ++ [(q, e)] = X ++ va_pl (L ++ [q]) (va_up f q e) := by rw [List.append_assoc, va_pl_push hq]
  rw [e1] at hP hD
  exact ⟨hq, hP, hD⟩
theorem fr_ix (L : List Nat) (ix : Nat → Nat) : ∃ j : Nat, ∀ a ∈ L, ¬ ix a = j := by
  have h : ∃ j : Nat, ∀ a ∈ L, ix a < j := by
    induction L with
    | nil => exact ⟨0, fun _ h => nomatch h⟩
    | cons b t ih =>
      obtain ⟨j, hj⟩ := ih
      refine ⟨j + ix b + 1, fun a ha => ?_⟩
      rcases List.mem_cons.mp ha with e | e
      · subst e; omega
      · have := hj a e; omega
  obtain ⟨j, hj⟩ := h
  exact ⟨j, fun a ha q => by have := hj a ha; omega⟩
section AD
variable {ad : Nat → Nat → Nat} {cs : Nat → ClassId} {n0 n6 n2 : Nat} {S : Nat → Nat → Nat → Int32} {L : List Nat} {ka ix : Nat → Nat} {f : Nat → va_E}
/-- a scratch cell (a new key of kind 5, 14 or 38) comes in -/
theorem tB.add (k0 i0 : Nat) {q : Nat} {e : va_E} {T : Nat → Nat → Nat → Int32} (h : tB L ka ix ad cs n0 n6 n2 S f) (hq : q ∉ L) (hk : k0 = 5 ∨ k0 = 14 ∨ k0 = 38) (hf : ∀ a ∈ L, ¬ (ka a = k0 ∧ ix a = i0)) (h5 : k0 = 14 → ∀ a ∈ L, ¬ (ka a = 5 ∧ ix a = i0)) (hT : ∀ c i, ¬ (c / 16 = k0 ∧ i = i0) → T c i = S c i) (he : EN (adU ad k0 i0 q) cs n0 n6 n2 T k0 i0 = e) : tB (L ++ [q]) (va_up ka q k0) (va_up ix q i0) (adU ad k0 i0 q) cs n0 n6 n2 T (va_up f q e) ∧ eS L ka ix (L ++ [q]) (va_up ka q k0) (va_up ix q i0) := by
  have hne : ∀ a ∈ L, a ≠ q := fun a ha z => hq (z ▸ ha)
  have hd : ∀ k i, dm n0 n6 n2 k i → ¬ (k = k0 ∧ i = i0) := fun k i hd z => by
    have t := h.2.1.2 k i hd
    exact hf _ t.1 ⟨t.2.1.trans z.1, t.2.2.trans z.2⟩
  have hx : eS L ka ix (L ++ [q]) (va_up ka q k0) (va_up ix q i0) := fun k i a t => ⟨List.mem_append_left _ t.1, by rw [va_up_ne _ _ (hne a t.1)]; exact t.2.1, by rw [va_up_ne _ _ (hne a t.1)]; exact t.2.2⟩
  refine ⟨⟨fun b hb => ?_, ⟨fun b hb => ?_, fun k i hd' => ?_⟩, ?_⟩, hx⟩
  · by_cases z : b = q
    · subst z; rw [va_up_self, va_up_self, va_up_self]; exact he.symm
    · have hb' : b ∈ L := (List.mem_append.mp hb).resolve_right (fun w => z (List.mem_singleton.mp w))
      rw [va_up_ne _ _ z, va_up_ne _ _ z, va_up_ne _ _ z, h.1 b hb']
      refine (EN_ext (h.2.1.1 b hb').2 h.2.2 (fun c hc => hT c _ (fun w => hf b hb' ⟨hc.symm.trans w.1, w.2⟩)) (fun k i hd' => adU_o (hd k i hd')) (fun w => adU_o (fun y => ?_)) (fun _ => rfl) (fun _ => rfl) (fun _ => rfl)).symm
      exact h5 y.1.symm b hb' ⟨w, y.2⟩
  · by_cases z : b = q
    · subst z; rw [va_up_self, va_up_self]; exact ⟨adU_s.symm, Or.inr hk⟩
    · have hb' : b ∈ L := (List.mem_append.mp hb).resolve_right (fun w => z (List.mem_singleton.mp w))
      rw [va_up_ne _ _ z, va_up_ne _ _ z, adU_o (hf b hb')]
      exact h.2.1.1 b hb'
  · rw [adU_o (hd k i hd')]
    exact hx _ _ _ (h.2.1.2 k i hd')
  · have e1 : ∀ c i, c / 16 < 5 → T c i = S c i := fun c i hc => hT c i (fun w => by omega)
    refine ⟨h.2.2.1, fun r hr => ?_, fun j => ?_⟩
    · rw [hT 593 r (fun w => by have := w.1; omega), hT 39 r (fun w => by have := w.1; omega)]; exact h.2.2.2.1 r hr
    · rw [hT 448 0 (fun w => by have := w.1; omega)]; exact h.2.2.2.2 j
end AD
