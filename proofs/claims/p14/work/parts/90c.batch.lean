def tZ (Z : List (Nat × va_E × Nat)) : va_W := Z.map (fun z => (z.1, z.2.1))
def tAll (L : List Nat) (ka : Nat → Nat) (cs : Nat → ClassId) : List (Nat × va_E × Nat) → Prop
  | [] => True
  | z :: w => tC L ka cs z.2.2 z.2.1 ∧ tAll L ka cs w
theorem tAll.mem {L : List Nat} {ka : Nat → Nat} {cs : Nat → ClassId} : ∀ {Z : List (Nat × va_E × Nat)}, tAll L ka cs Z → ∀ z ∈ Z, tC L ka cs z.2.2 z.2.1
  | [], _, _, h => nomatch h
  | _ :: _, h, z, hz => by
    rcases List.mem_cons.mp hz with e | e
    · subst e; exact h.1
    · exact tAll.mem h.2 z e
theorem tAll.cons {L : List Nat} {ka : Nat → Nat} {cs : Nat → ClassId} {q k : Nat} {e : va_E} {w : List (Nat × va_E × Nat)} (h : tC L ka cs k e) (g : tAll L ka cs w) : tAll L ka cs ((q, e, k) :: w) := ⟨h, g⟩
theorem t_batch {A : Nat → Prop} {D : va_G} {cl : List vw_C} {X : va_W} {H : Heap} {cs : Nat → ClassId} (Z : List (Nat × va_E × Nat)) (d : va_E) (hP : va_P D cl (X ++ tZ Z) H) (hD : va_D A (X ++ tZ Z)) (hZ : ∀ (L : List Nat) (ka : Nat → Nat), (∀ (i q : Nat) (e : va_E) (k : Nat), Z[i]? = some (q, e, k) → tp L ka k q) → tAll L ka cs Z) : ∃ (L : List Nat) (ka : Nat → Nat) (f : Nat → va_E), tO L ka cs f ∧ (∀ (i q : Nat) (e : va_E) (k : Nat), Z[i]? = some (q, e, k) → tp L ka k q) ∧ va_P D cl (X ++ va_pl L f) H ∧ va_D A (X ++ va_pl L f) := by
  have hu : ∀ (i j : Nat) (z y : Nat × va_E × Nat), Z[i]? = some z → Z[j]? = some y → z.1 = y.1 → z = y := by
    intro i j z y hi hj e
    have gi : (X ++ tZ Z)[X.length + i]? = some (z.1, z.2.1) := by
      rw [List.getElem?_append_right (by omega), show X.length + i - X.length = i by omega]
      unfold tZ; rw [List.getElem?_map, hi]; rfl
    have gj : (X ++ tZ Z)[X.length + j]? = some (y.1, y.2.1) := by
      rw [List.getElem?_append_right (by omega), show X.length + j - X.length = j by omega]
      unfold tZ; rw [List.getElem?_map, hj]; rfl
    have := hD.1 _ _ _ _ gi gj e
    have e2 : i = j := by omega
    subst e2
    rw [hi] at hj
    exact Option.some.inj hj
  have hf : ∀ z ∈ Z, Z.find? (fun y => y.1 == z.1) = some z := by
    intro z hz
    cases h : Z.find? (fun y => y.1 == z.1) with
    | none => exact absurd (List.find?_eq_none.mp h z hz) (by simp)
    | some y =>
      have h1 := List.mem_of_find?_eq_some h
      have h2 := List.find?_some h
      obtain ⟨i, hi⟩ := List.getElem?_of_mem h1
      obtain ⟨j, hj⟩ := List.getElem?_of_mem hz
      have h3 : y.1 = z.1 := by simpa using h2
      rw [hu i j y z hi hj h3]
  let F : Nat → va_E := fun a => match Z.find? (fun y => y.1 == a) with | some z => z.2.1 | none => d
  let K : Nat → Nat := fun a => match Z.find? (fun y => y.1 == a) with | some z => z.2.2 | none => 0
  have hF : ∀ z ∈ Z, F z.1 = z.2.1 := fun z hz => by show (match Z.find? (fun y => y.1 == z.1) with | some z => z.2.1 | none => d) = _; rw [hf z hz]
  have hK : ∀ z ∈ Z, K z.1 = z.2.2 := fun z hz => by show (match Z.find? (fun y => y.1 == z.1) with | some z => z.2.2 | none => 0) = _; rw [hf z hz]
  have htp : ∀ (i q : Nat) (e : va_E) (k : Nat), Z[i]? = some (q, e, k) → tp (Z.map (fun z => z.1)) K k q := by
    intro i q e k h
    have hm := List.mem_of_getElem? h
    exact ⟨List.mem_map.mpr ⟨_, hm, rfl⟩, hK _ hm⟩
  have hpl : va_pl (Z.map (fun z => z.1)) F = tZ Z := by
    unfold va_pl tZ
    rw [List.map_map]
    apply List.map_congr_left
    intro z hz
    show (z.1, F z.1) = _
    rw [hF z hz]
  refine ⟨Z.map (fun z => z.1), K, F, ?_, htp, ?_, ?_⟩
  · intro a ha
    obtain ⟨z, hz, rfl⟩ := List.mem_map.mp ha
    show tC _ _ _ (K z.1) (F z.1)
    rw [hK z hz, hF z hz]
    exact (hZ _ _ htp).mem z hz
  · rw [hpl]; exact hP
  · rw [hpl]; exact hD
theorem tc_10 {L : List Nat} {ka : Nat → Nat} {cs : Nat → ClassId} (g : Nat → Int32) : tC L ka cs 10 (.inl (cs 0, 12, .inl g)) := ⟨g, rfl⟩
theorem tc_12 {L : List Nat} {ka : Nat → Nat} {cs : Nat → ClassId} (g : Nat → Int32) : tC L ka cs 12 (.inl (cs 1, 12, .inl g)) := ⟨g, rfl⟩
theorem tc_14 {L : List Nat} {ka : Nat → Nat} {cs : Nat → ClassId} (g : Nat → Int32) : tC L ka cs 14 (.inl (cs 0, 6, .inl g)) := ⟨g, rfl⟩
theorem tc_20 {L : List Nat} {ka : Nat → Nat} {cs : Nat → ClassId} {r : Nat → Nat} (h : ∀ i, i < 12 → tp L ka 10 (r i)) : tC L ka cs 20 (.inl (cs 2, 12, .inr (.inr (.inr (.inr (fun i => if i < 12 then some (r i) else none)))))) := ⟨_, rfl, fun i hi => ⟨r i, if_pos hi, h i hi⟩⟩
theorem tc_21 {L : List Nat} {ka : Nat → Nat} {cs : Nat → ClassId} : tC L ka cs 21 (.inl (cs 3, 60, .inr (.inr (.inr (.inr (fun _ => none)))))) := ⟨_, rfl, fun _ _ h => nomatch h⟩
theorem tc_22 {L : List Nat} {ka : Nat → Nat} {cs : Nat → ClassId} : tC L ka cs 22 (.inl (cs 4, 20, .inr (.inr (.inr (.inr (fun _ => none)))))) := ⟨_, rfl, fun _ _ h => nomatch h⟩
theorem tc_23 {L : List Nat} {ka : Nat → Nat} {cs : Nat → ClassId} : tC L ka cs 23 (.inl (cs 5, 60, .inr (.inr (.inr (.inr (fun _ => none)))))) := ⟨_, rfl, fun _ _ h => nomatch h⟩
theorem tc_5 {L : List Nat} {ka : Nat → Nat} {cs : Nat → ClassId} {a : Nat} (h : tp L ka 14 a) : tC L ka cs 5 (.inr (5, [.ref a])) := ⟨a, rfl, h⟩
theorem tc_3 {L : List Nat} {ka : Nat → Nat} {cs : Nat → ClassId} {a b c d g : Nat} (h1 : tp L ka 20 a) (h2 : tp L ka 20 b) (h3 : tp L ka 10 c) (h4 : tp L ka 12 d) (h5 : tp L ka 10 g) : tC L ka cs 3 (.inr (3, [.ref a, .ref b, .ref c, .ref d, .ref g])) := ⟨a, b, c, d, g, rfl, h1, h2, h3, h4, h5⟩
theorem tc_1 {L : List Nat} {ka : Nat → Nat} {cs : Nat → ClassId} {a b c d : Nat} (h1 : tp L ka 10 a) (h2 : tp L ka 20 b) (h3 : tp L ka 10 c) (h4 : tp L ka 10 d) : tC L ka cs 1 (.inr (1, [.ref a, .ref b, .ref c, .ref d])) := ⟨a, b, c, d, rfl, h1, h2, h3, h4⟩
theorem j12 {j : Nat} (h : j < 12) : j = 0 ∨ j = 1 ∨ j = 2 ∨ j = 3 ∨ j = 4 ∨ j = 5 ∨ j = 6 ∨ j = 7 ∨ j = 8 ∨ j = 9 ∨ j = 10 ∨ j = 11 := by omega
theorem z_Rng : Rng (fun _ => 0) := fun _ _ => ⟨(by decide : 0 ≤ (0 : Int32).toInt), (by decide : (0 : Int32).toInt ≤ 24)⟩
theorem z_Stn {n : Nat} : Stn (fun _ => 0) n := fun _ _ => ⟨(by decide : 0 ≤ (0 : Int32).toInt), (by decide : (0 : Int32).toInt < 12)⟩
