def eZ (Z : List (Nat × va_E × Nat × Nat)) : va_W := Z.map (fun z => (z.1, z.2.1))
theorem e_batch {A : Nat → Prop} {D : va_G} {cl : List vw_C} {X : va_W} {H : Heap} (Z : List (Nat × va_E × Nat × Nat)) (hP : va_P D cl (X ++ eZ Z) H) (hD : va_D A (X ++ eZ Z)) (hK : (Z.map (fun z => z.2.2)).Nodup) : ∃ (L : List Nat) (ka ix : Nat → Nat) (ad : Nat → Nat → Nat) (f : Nat → va_E), (∀ a ∈ L, ∃ z ∈ Z, a = z.1) ∧ (∀ z ∈ Z, tpx L ka ix z.2.2.1 z.2.2.2 z.1 ∧ ad z.2.2.1 z.2.2.2 = z.1 ∧ f z.1 = z.2.1) ∧ va_P D cl (X ++ va_pl L f) H ∧ va_D A (X ++ va_pl L f) := by
  have hu : ∀ (i j : Nat) (z y : Nat × va_E × Nat × Nat), Z[i]? = some z → Z[j]? = some y → z.1 = y.1 → z = y := by
    intro i j z y hi hj e
    have gi : (X ++ eZ Z)[X.length + i]? = some (z.1, z.2.1) := by
      rw [List.getElem?_append_right (by omega), show X.length + i - X.length = i by omega]
      unfold eZ; rw [List.getElem?_map, hi]; rfl
    have gj : (X ++ eZ Z)[X.length + j]? = some (y.1, y.2.1) := by
      rw [List.getElem?_append_right (by omega), show X.length + j - X.length = j by omega]
      unfold eZ; rw [List.getElem?_map, hj]; rfl
    have := hD.1 _ _ _ _ gi gj e
    have e2 : i = j := by omega
    subst e2
    rw [hi] at hj
    exact Option.some.inj hj
  have hf : ∀ z ∈ Z, Z.find? (fun y => y.1 == z.1) = some z := by
    intro z hz
    cases h : Z.find? (fun y => y.1 == z.1) with
    | none => exact absurd (List.find?_eq_none.mp h z hz) (by simp)
    | some y =>
      have h1 := List.mem_of_find?_eq_some h
      have h2 := List.find?_some h
      obtain ⟨i, hi⟩ := List.getElem?_of_mem h1
      obtain ⟨j, hj⟩ := List.getElem?_of_mem hz
      have h3 : y.1 = z.1 := by simpa using h2
      rw [hu i j y z hi hj h3]
  have hkk : ∀ z ∈ Z, ∀ y ∈ Z, y.2.2 = z.2.2 → y = z := by
    clear hP hD hu hf
    induction Z with
    | nil => intro z hz; exact nomatch hz
    | cons b t ih =>
      rw [List.map_cons, List.nodup_cons] at hK
      intro z hz y hy e
      rcases List.mem_cons.mp hz with h1 | h1 <;> rcases List.mem_cons.mp hy with h2 | h2
      · rw [h1, h2]
      · subst h1; exact absurd (List.mem_map.mpr ⟨y, h2, e⟩) hK.1
      · subst h2; exact absurd (List.mem_map.mpr ⟨z, h1, e.symm⟩) hK.1
      · exact ih hK.2 z h1 y h2 e
  have hg : ∀ z ∈ Z, Z.find? (fun y => y.2.2 == z.2.2) = some z := by
    intro z hz
    cases h : Z.find? (fun y => y.2.2 == z.2.2) with
    | none => exact absurd (List.find?_eq_none.mp h z hz) (by simp)
    | some y =>
      have h1 := List.mem_of_find?_eq_some h
      have h2 := List.find?_some h
      have h3 : y.2.2 = z.2.2 := by simpa using h2
      rw [hkk z hz y h1 h3]
  let F : Nat → va_E := fun a => match Z.find? (fun y => y.1 == a) with | some z => z.2.1 | none => .inr (0, [])
  let K : Nat → Nat := fun a => match Z.find? (fun y => y.1 == a) with | some z => z.2.2.1 | none => 0
  let I : Nat → Nat := fun a => match Z.find? (fun y => y.1 == a) with | some z => z.2.2.2 | none => 0
  let G : Nat → Nat → Nat := fun k i => match Z.find? (fun y => y.2.2 == (k, i)) with | some z => z.1 | none => 0
  have hF : ∀ z ∈ Z, F z.1 = z.2.1 := fun z hz => by show (match Z.find? (fun y => y.1 == z.1) with | some z => z.2.1 | none => .inr (0, [])) = _; rw [hf z hz]
  have hKz : ∀ z ∈ Z, K z.1 = z.2.2.1 := fun z hz => by show (match Z.find? (fun y => y.1 == z.1) with | some z => z.2.2.1 | none => 0) = _; rw [hf z hz]
  have hI : ∀ z ∈ Z, I z.1 = z.2.2.2 := fun z hz => by show (match Z.find? (fun y => y.1 == z.1) with | some z => z.2.2.2 | none => 0) = _; rw [hf z hz]
  have hG : ∀ z ∈ Z, G z.2.2.1 z.2.2.2 = z.1 := fun z hz => by show (match Z.find? (fun y => y.2.2 == (z.2.2.1, z.2.2.2)) with | some z => z.1 | none => 0) = _; rw [show (z.2.2.1, z.2.2.2) = z.2.2 from rfl, hg z hz]
  have hpl : va_pl (Z.map (fun z => z.1)) F = eZ Z := by
    unfold va_pl eZ
    rw [List.map_map]
    apply List.map_congr_left
    intro z hz
    show (z.1, F z.1) = _
    rw [hF z hz]
  refine ⟨Z.map (fun z => z.1), K, I, G, F, fun a ha => ?_, fun z hz => ⟨⟨List.mem_map.mpr ⟨z, hz, rfl⟩, hKz z hz, hI z hz⟩, hG z hz, hF z hz⟩, ?_, ?_⟩
  · obtain ⟨z, hz, e⟩ := List.mem_map.mp ha
    exact ⟨z, hz, e.symm⟩
  · rw [hpl]; exact hP
  · rw [hpl]; exact hD
def S0 (g : Nat → Int32) : Nat → Nat → Nat → Int32 := fun c _ j => if c = 224 then g j else if c = 448 then -1 else 0
theorem gl_0 {ad : Nat → Nat → Nat} {k : Nat} : gl ad k 0 = fun _ => none := funext fun _ => gl_n (by omega)
theorem oq_0 {ad : Nat → Nat → Nat} {g : Nat → Int32} : (fun j => oq ad 2 (S0 g 448 0 j)) = fun _ => none := funext fun _ => oq_m1
theorem gl_r {ad : Nat → Nat → Nat} {k : Nat} {r : Nat → Nat} (h : ∀ i, i < 12 → ad k i = r i) : gl ad k 12 = fun i => if i < 12 then some (r i) else none := funext fun i => by
  by_cases q : i < 12
  · rw [gl_p q, h i q, if_pos q]
  · rw [gl_n q, if_neg q]
theorem wf_0 {g : Nat → Int32} : wf 0 0 0 (S0 g) := ⟨⟨by omega, by omega, by omega⟩, fun _ h => absurd h (Nat.not_lt_zero _), fun _ => Or.inl rfl⟩
def eAll (ad : Nat → Nat → Nat) (cs : Nat → ClassId) (S : Nat → Nat → Nat → Int32) : List (Nat × va_E × Nat × Nat) → Prop
  | [] => True
  | z :: w => z.2.1 = EN ad cs 0 0 0 S z.2.2.1 z.2.2.2 ∧ eAll ad cs S w
theorem eAll.cons {ad : Nat → Nat → Nat} {cs : Nat → ClassId} {S : Nat → Nat → Nat → Int32} {q k i : Nat} {e : va_E} {w : List (Nat × va_E × Nat × Nat)} (h : e = EN ad cs 0 0 0 S k i) (g : eAll ad cs S w) : eAll ad cs S ((q, e, k, i) :: w) := ⟨h, g⟩
theorem eAll.mem {ad : Nat → Nat → Nat} {cs : Nat → ClassId} {S : Nat → Nat → Nat → Int32} : ∀ {Z : List (Nat × va_E × Nat × Nat)}, eAll ad cs S Z → ∀ z ∈ Z, z.2.1 = EN ad cs 0 0 0 S z.2.2.1 z.2.2.2
  | [], _, _, h => nomatch h
  | _ :: _, h, z, hz => by
    rcases List.mem_cons.mp hz with e | e
    · subst e; exact h.1
    · exact eAll.mem h.2 z e
theorem j12 {j : Nat} (h : j < 12) : j = 0 ∨ j = 1 ∨ j = 2 ∨ j = 3 ∨ j = 4 ∨ j = 5 ∨ j = 6 ∨ j = 7 ∨ j = 8 ∨ j = 9 ∨ j = 10 ∨ j = 11 := by omega
theorem z_Rng : Rng (fun _ => 0) := fun _ _ => ⟨(by decide : 0 ≤ (0 : Int32).toInt), (by decide : (0 : Int32).toInt ≤ 24)⟩
theorem z_Stn {n : Nat} : Stn (fun _ => 0) n := fun _ _ => ⟨(by decide : 0 ≤ (0 : Int32).toInt), (by decide : (0 : Int32).toInt < 12)⟩
