theorem va_pre {D : va_G} {cl : List vw_C} {a b : va_W} {H : Heap} (h : va_P D cl (a ++ b) H) : va_P D cl a H := fun k q hk => h k q (by rw [List.getElem?_append_left (List.getElem?_eq_some_iff.mp hk).1]; exact hk)
theorem vd_pre {A : Nat → Prop} {a b : va_W} (h : va_D A (a ++ b)) : va_D A a := ⟨fun i j p q hi hj e => h.1 i j p q (by rw [List.getElem?_append_left (List.getElem?_eq_some_iff.mp hi).1]; exact hi) (by rw [List.getElem?_append_left (List.getElem?_eq_some_iff.mp hj).1]; exact hj) e, fun k q hk => h.2 k q (by rw [List.getElem?_append_left (List.getElem?_eq_some_iff.mp hk).1]; exact hk)⟩
theorem va_com {D : va_G} {cl : List vw_C} {a b : va_W} {H : Heap} (h : va_P D cl (a ++ b) H) : va_P D cl (b ++ a) H := va_P.swap (a := []) (b := a) (c := b) h
theorem vd_com {A : Nat → Prop} {a b : va_W} (h : va_D A (a ++ b)) : va_D A (b ++ a) := va_D.swap (a := []) (b := a) (c := b) h
theorem joinSep {A0 : Nat → Prop} {D : va_G} {cl : List vw_C} {X cx wr rx pl pl1 Y : va_W} {H H1 : Heap} (hP : va_P D cl ((X ++ pl) ++ Y) H) (hD : va_D A0 ((X ++ pl) ++ Y)) (isC isR : List Nat) (hC : isC.map (fun i => X[i]?) = cx.map some) (hR : isR.map (fun i => X[i]?) = wr.map some) (hn : va_nd isR = true) (hdis : ∀ i ∈ isR, i ∉ isC)
    (hk : ∀ q : Nat, q < H.size → ¬ va_A (cx ++ pl) H.size q → H1[q]? = H[q]?) (hF : ∀ q, va_A (cx ++ pl) H.size q → A0 q) (hP1 : va_P D cl (rx ++ pl1) H1) (hD1 : va_D (va_A (cx ++ pl) H.size) (rx ++ pl1)) : va_P D cl (((wr ++ rx) ++ pl1) ++ Y) H1 ∧ va_D A0 (((wr ++ rx) ++ pl1) ++ Y) := by
  have hlen : ∀ (k : Nat) (q : Nat × va_E), (X ++ pl)[k]? = some q → ((X ++ pl) ++ Y)[k]? = some q := fun k q hk => by rw [List.getElem?_append_left (List.getElem?_eq_some_iff.mp hk).1]; exact hk
  have hY : ∀ (k : Nat) (q : Nat × va_E), Y[k]? = some q → ((X ++ pl) ++ Y)[(X ++ pl).length + k]? = some q := fun k q hk => by rw [List.getElem?_append_right (by omega), Nat.add_sub_cancel_left]; exact hk
  have apart : ∀ (k : Nat) (q : Nat × va_E), Y[k]? = some q → q.1 < H.size ∧ ¬ va_A (cx ++ pl) H.size q.1 := by
    intro k q hq
    have h2 := hY k q hq
    have hl := (hP _ q h2).lt
    refine ⟨hl, fun h => ?_⟩
    rcases h with ⟨k2, e, h⟩ | h
    · have h3 := va_part isC hC k2 _ h
      have hi := (List.getElem?_eq_some_iff.mp h3).1
      have hij := hD.1 _ _ q (q.1, e) h2 (hlen _ _ h3) rfl
      omega
    · omega
  obtain ⟨g1, g2⟩ := va_joinP (va_pre hP) (vd_pre hD) isC isR hC hR hn hdis hk hF hP1 hD1
  refine ⟨va_P.app g1 (fun k q hq => (hP _ q (hY k q hq)).kept (hk q.1 (apart k q hq).1 (apart k q hq).2)), va_D.app g2 ⟨fun i j p q hi hj e => ?_, fun k q hq => hD.2 _ q (hY k q hq)⟩ (fun i j p q hi hj e => ?_)⟩
  · have := hD.1 _ _ p q (hY i p hi) (hY j q hj) e
    omega
  · have e1 : (wr ++ rx) ++ pl1 = wr ++ (rx ++ pl1) := List.append_assoc ..
    rw [e1] at hi
    by_cases h4 : i < wr.length
    · rw [List.getElem?_append_left h4] at hi
      obtain ⟨a, h1, h2⟩ := va_in_of isR hR hi
      have h3 : (X ++ pl)[a]? = some p := by rw [List.getElem?_append_left (List.getElem?_eq_some_iff.mp h2).1]; exact h2
      have h5 := hD.1 _ _ p q (hlen _ _ h3) (hY j q hj) e
      have h6 := (List.getElem?_eq_some_iff.mp h3).1
      omega
    · rw [List.getElem?_append_right (by omega)] at hi
      exact (apart j q hj).2 (e ▸ hD1.2 _ p hi)
theorem joinSeq {A0 : Nat → Prop} {D : va_G} {cl : List vw_C} {X cx wr w1 pl Y : va_W} {H H1 : Heap} (hP : va_P D cl ((X ++ pl) ++ Y) H) (hD : va_D A0 ((X ++ pl) ++ Y)) (isC isR : List Nat) (hC : isC.map (fun i => X[i]?) = cx.map some) (hR : isR.map (fun i => X[i]?) = wr.map some) (hn : va_nd isR = true) (hdis : ∀ i ∈ isR, i ∉ isC)
    (hk : ∀ q : Nat, q < H.size → ¬ va_A cx H.size q → H1[q]? = H[q]?) (hF : ∀ q, va_A cx H.size q → A0 q) (hP1 : va_P D cl w1 H1) (hD1 : va_D (va_A cx H.size) w1) : va_P D cl (((wr ++ w1) ++ pl) ++ Y) H1 ∧ va_D A0 (((wr ++ w1) ++ pl) ++ Y) := by
  rw [List.append_assoc] at hP hD
  have h := va_joinQ hP hD isC isR hC hR hn hdis hk hF hP1 hD1
  rw [List.append_assoc (wr ++ w1)]
  exact h
