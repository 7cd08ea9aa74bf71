set_option maxHeartbeats 4000000 in
set_option maxRecDepth 100000 in
theorem g_X5_tire (l : Launch) (dC : Nat → ClassId) (dI : Nat → Nat → Nat) (h0 : Nat) (b1 : Nat) (k1 : ClassId) (a_n : Nat → Int32) (sz : Nat) : Met l yX5_tire wsX5_tire ({ frames := 0, cells := 0, slots := 0, locals := 0 }) (va_Pc [.ref h0] (cP dC dI [(h0, .inr (5, [.ref b1])), (b1, .inl (k1, 6, .inl a_n))] [(k1, .int)] sz)) (vp_Si (fun r => r = a_n (0 : Int32).toNatClampNeg)) 0 0 (fun _ => False) := by
  refine Met.ofW (cc := cX5_tire) (maxL := 1) (ret := (some .int)) (by decide) rfl ?_
  intro p e s m args below meth c s₁ B hml hv
  obtain ⟨rfl, hsz, hP, hK, hD0, hN⟩ := hv
  have hx := B.exec
  have hb := B.bytes
  have hr := B.returns
  have hts := atoms_spec (ws := wsX5_tire) B.pre
  have hown : s.vm.findClass RX5 = some m.cls := findClass_of_methodNamed B.named
  have hlocks := B.notSynchronized
  subst hsz
  have hin5 : ∀ w ∈ u_ws RX5 TX5 1, w ∈ wsX5_tire := by decide +kernel
  have hD := hD0
  have hP : va_P (dC, dI) vwCl [(h0, .inr (5, [.ref b1])), (b1, .inl (k1, 6, .inl a_n))] s.heap := hP
  have hl := lv_entry ([.ref h0]) (n := 1) (Nat.le_of_ble_eq_true rfl)
  rw [lg_entry_eq]
  generalize (lg_sl ([.ref h0]) ++ List.replicate (1 - (lg_sl ([.ref h0])).length) Slot.unset).toArray = ls at hl ⊢
  have hl : lv_has ls 1 [(0, .ref h0)] := hl
  refine lv_aload_n hx hb dX5_tire_0 rfl (lv_at hl 0 rfl) ?_
  refine va_get (D := (dC, dI)) (ci := 5) (v := .ref b1) (C := RX5) (T := TX5) (N := 1) hx hb hts hin5 hown hK hP 0 rfl rfl 0 (by decide) (hts (.fieldLink RX5 11 "YamRiders$Statutes" "numbers" "[I") (by decide +kernel)) (fun _ h9 => h9) rfl dX5_tire_1 ?_
  refine lv_iconst (v := 0) hx hb dX5_tire_4 (by decide) ?_
  refine va_iald hx hb hK hP 1 0 rfl rfl (by unfold vp_in; decide) dX5_tire_5 ?_
  exact W.iret (v := a_n (0 : Int32).toNatClampNeg) hx hb hr (fun t9 ht hW => ⟨_, rfl, rfl, ht⟩) (fun q h => nomatch h) dX5_tire_6

set_option maxHeartbeats 4000000 in
set_option maxRecDepth 100000 in
theorem g_X5_rest (l : Launch) (dC : Nat → ClassId) (dI : Nat → Nat → Nat) (h0 : Nat) (b1 : Nat) (k1 : ClassId) (a_n : Nat → Int32) (sz : Nat) : Met l yX5_rest wsX5_rest ({ frames := 0, cells := 0, slots := 0, locals := 0 }) (va_Pc [.ref h0] (cP dC dI [(h0, .inr (5, [.ref b1])), (b1, .inl (k1, 6, .inl a_n))] [(k1, .int)] sz)) (vp_Si (fun r => r = a_n (1 : Int32).toNatClampNeg)) 0 0 (fun _ => False) := by
  refine Met.ofW (cc := cX5_rest) (maxL := 1) (ret := (some .int)) (by decide) rfl ?_
  intro p e s m args below meth c s₁ B hml hv
  obtain ⟨rfl, hsz, hP, hK, hD0, hN⟩ := hv
  have hx := B.exec
  have hb := B.bytes
  have hr := B.returns
  have hts := atoms_spec (ws := wsX5_rest) B.pre
  have hown : s.vm.findClass RX5 = some m.cls := findClass_of_methodNamed B.named
  have hlocks := B.notSynchronized
  subst hsz
  have hin5 : ∀ w ∈ u_ws RX5 TX5 1, w ∈ wsX5_rest := by decide +kernel
  have hD := hD0
  have hP : va_P (dC, dI) vwCl [(h0, .inr (5, [.ref b1])), (b1, .inl (k1, 6, .inl a_n))] s.heap := hP
  have hl := lv_entry ([.ref h0]) (n := 1) (Nat.le_of_ble_eq_true rfl)
  rw [lg_entry_eq]
  generalize (lg_sl ([.ref h0]) ++ List.replicate (1 - (lg_sl ([.ref h0])).length) Slot.unset).toArray = ls at hl ⊢
  have hl : lv_has ls 1 [(0, .ref h0)] := hl
  refine lv_aload_n hx hb dX5_rest_0 rfl (lv_at hl 0 rfl) ?_
  refine va_get (D := (dC, dI)) (ci := 5) (v := .ref b1) (C := RX5) (T := TX5) (N := 1) hx hb hts hin5 hown hK hP 0 rfl rfl 0 (by decide) (hts (.fieldLink RX5 11 "YamRiders$Statutes" "numbers" "[I") (by decide +kernel)) (fun _ h9 => h9) rfl dX5_rest_1 ?_
  refine lv_iconst (v := 1) hx hb dX5_rest_4 (by decide) ?_
  refine va_iald hx hb hK hP 1 0 rfl rfl (by unfold vp_in; decide) dX5_rest_5 ?_
  exact W.iret (v := a_n (1 : Int32).toNatClampNeg) hx hb hr (fun t9 ht hW => ⟨_, rfl, rfl, ht⟩) (fun q h => nomatch h) dX5_rest_6

set_option maxHeartbeats 4000000 in
set_option maxRecDepth 100000 in
theorem g_X5_hunger (l : Launch) (dC : Nat → ClassId) (dI : Nat → Nat → Nat) (h0 : Nat) (b1 : Nat) (k1 : ClassId) (a_n : Nat → Int32) (sz : Nat) : Met l yX5_hunger wsX5_hunger ({ frames := 0, cells := 0, slots := 0, locals := 0 }) (va_Pc [.ref h0] (cP dC dI [(h0, .inr (5, [.ref b1])), (b1, .inl (k1, 6, .inl a_n))] [(k1, .int)] sz)) (vp_Si (fun r => r = a_n (2 : Int32).toNatClampNeg)) 0 0 (fun _ => False) := by
  refine Met.ofW (cc := cX5_hunger) (maxL := 1) (ret := (some .int)) (by decide) rfl ?_
  intro p e s m args below meth c s₁ B hml hv
  obtain ⟨rfl, hsz, hP, hK, hD0, hN⟩ := hv
  have hx := B.exec
  have hb := B.bytes
  have hr := B.returns
  have hts := atoms_spec (ws := wsX5_hunger) B.pre
  have hown : s.vm.findClass RX5 = some m.cls := findClass_of_methodNamed B.named
  have hlocks := B.notSynchronized
  subst hsz
  have hin5 : ∀ w ∈ u_ws RX5 TX5 1, w ∈ wsX5_hunger := by decide +kernel
  have hD := hD0
  have hP : va_P (dC, dI) vwCl [(h0, .inr (5, [.ref b1])), (b1, .inl (k1, 6, .inl a_n))] s.heap := hP
  have hl := lv_entry ([.ref h0]) (n := 1) (Nat.le_of_ble_eq_true rfl)
  rw [lg_entry_eq]
  generalize (lg_sl ([.ref h0]) ++ List.replicate (1 - (lg_sl ([.ref h0])).length) Slot.unset).toArray = ls at hl ⊢
  have hl : lv_has ls 1 [(0, .ref h0)] := hl
  refine lv_aload_n hx hb dX5_hunger_0 rfl (lv_at hl 0 rfl) ?_
  refine va_get (D := (dC, dI)) (ci := 5) (v := .ref b1) (C := RX5) (T := TX5) (N := 1) hx hb hts hin5 hown hK hP 0 rfl rfl 0 (by decide) (hts (.fieldLink RX5 11 "YamRiders$Statutes" "numbers" "[I") (by decide +kernel)) (fun _ h9 => h9) rfl dX5_hunger_1 ?_
  refine lv_iconst (v := 2) hx hb dX5_hunger_4 (by decide) ?_
  refine va_iald hx hb hK hP 1 0 rfl rfl (by unfold vp_in; decide) dX5_hunger_5 ?_
  exact W.iret (v := a_n (2 : Int32).toNatClampNeg) hx hb hr (fun t9 ht hW => ⟨_, rfl, rfl, ht⟩) (fun q h => nomatch h) dX5_hunger_6

theorem kf_in {x : Int32} (h1 : ¬ x < 1) (h2 : x ≤ 3) : vp_in (3 + x - 1) 6 := by
  have h := k_in h1 h2
  have e : 3 + x - 1 = 2 + x := by
    apply Int32.toBitVec_inj.mp
    simp
    bv_omega
  rw [e]; exact h
theorem tl_in {x : Int32} (h1 : ¬ x < 0) (h2 : ¬ 6 ≤ x) : vp_in x 6 := by
  obtain ⟨j, hj, rfl⟩ := nI_of h1
  exact vp_in_nI (Decidable.byContradiction fun q => h2 (show nI 6 ≤ nI j from nI_le (by omega) hj)) (by decide)

set_option maxHeartbeats 4000000 in
set_option maxRecDepth 100000 in
theorem g_X5_tell (l : Launch) (dC : Nat → ClassId) (dI : Nat → Nat → Nat) (h0 : Nat) (b1 : Nat) (k1 : ClassId) (a_n : Nat → Int32) (p0 : Int32) (p1 : Int32) (sz : Nat) : Met l yX5_tell wsX5_tell ({ frames := 0, cells := 0, slots := 0, locals := 0 }) (va_Pc [.ref h0, .int p0, .int p1] (cP dC dI [(h0, .inr (5, [.ref b1])), (b1, .inl (k1, 6, .inl a_n))] [(k1, .int)] sz)) (va_Qv (fun (_ : Unit) => True) (fun (_ : Unit) t9 => ∃ (f2 : Nat → Int32), (f2 = (if p0 < 0 then a_n else (if 6 ≤ p0 then a_n else upd a_n p0.toNatClampNeg p1))) ∧ cQ dC dI [(h0, .inr (5, [.ref b1])), (b1, .inl (k1, 6, .inl f2))] [] (va_A [(h0, .inr (5, [.ref b1])), (b1, .inl (k1, 6, .inl a_n))] sz) t9) (va_A [(h0, .inr (5, [.ref b1])), (b1, .inl (k1, 6, .inl a_n))] sz)) 0 0 (va_A [(h0, .inr (5, [.ref b1])), (b1, .inl (k1, 6, .inl a_n))] sz) := by
  refine Met.ofW (cc := cX5_tell) (maxL := 3) (ret := none) (by decide) rfl ?_
  intro p e s m args below meth c s₁ B hml hv
  obtain ⟨rfl, hsz, hP, hK, hD0, hN⟩ := hv
  have hx := B.exec
  have hb := B.bytes
  have hr := B.returns
  have hts := atoms_spec (ws := wsX5_tell) B.pre
  have hown : s.vm.findClass RX5 = some m.cls := findClass_of_methodNamed B.named
  have hlocks := B.notSynchronized
  subst hsz
  have hin5 : ∀ w ∈ u_ws RX5 TX5 1, w ∈ wsX5_tell := by decide +kernel
  have hD := hD0.self (sz := s.heap.size)
  generalize hAe : va_A [(h0, .inr (5, [.ref b1])), (b1, .inl (k1, 6, .inl a_n))] s.heap.size = A at hD ⊢
  have hA : ∀ q : Nat, s.heap.size ≤ q → A q := fun q h => by rw [← hAe]; exact Or.inr h
  have hS : va_S A s.heap s.heap [] := va_S.rf
  have hP : va_P (dC, dI) vwCl [(h0, .inr (5, [.ref b1])), (b1, .inl (k1, 6, .inl a_n))] s.heap := hP
  have hl := lv_entry ([.ref h0, .int p0, .int p1]) (n := 3) (Nat.le_of_ble_eq_true rfl)
  rw [lg_entry_eq]
  generalize (lg_sl ([.ref h0, .int p0, .int p1]) ++ List.replicate (3 - (lg_sl ([.ref h0, .int p0, .int p1])).length) Slot.unset).toArray = ls at hl ⊢
  have hl : lv_has ls 3 [(0, .ref h0), (1, .int p0), (2, .int p1)] := hl
  refine lv_iload_n hx hb dX5_tell_0 rfl (lv_at hl 1 rfl) ?_
  refine lv_if_lt (tgt := 17) hx hb dX5_tell_1 (by decide) (fun c_1 => ?_) (fun c_1 => ?_)
  · have hP9 := hP.sub (ws' := [(h0, .inr (5, [.ref b1])), (b1, .inl (k1, 6, .inl a_n))]) [0, 1] rfl
    have hD9 := hD.sub (ws' := [(h0, .inr (5, [.ref b1])), (b1, .inl (k1, 6, .inl a_n))]) [0, 1] (by decide) rfl
    have hK9 := hK.sub (tys' := []) [] rfl
    refine W.widen (k := 0) (n := 0) (Nat.le_of_ble_eq_true rfl) (Nat.le_of_ble_eq_true rfl) ?_
    exact W.vret hx hb hr (fun t9 ht hW => ⟨⟨(), rfl, trivial, a_n, (by first | rfl | simp only [if_pos c_1]), by rw [ht]; exact hP9, va_K.moved hW.alike hK9, hD9⟩, hS.F ht⟩) hS.2.2 dX5_tell_17
  · refine lv_iload_n hx hb dX5_tell_4 rfl (lv_at hl 1 rfl) ?_
    refine lv_bipush (v := 6) hx hb dX5_tell_5 (by decide) ?_
    refine lv_icmp_ge (tgt := 17) hx hb dX5_tell_7 (by decide) (fun c_2 => ?_) (fun c_2 => ?_)
    · have hP9 := hP.sub (ws' := [(h0, .inr (5, [.ref b1])), (b1, .inl (k1, 6, .inl a_n))]) [0, 1] rfl
      have hD9 := hD.sub (ws' := [(h0, .inr (5, [.ref b1])), (b1, .inl (k1, 6, .inl a_n))]) [0, 1] (by decide) rfl
      have hK9 := hK.sub (tys' := []) [] rfl
      refine W.widen (k := 0) (n := 0) (Nat.le_of_ble_eq_true rfl) (Nat.le_of_ble_eq_true rfl) ?_
      exact W.vret hx hb hr (fun t9 ht hW => ⟨⟨(), rfl, trivial, a_n, (by first | rfl | simp only [if_neg c_1, if_pos c_2]), by rw [ht]; exact hP9, va_K.moved hW.alike hK9, hD9⟩, hS.F ht⟩) hS.2.2 dX5_tell_17
    · refine lv_aload_n hx hb dX5_tell_10 rfl (lv_at hl 0 rfl) ?_
      refine va_get (D := (dC, dI)) (ci := 5) (v := .ref b1) (C := RX5) (T := TX5) (N := 1) hx hb hts hin5 hown hK hP 0 rfl rfl 0 (by decide) (hts (.fieldLink RX5 11 "YamRiders$Statutes" "numbers" "[I") (by decide +kernel)) (fun _ h9 => h9) rfl dX5_tell_11 ?_
      refine lv_iload_n hx hb dX5_tell_14 rfl (lv_at hl 1 rfl) ?_
      refine lv_iload_n hx hb dX5_tell_15 rfl (lv_at hl 2 rfl) ?_
      refine va_iast hx hb hK hP hD hS 1 0 rfl rfl (tl_in c_1 c_2) dX5_tell_16 (fun H locs hP hD hS => ?_)
      have hP : va_P (dC, dI) vwCl [(h0, .inr (5, [.ref b1])), (b1, .inl (k1, 6, .inl (upd a_n p0.toNatClampNeg p1)))] H := hP
      have hD : va_D A [(h0, .inr (5, [.ref b1])), (b1, .inl (k1, 6, .inl (upd a_n p0.toNatClampNeg p1)))] := hD
      obtain ⟨f_3, ef_3⟩ : ∃ w9 : Nat → Int32, w9 = upd a_n p0.toNatClampNeg p1 := ⟨_, rfl⟩
      rw [← ef_3] at hP hD
      have hP9 := hP.sub (ws' := [(h0, .inr (5, [.ref b1])), (b1, .inl (k1, 6, .inl f_3))]) [0, 1] rfl
      have hD9 := hD.sub (ws' := [(h0, .inr (5, [.ref b1])), (b1, .inl (k1, 6, .inl f_3))]) [0, 1] (by decide) rfl
      have hK9 := hK.sub (tys' := []) [] rfl
      refine W.widen (k := 0) (n := 0) (Nat.le_of_ble_eq_true rfl) (Nat.le_of_ble_eq_true rfl) ?_
      exact W.vret hx hb hr (fun t9 ht hW => ⟨⟨(), rfl, trivial, f_3, (by first | rfl | simp only [if_neg c_1, if_neg c_2, ef_3]), by rw [ht]; exact hP9, va_K.moved hW.alike hK9, hD9⟩, hS.F ht⟩) hS.2.2 dX5_tell_17

set_option maxHeartbeats 4000000 in
set_option maxRecDepth 100000 in
theorem g_X5_leastFor (l : Launch) (dC : Nat → ClassId) (dI : Nat → Nat → Nat) (p0 : Int32) (sz : Nat) : Met l yX5_leastFor wsX5_leastFor ({ frames := 0, cells := 0, slots := 0, locals := 0 }) (va_Pc [.int p0] (cP dC dI [] [] sz)) (vp_Si (fun r => r = (if p0 = 0 then 1 else 0))) 0 0 (fun _ => False) := by
  refine Met.ofW (cc := cX5_leastFor) (maxL := 1) (ret := (some .int)) (by decide) rfl ?_
  intro p e s m args below meth c s₁ B hml hv
  obtain ⟨rfl, hsz, hP, hK, hD0, hN⟩ := hv
  have hx := B.exec
  have hb := B.bytes
  have hr := B.returns
  have hts := atoms_spec (ws := wsX5_leastFor) B.pre
  have hown : s.vm.findClass RX5 = some m.cls := findClass_of_methodNamed B.named
  have hlocks := B.notSynchronized
  subst hsz
  have hD := hD0
  have hP : va_P (dC, dI) vwCl [] s.heap := hP
  have hl := lv_entry ([.int p0]) (n := 1) (Nat.le_of_ble_eq_true rfl)
  rw [lg_entry_eq]
  generalize (lg_sl ([.int p0]) ++ List.replicate (1 - (lg_sl ([.int p0])).length) Slot.unset).toArray = ls at hl ⊢
  have hl : lv_has ls 1 [(0, .int p0)] := hl
  refine lv_iload_n hx hb dX5_leastFor_0 rfl (lv_at hl 0 rfl) ?_
  refine lv_if_ne (tgt := 8) hx hb dX5_leastFor_1 (by decide) (fun c_1 => ?_) (fun c_1 => ?_)
  · refine lv_iconst (v := 0) hx hb dX5_leastFor_8 (by decide) ?_
    exact W.iret (v := 0) hx hb hr (fun t9 ht hW => ⟨_, rfl, (by rw [if_neg c_1]), ht⟩) (fun q h => nomatch h) dX5_leastFor_9
  · refine lv_iconst (v := 1) hx hb dX5_leastFor_4 (by decide) ?_
    refine lv_goto (tgt := 9) hx hb dX5_leastFor_5 (by decide) ?_
    exact W.iret (v := 1) hx hb hr (fun t9 ht hW => ⟨_, rfl, (by rw [if_pos c_1]), ht⟩) (fun q h => nomatch h) dX5_leastFor_9

set_option maxHeartbeats 4000000 in
set_option maxRecDepth 100000 in
theorem g_X5_mostFor (l : Launch) (dC : Nat → ClassId) (dI : Nat → Nat → Nat) (p0 : Int32) (sz : Nat) : Met l yX5_mostFor wsX5_mostFor ({ frames := 0, cells := 0, slots := 0, locals := 0 }) (va_Pc [.int p0] (cP dC dI [] [] sz)) (vp_Si (fun r => r = (if p0 = 0 then 9 else (if 3 ≤ p0 then 20 else 50)))) 0 0 (fun _ => False) := by
  refine Met.ofW (cc := cX5_mostFor) (maxL := 1) (ret := (some .int)) (by decide) rfl ?_
  intro p e s m args below meth c s₁ B hml hv
  obtain ⟨rfl, hsz, hP, hK, hD0, hN⟩ := hv
  have hx := B.exec
  have hb := B.bytes
  have hr := B.returns
  have hts := atoms_spec (ws := wsX5_mostFor) B.pre
  have hown : s.vm.findClass RX5 = some m.cls := findClass_of_methodNamed B.named
  have hlocks := B.notSynchronized
  subst hsz
  have hD := hD0
  have hP : va_P (dC, dI) vwCl [] s.heap := hP
  have hl := lv_entry ([.int p0]) (n := 1) (Nat.le_of_ble_eq_true rfl)
  rw [lg_entry_eq]
  generalize (lg_sl ([.int p0]) ++ List.replicate (1 - (lg_sl ([.int p0])).length) Slot.unset).toArray = ls at hl ⊢
  have hl : lv_has ls 1 [(0, .int p0)] := hl
  refine lv_iload_n hx hb dX5_mostFor_0 rfl (lv_at hl 0 rfl) ?_
  refine lv_if_ne (tgt := 7) hx hb dX5_mostFor_1 (by decide) (fun c_1 => ?_) (fun c_1 => ?_)
  · refine lv_iload_n hx hb dX5_mostFor_7 rfl (lv_at hl 0 rfl) ?_
    refine lv_iconst (v := 3) hx hb dX5_mostFor_8 (by decide) ?_
    refine lv_icmp_ge (tgt := 17) hx hb dX5_mostFor_9 (by decide) (fun c_2 => ?_) (fun c_2 => ?_)
    · refine lv_bipush (v := 20) hx hb dX5_mostFor_17 (by decide) ?_
      exact W.iret (v := 20) hx hb hr (fun t9 ht hW => ⟨_, rfl, (by rw [if_neg c_1, if_pos c_2]), ht⟩) (fun q h => nomatch h) dX5_mostFor_19
    · refine lv_bipush (v := 50) hx hb dX5_mostFor_12 (by decide) ?_
      refine lv_goto (tgt := 19) hx hb dX5_mostFor_14 (by decide) ?_
      exact W.iret (v := 50) hx hb hr (fun t9 ht hW => ⟨_, rfl, (by rw [if_neg c_1, if_neg c_2]), ht⟩) (fun q h => nomatch h) dX5_mostFor_19
  · refine lv_bipush (v := 9) hx hb dX5_mostFor_4 (by decide) ?_
    exact W.iret (v := 9) hx hb hr (fun t9 ht hW => ⟨_, rfl, (by rw [if_pos c_1]), ht⟩) (fun q h => nomatch h) dX5_mostFor_6

set_option maxHeartbeats 4000000 in
set_option maxRecDepth 100000 in
theorem g_X6_voidSince (l : Launch) (dC : Nat → ClassId) (dI : Nat → Nat → Nat) (h0 : Nat) (i_rank : Int32) (b1 : Nat) (k1 : ClassId) (a_s : Nat → Int32) (p0 : Int32) (sz : Nat) : Met l yX6_voidSince wsX6_voidSince ({ frames := 1, cells := 0, slots := 0, locals := 20 }) (va_Pc [.ref h0, .int p0] (cP dC dI [(h0, .inr (6, [.int i_rank, .ref b1])), (b1, .inl (k1, 12, .inl a_s))] [(k1, .int)] sz)) (vp_Si (fun r => r = (if (sp_st p0) = 0 then (-1) else a_s p0.toNatClampNeg))) 0 0 (fun _ => False) := by
  refine Met.ofW (cc := cX6_voidSince) (maxL := 2) (ret := (some .int)) (by decide) rfl ?_
  intro p e s m args below meth c s₁ B hml hv
  obtain ⟨rfl, hsz, hP, hK, hD0, hN⟩ := hv
  have hx := B.exec
  have hb := B.bytes
  have hr := B.returns
  have hts := atoms_spec (ws := wsX6_voidSince) B.pre
  have hown : s.vm.findClass RX6 = some m.cls := findClass_of_methodNamed B.named
  have hlocks := B.notSynchronized
  subst hsz
  have hin6 : ∀ w ∈ u_ws RX6 TX6 2, w ∈ wsX6_voidSince := by decide +kernel
  have hD := hD0
  have hP : va_P (dC, dI) vwCl [(h0, .inr (6, [.int i_rank, .ref b1])), (b1, .inl (k1, 12, .inl a_s))] s.heap := hP
  have hl := lv_entry ([.ref h0, .int p0]) (n := 2) (Nat.le_of_ble_eq_true rfl)
  rw [lg_entry_eq]
  generalize (lg_sl ([.ref h0, .int p0]) ++ List.replicate (2 - (lg_sl ([.ref h0, .int p0])).length) Slot.unset).toArray = ls at hl ⊢
  have hl : lv_has ls 2 [(0, .ref h0), (1, .int p0)] := hl
  refine lv_iload_n hx hb dX6_voidSince_0 rfl (lv_at hl 1 rfl) ?_
  have hPc := hP.sub (ws' := []) [] rfl
  have hDc := hD.sub (ws' := []) [] (by decide) rfl
  have hKc := hK.sub (tys' := []) [] rfl
  refine cs_i (va_runSN (As := [.int p0]) (rest := []) ⟨hx, hb, hml, hown, hts⟩ (c_X8_isStation l dC dI p0 s.heap.size) ⟨va_cnB 1 hts ggX6_voidSince_X8_isStation rfl rfl rfl (hN.1 (.methodLinkNest RX6 25 yX8_isStation "YamRiders") (by decide +kernel)) (hts (.initialized RX8) (by decide +kernel)) (by decide +kernel) ⟨Nat.le_of_ble_eq_true rfl, Nat.le_of_ble_eq_true rfl⟩, hts (.static yX8_isStation) (by decide +kernel), trivial⟩ ⟨c_blind, c_pre hPc hKc hDc hN⟩ rfl rfl hl.1 rfl (lv_room (Nat.le_of_ble_eq_true rfl)) dX6_voidSince_1 ⟨Nat.le_of_ble_eq_true rfl, Nat.le_of_ble_eq_true rfl⟩) (fun r_1 hr_1 => ?_)
  subst hr_1
  refine lv_if_eq (tgt := 16) hx hb dX6_voidSince_4 (by decide) (fun c_2 => ?_) (fun c_2 => ?_)
  · refine lv_iconst (v := (-1)) hx hb dX6_voidSince_16 (by decide) ?_
    exact W.iret (v := (-1)) hx hb hr (fun t9 ht hW => ⟨_, rfl, (by rw [if_pos c_2]), ht⟩) (fun q h => nomatch h) dX6_voidSince_17
  · refine lv_aload_n hx hb dX6_voidSince_7 rfl (lv_at hl 0 rfl) ?_
    refine va_get (D := (dC, dI)) (ci := 6) (v := .ref b1) (C := RX6) (T := TX6) (N := 2) hx hb hts hin6 hown hK hP 0 rfl rfl 1 (by decide) (hts (.fieldLink RX6 9 "YamRiders$Tablet" "since" "[I") (by decide +kernel)) (fun _ h9 => h9) rfl dX6_voidSince_8 ?_
    refine lv_iload_n hx hb dX6_voidSince_11 rfl (lv_at hl 1 rfl) ?_
    refine va_iald hx hb hK hP 1 0 rfl rfl (st_in c_2) dX6_voidSince_12 ?_
    refine lv_goto (tgt := 17) hx hb dX6_voidSince_13 (by decide) ?_
    exact W.iret (v := a_s p0.toNatClampNeg) hx hb hr (fun t9 ht hW => ⟨_, rfl, (by rw [if_neg c_2]), ht⟩) (fun q h => nomatch h) dX6_voidSince_17

set_option maxHeartbeats 4000000 in
set_option maxRecDepth 100000 in
theorem g_X6_tellVoid (l : Launch) (dC : Nat → ClassId) (dI : Nat → Nat → Nat) (h0 : Nat) (i_rank : Int32) (b1 : Nat) (k1 : ClassId) (a_s : Nat → Int32) (p0 : Int32) (p1 : Int32) (sz : Nat) : Met l yX6_tellVoid wsX6_tellVoid ({ frames := 1, cells := 0, slots := 0, locals := 20 }) (va_Pc [.ref h0, .int p0, .int p1] (cP dC dI [(h0, .inr (6, [.int i_rank, .ref b1])), (b1, .inl (k1, 12, .inl a_s))] [(k1, .int)] sz)) (va_Qi (fun (r : Int32) (_ : Unit) => r = (if (sp_st p0) = 0 then 0 else (if (a_s p0.toNatClampNeg) = (-1) then 1 else 0))) (fun (_ : Unit) t9 => ∃ (f2 : Nat → Int32), (f2 = (if (sp_st p0) = 0 then a_s else (if (a_s p0.toNatClampNeg) = (-1) then upd a_s p0.toNatClampNeg p1 else a_s))) ∧ cQ dC dI [(h0, .inr (6, [.int i_rank, .ref b1])), (b1, .inl (k1, 12, .inl f2))] [] (va_A [(h0, .inr (6, [.int i_rank, .ref b1])), (b1, .inl (k1, 12, .inl a_s))] sz) t9) (va_A [(h0, .inr (6, [.int i_rank, .ref b1])), (b1, .inl (k1, 12, .inl a_s))] sz)) 0 0 (va_A [(h0, .inr (6, [.int i_rank, .ref b1])), (b1, .inl (k1, 12, .inl a_s))] sz) := by
  refine Met.ofW (cc := cX6_tellVoid) (maxL := 3) (ret := (some .boolean)) (by decide) rfl ?_
  intro p e s m args below meth c s₁ B hml hv
  obtain ⟨rfl, hsz, hP, hK, hD0, hN⟩ := hv
  have hx := B.exec
  have hb := B.bytes
  have hr := B.returns
  have hts := atoms_spec (ws := wsX6_tellVoid) B.pre
  have hown : s.vm.findClass RX6 = some m.cls := findClass_of_methodNamed B.named
  have hlocks := B.notSynchronized
  subst hsz
  have hin6 : ∀ w ∈ u_ws RX6 TX6 2, w ∈ wsX6_tellVoid := by decide +kernel
  have hD := hD0.self (sz := s.heap.size)
  generalize hAe : va_A [(h0, .inr (6, [.int i_rank, .ref b1])), (b1, .inl (k1, 12, .inl a_s))] s.heap.size = A at hD ⊢
  have hA : ∀ q : Nat, s.heap.size ≤ q → A q := fun q h => by rw [← hAe]; exact Or.inr h
  have hS : va_S A s.heap s.heap [] := va_S.rf
  have hP : va_P (dC, dI) vwCl [(h0, .inr (6, [.int i_rank, .ref b1])), (b1, .inl (k1, 12, .inl a_s))] s.heap := hP
  have hl := lv_entry ([.ref h0, .int p0, .int p1]) (n := 3) (Nat.le_of_ble_eq_true rfl)
  rw [lg_entry_eq]
  generalize (lg_sl ([.ref h0, .int p0, .int p1]) ++ List.replicate (3 - (lg_sl ([.ref h0, .int p0, .int p1])).length) Slot.unset).toArray = ls at hl ⊢
  have hl : lv_has ls 3 [(0, .ref h0), (1, .int p0), (2, .int p1)] := hl
  refine lv_iload_n hx hb dX6_tellVoid_0 rfl (lv_at hl 1 rfl) ?_
  have hPc := hP.sub (ws' := []) [] rfl
  have hDc := hD.sub (ws' := []) [] (by decide) rfl
  have hKc := hK.sub (tys' := []) [] rfl
  refine cs_i (va_runSN (As := [.int p0]) (rest := []) ⟨hx, hb, hml, hown, hts⟩ (c_X8_isStation l dC dI p0 s.heap.size) ⟨va_cnB 1 hts ggX6_tellVoid_X8_isStation rfl rfl rfl (hN.1 (.methodLinkNest RX6 25 yX8_isStation "YamRiders") (by decide +kernel)) (hts (.initialized RX8) (by decide +kernel)) (by decide +kernel) ⟨Nat.le_of_ble_eq_true rfl, Nat.le_of_ble_eq_true rfl⟩, hts (.static yX8_isStation) (by decide +kernel), trivial⟩ ⟨c_blind, c_pre hPc hKc hDc hN⟩ rfl rfl hl.1 rfl (lv_room (Nat.le_of_ble_eq_true rfl)) dX6_tellVoid_1 ⟨Nat.le_of_ble_eq_true rfl, Nat.le_of_ble_eq_true rfl⟩) (fun r_1 hr_1 => ?_)
  subst hr_1
  refine lv_if_eq (tgt := 17) hx hb dX6_tellVoid_4 (by decide) (fun c_2 => ?_) (fun c_2 => ?_)
  · refine lv_iconst (v := 0) hx hb dX6_tellVoid_17 (by decide) ?_
    have hP9 := hP.sub (ws' := [(h0, .inr (6, [.int i_rank, .ref b1])), (b1, .inl (k1, 12, .inl a_s))]) [0, 1] rfl
    have hD9 := hD.sub (ws' := [(h0, .inr (6, [.int i_rank, .ref b1])), (b1, .inl (k1, 12, .inl a_s))]) [0, 1] (by decide) rfl
    have hK9 := hK.sub (tys' := []) [] rfl
    refine W.widen (k := 0) (n := 0) (Nat.le_of_ble_eq_true rfl) (Nat.le_of_ble_eq_true rfl) ?_
    exact W.zret (v := 0) hx hb hr rfl (fun t9 ht hW => ⟨⟨_, (), rfl, (by rw [if_pos c_2]), a_s, (by first | rfl | simp only [if_pos c_2]), by rw [ht]; exact hP9, va_K.moved hW.alike hK9, hD9⟩, hS.F ht⟩) hS.2.2 dX6_tellVoid_18
  · refine lv_aload_n hx hb dX6_tellVoid_7 rfl (lv_at hl 0 rfl) ?_
    refine va_get (D := (dC, dI)) (ci := 6) (v := .ref b1) (C := RX6) (T := TX6) (N := 2) hx hb hts hin6 hown hK hP 0 rfl rfl 1 (by decide) (hts (.fieldLink RX6 9 "YamRiders$Tablet" "since" "[I") (by decide +kernel)) (fun _ h9 => h9) rfl dX6_tellVoid_8 ?_
    refine lv_iload_n hx hb dX6_tellVoid_11 rfl (lv_at hl 1 rfl) ?_
    refine va_iald hx hb hK hP 1 0 rfl rfl (st_in c_2) dX6_tellVoid_12 ?_
    refine lv_iconst (v := (-1)) hx hb dX6_tellVoid_13 (by decide) ?_
    refine lv_icmp_eq (tgt := 19) hx hb dX6_tellVoid_14 (by decide) (fun c_3 => ?_) (fun c_3 => ?_)
    · refine lv_aload_n hx hb dX6_tellVoid_19 rfl (lv_at hl 0 rfl) ?_
      refine va_get (D := (dC, dI)) (ci := 6) (v := .ref b1) (C := RX6) (T := TX6) (N := 2) hx hb hts hin6 hown hK hP 0 rfl rfl 1 (by decide) (hts (.fieldLink RX6 9 "YamRiders$Tablet" "since" "[I") (by decide +kernel)) (fun _ h9 => h9) rfl dX6_tellVoid_20 ?_
      refine lv_iload_n hx hb dX6_tellVoid_23 rfl (lv_at hl 1 rfl) ?_
      refine lv_iload_n hx hb dX6_tellVoid_24 rfl (lv_at hl 2 rfl) ?_
      refine va_iast hx hb hK hP hD hS 1 0 rfl rfl (st_in c_2) dX6_tellVoid_25 (fun H locs hP hD hS => ?_)
      have hP : va_P (dC, dI) vwCl [(h0, .inr (6, [.int i_rank, .ref b1])), (b1, .inl (k1, 12, .inl (upd a_s p0.toNatClampNeg p1)))] H := hP
      have hD : va_D A [(h0, .inr (6, [.int i_rank, .ref b1])), (b1, .inl (k1, 12, .inl (upd a_s p0.toNatClampNeg p1)))] := hD
      obtain ⟨f_4, ef_4⟩ : ∃ w9 : Nat → Int32, w9 = upd a_s p0.toNatClampNeg p1 := ⟨_, rfl⟩
      rw [← ef_4] at hP hD
      refine lv_iconst (v := 1) hx hb dX6_tellVoid_26 (by decide) ?_
      have hP9 := hP.sub (ws' := [(h0, .inr (6, [.int i_rank, .ref b1])), (b1, .inl (k1, 12, .inl f_4))]) [0, 1] rfl
      have hD9 := hD.sub (ws' := [(h0, .inr (6, [.int i_rank, .ref b1])), (b1, .inl (k1, 12, .inl f_4))]) [0, 1] (by decide) rfl
      have hK9 := hK.sub (tys' := []) [] rfl
      refine W.widen (k := 0) (n := 0) (Nat.le_of_ble_eq_true rfl) (Nat.le_of_ble_eq_true rfl) ?_
      exact W.zret (v := 1) hx hb hr rfl (fun t9 ht hW => ⟨⟨_, (), rfl, (by rw [if_neg c_2, if_pos c_3]), f_4, (by first | rfl | simp only [if_neg c_2, if_pos c_3, ef_4]), by rw [ht]; exact hP9, va_K.moved hW.alike hK9, hD9⟩, hS.F ht⟩) hS.2.2 dX6_tellVoid_27
    · refine lv_iconst (v := 0) hx hb dX6_tellVoid_17 (by decide) ?_
      have hP9 := hP.sub (ws' := [(h0, .inr (6, [.int i_rank, .ref b1])), (b1, .inl (k1, 12, .inl a_s))]) [0, 1] rfl
      have hD9 := hD.sub (ws' := [(h0, .inr (6, [.int i_rank, .ref b1])), (b1, .inl (k1, 12, .inl a_s))]) [0, 1] (by decide) rfl
      have hK9 := hK.sub (tys' := []) [] rfl
      refine W.widen (k := 0) (n := 0) (Nat.le_of_ble_eq_true rfl) (Nat.le_of_ble_eq_true rfl) ?_
      exact W.zret (v := 0) hx hb hr rfl (fun t9 ht hW => ⟨⟨_, (), rfl, (by rw [if_neg c_2, if_neg c_3]), a_s, (by first | rfl | simp only [if_neg c_2, if_neg c_3]), by rw [ht]; exact hP9, va_K.moved hW.alike hK9, hD9⟩, hS.F ht⟩) hS.2.2 dX6_tellVoid_18
