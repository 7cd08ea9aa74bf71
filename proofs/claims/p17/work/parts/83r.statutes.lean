set_option maxHeartbeats 4000000 in
set_option maxRecDepth 100000 in
theorem s_X5_init (l : Launch) (dC : Nat → ClassId) (dI : Nat → Nat → Nat) (h0 : Nat) (sz : Nat) : Met l yX5_init wsX5_init ({ frames := 1, cells := 1, slots := 6, locals := 20 }) (va_Pc [.ref h0] (cP dC dI [(h0, .inr (5, [.null]))] [] sz)) (va_Qv (fun (_ : Unit) => True) (fun (_ : Unit) t9 => ∃ (b1 : Nat) (k1 : ClassId) (f1 : Nat → Int32), (∀ j, j < 6 → f1 j = v00 j) ∧ cQ dC dI [(h0, .inr (5, [.ref b1])), (b1, .inl (k1, 6, .inl f1))] [(k1, .int)] (va_A [(h0, .inr (5, [.null]))] sz) t9) (va_A [(h0, .inr (5, [.null]))] sz)) 1 6 (va_A [(h0, .inr (5, [.null]))] sz) := by
  refine Met.ofW (cc := cX5_init) (maxL := 1) (ret := none) (by decide) rfl ?_
  intro p e s m args below meth c s₁ B hml hv
  obtain ⟨rfl, hsz, hP, hK, hD0, hN⟩ := hv
  have hx := B.exec
  have hb := B.bytes
  have hr := B.returns
  have hts := atoms_spec (ws := wsX5_init) B.pre
  have hown : s.vm.findClass RX5 = some m.cls := findClass_of_methodNamed B.named
  have hlocks := B.notSynchronized
  have hin : meth.name = "<init>" := (name_of_methodNamed B.named B.method).1
  subst hsz
  have hin5 : ∀ w ∈ u_ws RX5 TX5 1, w ∈ wsX5_init := by decide +kernel
  have hD := hD0.self (sz := s.heap.size)
  generalize hAe : va_A [(h0, .inr (5, [.null]))] s.heap.size = A at hD ⊢
  have hA : ∀ q : Nat, s.heap.size ≤ q → A q := fun q h => by rw [← hAe]; exact Or.inr h
  have hS : va_S A s.heap s.heap [] := va_S.rf
  have hP : va_P (dC, dI) vwCl [(h0, .inr (5, [.null]))] s.heap := hP
  have hl := lv_entry ([.ref h0]) (n := 1) (Nat.le_of_ble_eq_true rfl)
  rw [lg_entry_eq]
  generalize (lg_sl ([.ref h0]) ++ List.replicate (1 - (lg_sl ([.ref h0])).length) Slot.unset).toArray = ls at hl ⊢
  have hl : lv_has ls 1 [(0, .ref h0)] := hl
  refine lv_aload_n hx hb dX5_init_0 rfl (lv_at hl 0 rfl) ?_
  refine W.objInit hx hb hown (hts (.methodLink RX5 5 objectInit) (by decide +kernel)) (hts (.instanceMethod objectInit) (by decide +kernel)) (hts (.code objectInit ⟨#[0xb1]⟩ 1 none) (by decide +kernel)) rfl (by rw [hml]; exact hl.1) rfl dX5_init_1 (Nat.le_of_ble_eq_true rfl) (Nat.le_of_ble_eq_true rfl) ?_
  refine W.eq (g2 := F0 m 4 ls []) rfl ?_
  refine lv_aload_n hx hb dX5_init_4 rfl (lv_at hl 0 rfl) ?_
  refine lv_bipush (v := 6) hx hb dX5_init_5 (by decide) ?_
  refine va_newa (atype := .int) (ty := .int) (a0 := (6, .inl (fun _ => 0))) (N' := 6) hx hb (hts (.arrayClass .int) (by decide +kernel)) rfl hK hP hD hS hA (fun _ => rfl) (by decide) (by decide) (by decide) (Nat.le_of_ble_eq_true rfl) (Nat.le_of_ble_eq_true rfl) dX5_init_7 (fun q_1 k_2 H hK hP hD hS => ?_)
  refine W.widen (k := 1) (n := 6) (Nat.le_of_ble_eq_true rfl) (Nat.le_of_ble_eq_true rfl) ?_
  have hK : va_K (dC, dI) vwCl [(k_2, .int)] s := hK
  have hP : va_P (dC, dI) vwCl [(h0, .inr (5, [.null])), (q_1, .inl (k_2, 6, .inl (fun _ => 0)))] H := hP
  have hD : va_D A [(h0, .inr (5, [.null])), (q_1, .inl (k_2, 6, .inl (fun _ => 0)))] := hD
  refine lv_dup hx hb dX5_init_9 rfl ?_
  refine lv_iconst (v := 0) hx hb dX5_init_10 (by decide) ?_
  refine lv_iconst (v := 2) hx hb dX5_init_11 (by decide) ?_
  refine va_iast hx hb hK hP hD hS 1 0 rfl rfl (by unfold vp_in; decide) dX5_init_12 (fun H locs hP hD hS => ?_)
  have hP : va_P (dC, dI) vwCl [(h0, .inr (5, [.null])), (q_1, .inl (k_2, 6, .inl (upd (fun _ => 0) (0 : Int32).toNatClampNeg 2)))] H := hP
  have hD : va_D A [(h0, .inr (5, [.null])), (q_1, .inl (k_2, 6, .inl (upd (fun _ => 0) (0 : Int32).toNatClampNeg 2)))] := hD
  obtain ⟨f_3, ef_3⟩ : ∃ w9 : Nat → Int32, w9 = upd (fun _ => 0) (0 : Int32).toNatClampNeg 2 := ⟨_, rfl⟩
  rw [← ef_3] at hP hD
  refine lv_dup hx hb dX5_init_13 rfl ?_
  refine lv_iconst (v := 1) hx hb dX5_init_14 (by decide) ?_
  refine lv_iconst (v := 3) hx hb dX5_init_15 (by decide) ?_
  refine va_iast hx hb hK hP hD hS 1 0 rfl rfl (by unfold vp_in; decide) dX5_init_16 (fun H locs hP hD hS => ?_)
  have hP : va_P (dC, dI) vwCl [(h0, .inr (5, [.null])), (q_1, .inl (k_2, 6, .inl (upd f_3 (1 : Int32).toNatClampNeg 3)))] H := hP
  have hD : va_D A [(h0, .inr (5, [.null])), (q_1, .inl (k_2, 6, .inl (upd f_3 (1 : Int32).toNatClampNeg 3)))] := hD
  obtain ⟨f_4, ef_4⟩ : ∃ w9 : Nat → Int32, w9 = upd f_3 (1 : Int32).toNatClampNeg 3 := ⟨_, rfl⟩
  rw [← ef_4] at hP hD
  refine lv_dup hx hb dX5_init_17 rfl ?_
  refine lv_iconst (v := 2) hx hb dX5_init_18 (by decide) ?_
  refine lv_iconst (v := 1) hx hb dX5_init_19 (by decide) ?_
  refine va_iast hx hb hK hP hD hS 1 0 rfl rfl (by unfold vp_in; decide) dX5_init_20 (fun H locs hP hD hS => ?_)
  have hP : va_P (dC, dI) vwCl [(h0, .inr (5, [.null])), (q_1, .inl (k_2, 6, .inl (upd f_4 (2 : Int32).toNatClampNeg 1)))] H := hP
  have hD : va_D A [(h0, .inr (5, [.null])), (q_1, .inl (k_2, 6, .inl (upd f_4 (2 : Int32).toNatClampNeg 1)))] := hD
  obtain ⟨f_5, ef_5⟩ : ∃ w9 : Nat → Int32, w9 = upd f_4 (2 : Int32).toNatClampNeg 1 := ⟨_, rfl⟩
  rw [← ef_5] at hP hD
  refine lv_dup hx hb dX5_init_21 rfl ?_
  refine lv_iconst (v := 3) hx hb dX5_init_22 (by decide) ?_
  refine lv_iconst (v := 0) hx hb dX5_init_23 (by decide) ?_
  refine va_iast hx hb hK hP hD hS 1 0 rfl rfl (by unfold vp_in; decide) dX5_init_24 (fun H locs hP hD hS => ?_)
  have hP : va_P (dC, dI) vwCl [(h0, .inr (5, [.null])), (q_1, .inl (k_2, 6, .inl (upd f_5 (3 : Int32).toNatClampNeg 0)))] H := hP
  have hD : va_D A [(h0, .inr (5, [.null])), (q_1, .inl (k_2, 6, .inl (upd f_5 (3 : Int32).toNatClampNeg 0)))] := hD
  obtain ⟨f_6, ef_6⟩ : ∃ w9 : Nat → Int32, w9 = upd f_5 (3 : Int32).toNatClampNeg 0 := ⟨_, rfl⟩
  rw [← ef_6] at hP hD
  refine lv_dup hx hb dX5_init_25 rfl ?_
  refine lv_iconst (v := 4) hx hb dX5_init_26 (by decide) ?_
  refine lv_iconst (v := 0) hx hb dX5_init_27 (by decide) ?_
  refine va_iast hx hb hK hP hD hS 1 0 rfl rfl (by unfold vp_in; decide) dX5_init_28 (fun H locs hP hD hS => ?_)
  have hP : va_P (dC, dI) vwCl [(h0, .inr (5, [.null])), (q_1, .inl (k_2, 6, .inl (upd f_6 (4 : Int32).toNatClampNeg 0)))] H := hP
  have hD : va_D A [(h0, .inr (5, [.null])), (q_1, .inl (k_2, 6, .inl (upd f_6 (4 : Int32).toNatClampNeg 0)))] := hD
  obtain ⟨f_7, ef_7⟩ : ∃ w9 : Nat → Int32, w9 = upd f_6 (4 : Int32).toNatClampNeg 0 := ⟨_, rfl⟩
  rw [← ef_7] at hP hD
  refine lv_dup hx hb dX5_init_29 rfl ?_
  refine lv_iconst (v := 5) hx hb dX5_init_30 (by decide) ?_
  refine lv_iconst (v := 0) hx hb dX5_init_31 (by decide) ?_
  refine va_iast hx hb hK hP hD hS 1 0 rfl rfl (by unfold vp_in; decide) dX5_init_32 (fun H locs hP hD hS => ?_)
  have hP : va_P (dC, dI) vwCl [(h0, .inr (5, [.null])), (q_1, .inl (k_2, 6, .inl (upd f_7 (5 : Int32).toNatClampNeg 0)))] H := hP
  have hD : va_D A [(h0, .inr (5, [.null])), (q_1, .inl (k_2, 6, .inl (upd f_7 (5 : Int32).toNatClampNeg 0)))] := hD
  obtain ⟨f_8, ef_8⟩ : ∃ w9 : Nat → Int32, w9 = upd f_7 (5 : Int32).toNatClampNeg 0 := ⟨_, rfl⟩
  rw [← ef_8] at hP hD
  refine va_putF (D := (dC, dI)) (ci := 5) (v := .ref q_1) (ty := (tyX5 0)) (C := RX5) (T := TX5) (N := 1) hx hb hts hin5 tyX5 tyX5_ok nmX5 hown hK hP hD hS 0 rfl rfl 0 (by decide) (hts (.fieldLink RX5 11 "YamRiders$Statutes" "numbers" "[I") (by decide +kernel)) (fun _ h9 => h9) rfl hin rfl (by decide +kernel) rfl rfl (Nat.le_of_ble_eq_true rfl) dX5_init_33 (fun H locs hP hD hS => ?_)
  have hP : va_P (dC, dI) vwCl [(h0, .inr (5, [.ref q_1])), (q_1, .inl (k_2, 6, .inl f_8))] H := hP
  have hD : va_D A [(h0, .inr (5, [.ref q_1])), (q_1, .inl (k_2, 6, .inl f_8))] := hD
  have hP9 := hP.sub (ws' := [(h0, .inr (5, [.ref q_1])), (q_1, .inl (k_2, 6, .inl f_8))]) [0, 1] rfl
  have hD9 := hD.sub (ws' := [(h0, .inr (5, [.ref q_1])), (q_1, .inl (k_2, 6, .inl f_8))]) [0, 1] (by decide) rfl
  have hK9 := hK.sub (tys' := [(k_2, .int)]) [0] rfl
  refine W.widen (k := 1) (n := 6) (Nat.le_of_ble_eq_true rfl) (Nat.le_of_ble_eq_true rfl) ?_
  exact W.vret hx hb hr (fun t9 ht hW => ⟨⟨(), rfl, trivial, q_1, k_2, f_8, (fun j hj => by have h9 : j = 0 ∨ j = 1 ∨ j = 2 ∨ j = 3 ∨ j = 4 ∨ j = 5 := (by omega); rcases h9 with h9 | h9 | h9 | h9 | h9 | h9 <;> subst h9 <;> (rw [ef_8, ef_7, ef_6, ef_5, ef_4, ef_3]; try rfl)), by rw [ht]; exact hP9, va_K.moved hW.alike hK9, hD9⟩, hS.F ht⟩) hS.2.2 dX5_init_36

set_option maxHeartbeats 4000000 in
set_option maxRecDepth 100000 in
theorem s_X4_init (l : Launch) (dC : Nat → ClassId) (dI : Nat → Nat → Nat) (h0 : Nat) (t1 : Nat) (sz : Nat) : Met l yX4_init wsX4_init ({ frames := 2, cells := 3, slots := 13, locals := 40 }) (va_Pc [.ref h0, .ref t1] (cP dC dI [(h0, .inr (4, [.null, .null, .null, .int 0, .int 0, .int 0, .int 0, .int 0, .int 0, .int 0]))] [] sz)) (va_Qv (fun (_ : Unit) => True) (fun (_ : Unit) t9 => ∃ (t2 : Nat) (t3 : Nat) (n1 : Nat) (k1 : ClassId) (k2 : ClassId) (f1 : Nat → Int32), (∀ j, j < 6 → f1 j = v00 j) ∧ cQ dC dI [(h0, .inr (4, [.ref t1, .ref t2, .ref t3, .int 0, .int 0, .int 0, .int 0, .int 0, .int 0, .int 0])), (t2, .inr (5, [.ref n1])), (n1, .inl (k1, 6, .inl f1)), (t3, .inl (k2, 6, .inl (fun _ => 0)))] [(k1, .int), (k2, .boolean)] (va_A [(h0, .inr (4, [.null, .null, .null, .int 0, .int 0, .int 0, .int 0, .int 0, .int 0, .int 0]))] sz) t9) (va_A [(h0, .inr (4, [.null, .null, .null, .int 0, .int 0, .int 0, .int 0, .int 0, .int 0, .int 0]))] sz)) 3 13 (va_A [(h0, .inr (4, [.null, .null, .null, .int 0, .int 0, .int 0, .int 0, .int 0, .int 0, .int 0]))] sz) := by
  refine Met.ofW (cc := cX4_init) (maxL := 2) (ret := none) (by decide) rfl ?_
  intro p e s m args below meth c s₁ B hml hv
  obtain ⟨rfl, hsz, hP, hK, hD0, hN⟩ := hv
  have hx := B.exec
  have hb := B.bytes
  have hr := B.returns
  have hts := atoms_spec (ws := wsX4_init) B.pre
  have hown : s.vm.findClass RX4 = some m.cls := findClass_of_methodNamed B.named
  have hlocks := B.notSynchronized
  have hin : meth.name = "<init>" := (name_of_methodNamed B.named B.method).1
  subst hsz
  have hin4 : ∀ w ∈ u_ws RX4 TX4 10, w ∈ wsX4_init := by decide +kernel
  have hin5 : ∀ w ∈ u_ws RX5 TX5 1, w ∈ wsX4_init := by decide +kernel
  have hD := hD0.self (sz := s.heap.size)
  generalize hAe : va_A [(h0, .inr (4, [.null, .null, .null, .int 0, .int 0, .int 0, .int 0, .int 0, .int 0, .int 0]))] s.heap.size = A at hD ⊢
  have hA : ∀ q : Nat, s.heap.size ≤ q → A q := fun q h => by rw [← hAe]; exact Or.inr h
  have hS : va_S A s.heap s.heap [] := va_S.rf
  have hP : va_P (dC, dI) vwCl [(h0, .inr (4, [.null, .null, .null, .int 0, .int 0, .int 0, .int 0, .int 0, .int 0, .int 0]))] s.heap := hP
  have hl := lv_entry ([.ref h0, .ref t1]) (n := 2) (Nat.le_of_ble_eq_true rfl)
  rw [lg_entry_eq]
  generalize (lg_sl ([.ref h0, .ref t1]) ++ List.replicate (2 - (lg_sl ([.ref h0, .ref t1])).length) Slot.unset).toArray = ls at hl ⊢
  have hl : lv_has ls 2 [(0, .ref h0), (1, .ref t1)] := hl
  refine lv_aload_n hx hb dX4_init_0 rfl (lv_at hl 0 rfl) ?_
  refine W.objInit hx hb hown (hts (.methodLink RX4 3 objectInit) (by decide +kernel)) (hts (.instanceMethod objectInit) (by decide +kernel)) (hts (.code objectInit ⟨#[0xb1]⟩ 1 none) (by decide +kernel)) rfl (by rw [hml]; exact hl.1) rfl dX4_init_1 (Nat.le_of_ble_eq_true rfl) (Nat.le_of_ble_eq_true rfl) ?_
  refine W.eq (g2 := F0 m 4 ls []) rfl ?_
  refine lv_aload_n hx hb dX4_init_4 rfl (lv_at hl 0 rfl) ?_
  refine va_new (ci := 5) (fs := [.null]) (C := RX5) (T := TX5) (N := 1) hx hb hts hin5 tyX5 tyX5_ok hown (hts (.classLink RX4 9 RX5) (by decide +kernel)) (hts (.instantiable RX5 1) (by decide +kernel)) (hts (.initialized RX5) (by decide +kernel)) hK hP hD hS hA rfl (by decide +kernel) (Nat.le_of_ble_eq_true rfl) (Nat.le_of_ble_eq_true rfl) dX4_init_5 (fun q_1 H hP hD hS => ?_)
  refine W.widen (k := 1) (n := 1) (Nat.le_of_ble_eq_true rfl) (Nat.le_of_ble_eq_true rfl) ?_
  have hP : va_P (dC, dI) vwCl [(h0, .inr (4, [.null, .null, .null, .int 0, .int 0, .int 0, .int 0, .int 0, .int 0, .int 0])), (q_1, .inr (5, [.null]))] H := hP
  have hD : va_D A [(h0, .inr (4, [.null, .null, .null, .int 0, .int 0, .int 0, .int 0, .int 0, .int 0, .int 0])), (q_1, .inr (5, [.null]))] := hD
  refine lv_dup hx hb dX4_init_8 rfl ?_
  have hPc := hP.sub (ws' := [(q_1, .inr (5, [.null]))]) [1] rfl
  have hDc := hD.sub (ws' := [(q_1, .inr (5, [.null]))]) [1] (by decide) rfl
  have hKc := hK.sub (tys' := []) [] rfl
  have hFc := va_free (wc := [(q_1, .inr (5, [.null]))]) hD hS hA [1] rfl
  refine va_callv (va_runIN (As := []) (rest := [.ref q_1, .ref h0]) ⟨hx, hb, hml, hown, hts⟩ (s_X5_init l dC dI q_1 H.size) ⟨va_cnB 0 hts ggX4_init_X5_init rfl rfl rfl (hN.1 (.methodLinkNest RX4 11 yX5_init "YamRiders") (by decide +kernel)) (hts (.initialized RX5) (by decide +kernel)) (by decide +kernel) ⟨Nat.le_of_ble_eq_true rfl, Nat.le_of_ble_eq_true rfl⟩, rfl, hts (.instanceMethod yX5_init) (by decide +kernel)⟩ ⟨c_blind, c_pre hPc hKc hDc hN⟩ rfl rfl hl.1 rfl (lv_room (Nat.le_of_ble_eq_true rfl)) dX4_init_9 ⟨Nat.le_of_ble_eq_true rfl, Nat.le_of_ble_eq_true rfl⟩) hS (fun q _ h => hFc q h) hFc (fun u9 t9 H1 locs ht hvm hw hB hz1 hk1 hS => ?_)
  obtain ⟨b_3, k_4, f_5, hf_x_6, hP1, hK1, hD1⟩ := hB
  rw [ht] at hP1
  have hK1 := va_K.moved hvm.symm hK1
  obtain ⟨hP, hD⟩ := va_join (wr := [(h0, .inr (4, [.null, .null, .null, .int 0, .int 0, .int 0, .int 0, .int 0, .int 0, .int 0]))]) (w1 := [(q_1, .inr (5, [.ref b_3])), (b_3, .inl (k_4, 6, .inl f_5))]) hP hD [1] [0] rfl rfl (by decide) (by decide) hk1 hFc hP1 hD1
  have hK := (hK.sub (tys' := []) [] rfl).app hK1
  generalize H1 = H at hP hS ⊢
  have hK : va_K (dC, dI) vwCl [(k_4, .int)] s := hK
  have hP : va_P (dC, dI) vwCl [(h0, .inr (4, [.null, .null, .null, .int 0, .int 0, .int 0, .int 0, .int 0, .int 0, .int 0])), (q_1, .inr (5, [.ref b_3])), (b_3, .inl (k_4, 6, .inl f_5))] H := hP
  have hD : va_D A [(h0, .inr (4, [.null, .null, .null, .int 0, .int 0, .int 0, .int 0, .int 0, .int 0, .int 0])), (q_1, .inr (5, [.ref b_3])), (b_3, .inl (k_4, 6, .inl f_5))] := hD
  refine W.widen (k := 2) (n := 7) (Nat.le_of_ble_eq_true rfl) (Nat.le_of_ble_eq_true rfl) ?_
  refine va_putF (D := (dC, dI)) (ci := 4) (v := .ref q_1) (ty := (tyX4 1)) (C := RX4) (T := TX4) (N := 10) hx hb hts hin4 tyX4 tyX4_ok nmX4 hown hK hP hD hS 0 rfl rfl 1 (by decide) (hts (.fieldLink RX4 12 "YamRiders$StatuteReader" "told" "LYamRiders$Statutes;") (by decide +kernel)) (fun _ h9 => h9) rfl hin rfl (by decide +kernel) rfl rfl (Nat.le_of_ble_eq_true rfl) dX4_init_12 (fun H locs hP hD hS => ?_)
  have hP : va_P (dC, dI) vwCl [(h0, .inr (4, [.null, .ref q_1, .null, .int 0, .int 0, .int 0, .int 0, .int 0, .int 0, .int 0])), (q_1, .inr (5, [.ref b_3])), (b_3, .inl (k_4, 6, .inl f_5))] H := hP
  have hD : va_D A [(h0, .inr (4, [.null, .ref q_1, .null, .int 0, .int 0, .int 0, .int 0, .int 0, .int 0, .int 0])), (q_1, .inr (5, [.ref b_3])), (b_3, .inl (k_4, 6, .inl f_5))] := hD
  refine lv_aload_n hx hb dX4_init_15 rfl (lv_at hl 0 rfl) ?_
  refine lv_bipush (v := 6) hx hb dX4_init_16 (by decide) ?_
  refine va_newa (atype := .boolean) (ty := .boolean) (a0 := (6, .inl (fun _ => 0))) (N' := 6) hx hb (hts (.arrayClass .boolean) (by decide +kernel)) rfl hK hP hD hS hA (fun _ => rfl) (by decide) (by decide) (by decide) (Nat.le_of_ble_eq_true rfl) (Nat.le_of_ble_eq_true rfl) dX4_init_18 (fun q_7 k_8 H hK hP hD hS => ?_)
  refine W.widen (k := 3) (n := 13) (Nat.le_of_ble_eq_true rfl) (Nat.le_of_ble_eq_true rfl) ?_
  have hK : va_K (dC, dI) vwCl [(k_4, .int), (k_8, .boolean)] s := hK
  have hP : va_P (dC, dI) vwCl [(h0, .inr (4, [.null, .ref q_1, .null, .int 0, .int 0, .int 0, .int 0, .int 0, .int 0, .int 0])), (q_1, .inr (5, [.ref b_3])), (b_3, .inl (k_4, 6, .inl f_5)), (q_7, .inl (k_8, 6, .inl (fun _ => 0)))] H := hP
  have hD : va_D A [(h0, .inr (4, [.null, .ref q_1, .null, .int 0, .int 0, .int 0, .int 0, .int 0, .int 0, .int 0])), (q_1, .inr (5, [.ref b_3])), (b_3, .inl (k_4, 6, .inl f_5)), (q_7, .inl (k_8, 6, .inl (fun _ => 0)))] := hD
  refine va_putF (D := (dC, dI)) (ci := 4) (v := .ref q_7) (ty := (tyX4 2)) (C := RX4) (T := TX4) (N := 10) hx hb hts hin4 tyX4 tyX4_ok nmX4 hown hK hP hD hS 0 rfl rfl 2 (by decide) (hts (.fieldLink RX4 18 "YamRiders$StatuteReader" "isTold" "[Z") (by decide +kernel)) (fun _ h9 => h9) rfl hin rfl (by decide +kernel) rfl rfl (Nat.le_of_ble_eq_true rfl) dX4_init_20 (fun H locs hP hD hS => ?_)
  have hP : va_P (dC, dI) vwCl [(h0, .inr (4, [.null, .ref q_1, .ref q_7, .int 0, .int 0, .int 0, .int 0, .int 0, .int 0, .int 0])), (q_1, .inr (5, [.ref b_3])), (b_3, .inl (k_4, 6, .inl f_5)), (q_7, .inl (k_8, 6, .inl (fun _ => 0)))] H := hP
  have hD : va_D A [(h0, .inr (4, [.null, .ref q_1, .ref q_7, .int 0, .int 0, .int 0, .int 0, .int 0, .int 0, .int 0])), (q_1, .inr (5, [.ref b_3])), (b_3, .inl (k_4, 6, .inl f_5)), (q_7, .inl (k_8, 6, .inl (fun _ => 0)))] := hD
  refine lv_aload_n hx hb dX4_init_23 rfl (lv_at hl 0 rfl) ?_
  refine lv_aload_n hx hb dX4_init_24 rfl (lv_at hl 1 rfl) ?_
  refine va_putF (D := (dC, dI)) (ci := 4) (v := .ref t1) (ty := (tyX4 0)) (C := RX4) (T := TX4) (N := 10) hx hb hts hin4 tyX4 tyX4_ok nmX4 hown hK hP hD hS 0 rfl rfl 0 (by decide) (hts (.fieldLink RX4 22 "YamRiders$StatuteReader" "tape" "LYamRiders$Tape;") (by decide +kernel)) (fun _ h9 => h9) rfl hin rfl (by decide +kernel) rfl rfl (Nat.le_of_ble_eq_true rfl) dX4_init_25 (fun H locs hP hD hS => ?_)
  have hP : va_P (dC, dI) vwCl [(h0, .inr (4, [.ref t1, .ref q_1, .ref q_7, .int 0, .int 0, .int 0, .int 0, .int 0, .int 0, .int 0])), (q_1, .inr (5, [.ref b_3])), (b_3, .inl (k_4, 6, .inl f_5)), (q_7, .inl (k_8, 6, .inl (fun _ => 0)))] H := hP
  have hD : va_D A [(h0, .inr (4, [.ref t1, .ref q_1, .ref q_7, .int 0, .int 0, .int 0, .int 0, .int 0, .int 0, .int 0])), (q_1, .inr (5, [.ref b_3])), (b_3, .inl (k_4, 6, .inl f_5)), (q_7, .inl (k_8, 6, .inl (fun _ => 0)))] := hD
  have hP9 := hP.sub (ws' := [(h0, .inr (4, [.ref t1, .ref q_1, .ref q_7, .int 0, .int 0, .int 0, .int 0, .int 0, .int 0, .int 0])), (q_1, .inr (5, [.ref b_3])), (b_3, .inl (k_4, 6, .inl f_5)), (q_7, .inl (k_8, 6, .inl (fun _ => 0)))]) [0, 1, 2, 3] rfl
  have hD9 := hD.sub (ws' := [(h0, .inr (4, [.ref t1, .ref q_1, .ref q_7, .int 0, .int 0, .int 0, .int 0, .int 0, .int 0, .int 0])), (q_1, .inr (5, [.ref b_3])), (b_3, .inl (k_4, 6, .inl f_5)), (q_7, .inl (k_8, 6, .inl (fun _ => 0)))]) [0, 1, 2, 3] (by decide) rfl
  have hK9 := hK.sub (tys' := [(k_4, .int), (k_8, .boolean)]) [0, 1] rfl
  refine W.widen (k := 3) (n := 13) (Nat.le_of_ble_eq_true rfl) (Nat.le_of_ble_eq_true rfl) ?_
  exact W.vret hx hb hr (fun t9 ht hW => ⟨⟨(), rfl, trivial, q_1, q_7, b_3, k_4, k_8, f_5, hf_x_6, by rw [ht]; exact hP9, va_K.moved hW.alike hK9, hD9⟩, hS.F ht⟩) hS.2.2 dX4_init_28

theorem ka_eqZ {D : va_G} {cl : List vw_C} {tys : List (ClassId × FieldType)} {U : State} {c d : ClassId} (hK : va_K D cl tys U) (i j : Nat) (hi : tys[i]? = some (c, .boolean)) (hj : tys[j]? = some (d, .boolean)) : d = c := by
  have h1 := (hK.2 i _ hi).2
  have h2 := (hK.2 j _ hj).2
  exact Option.some.inj (h2.symm.trans h1)
theorem ka_eqG {D : va_G} {cl : List vw_C} {tys : List (ClassId × FieldType)} {U : State} {c d : ClassId} (hK : va_K D cl tys U) (i j : Nat) (hi : tys[i]? = some (c, .array .int)) (hj : tys[j]? = some (d, .array .int)) : d = c := by
  have h1 := (hK.2 i _ hi).2
  have h2 := (hK.2 j _ hj).2
  exact Option.some.inj (h2.symm.trans h1)
theorem ka_eqO {D : va_G} {cl : List vw_C} {tys : List (ClassId × FieldType)} {U : State} {c d : ClassId} {C : String} (hK : va_K D cl tys U) (i j : Nat) (hi : tys[i]? = some (c, .object C)) (hj : tys[j]? = some (d, .object C)) : d = c := by
  obtain ⟨_, _, _, _, _, h1⟩ := (hK.2 i _ hi).2
  obtain ⟨_, _, _, _, _, h2⟩ := (hK.2 j _ hj).2
  exact Option.some.inj (h2.symm.trans h1)

def STS (S T : Nat → Nat → Nat → Int32) (g g2 : Nat) (fk : Int32) (f : Nat → Int32) : Prop := (fk = 0 ∧ T 224 g2 = f ∧ ∀ c i, ¬ (c / 16 = 14 ∧ i = g2) → T c i = S c i) ∨ (¬ fk = 0 ∧ T = S ∧ g2 = g)

set_option maxHeartbeats 4000000 in
set_option maxRecDepth 100000 in
theorem s_X8_statutes (l : Launch) (dC : Nat → ClassId) (dI : Nat → Nat → Nat) (cs : Nat → ClassId) (L : List Nat) (ka : Nat → Nat) (ix : Nat → Nat) (ad : Nat → Nat → Nat) (n0 : Nat) (n6 : Nat) (n2 : Nat) (S : Nat → Nat → Nat → Int32) (f : Nat → va_E) (gq : Nat) (adK : Nat → Nat) (adV : Nat → Nat) (h0 : Nat) (a1 : Nat) (a2 : Nat) (a3 : Nat) (a4 : Nat) (a5 : Nat) (a6 : Nat) (a7 : Nat) (a8 : Nat) (a9 : Nat) (j_faultKind : Int32) (j_horseCount : Int32) (j_tabletCount : Int32) (j_riderCount : Int32) (j_lineLength : Int32) (j_hour : Int32) (b1 : Nat) (ln : Nat) (a_b : Nat → Int32) (sz : Nat) (hT : tB L ka ix ad cs n0 n6 n2 S f) (hY : yX L ka ix ad gq a2 a3 a4 a5 a6 a7 a8 a9) (hln : ln ≤ 200) (hBt : Byt (PBy a_b ln) ln) : Met l yX8_statutes wsX8_statutes ({ frames := 8, cells := 4, slots := 23, locals := 175 }) (va_Pc [.ref h0] (fun U => cP dC dI ([(h0, .inr (8, [.ref a1, .ref a2, .ref a3, .ref a4, .ref a5, .ref a6, .ref a7, .ref a8, .ref a9, .int j_faultKind, .int j_horseCount, .int j_tabletCount, .int j_riderCount, .int j_lineLength, .int j_hour])), (a1, .inr (7, [.ref b1, .int (nI ln)])), (b1, .inl (cs 0, 200, .inl a_b))] ++ va_pl L f) (tyC cs) sz U ∧ EV adK adV (va_A ([(h0, .inr (8, [.ref a1, .ref a2, .ref a3, .ref a4, .ref a5, .ref a6, .ref a7, .ref a8, .ref a9, .int j_faultKind, .int j_horseCount, .int j_tabletCount, .int j_riderCount, .int j_lineLength, .int j_hour])), (a1, .inr (7, [.ref b1, .int (nI ln)])), (b1, .inl (cs 0, 200, .inl a_b))] ++ va_pl L f) sz) U U.heap ∧ SR adK U)) (va_Qi (fun (r : Int32) (_ : Unit) => True) (fun (_ : Unit) t9 => ∃ (L2 : List Nat) (ka2 : Nat → Nat) (ix2 : Nat → Nat) (ad2 : Nat → Nat → Nat) (S2 : Nat → Nat → Nat → Int32) (f2 : Nat → va_E) (a9x : Nat) (gq2 : Nat) (fk2 : Int32) (f1x : Nat → Int32), (eX L ka ix L2 ka2 ix2) ∧ (tB L2 ka2 ix2 ad2 cs n0 n6 n2 S2 f2) ∧ (FR S S2) ∧ (yX L2 ka2 ix2 ad2 gq2 a2 a3 a4 a5 a6 a7 a8 a9x) ∧ (STx (TC (PBy a_b ln)) (PBy a_b ln) fk2 f1x) ∧ (STS S S2 gq gq2 fk2 f1x) ∧ cQ dC dI ([(h0, .inr (8, [.ref a1, .ref a2, .ref a3, .ref a4, .ref a5, .ref a6, .ref a7, .ref a8, .ref a9x, .int fk2, .int j_horseCount, .int j_tabletCount, .int j_riderCount, .int j_lineLength, .int j_hour])), (a1, .inr (7, [.ref b1, .int 0])), (b1, .inl (cs 0, 200, .inl a_b))] ++ va_pl L2 f2) [] (va_A ([(h0, .inr (8, [.ref a1, .ref a2, .ref a3, .ref a4, .ref a5, .ref a6, .ref a7, .ref a8, .ref a9, .int j_faultKind, .int j_horseCount, .int j_tabletCount, .int j_riderCount, .int j_lineLength, .int j_hour])), (a1, .inr (7, [.ref b1, .int (nI ln)])), (b1, .inl (cs 0, 200, .inl a_b))] ++ va_pl L f) sz) t9) (va_A ([(h0, .inr (8, [.ref a1, .ref a2, .ref a3, .ref a4, .ref a5, .ref a6, .ref a7, .ref a8, .ref a9, .int j_faultKind, .int j_horseCount, .int j_tabletCount, .int j_riderCount, .int j_lineLength, .int j_hour])), (a1, .inr (7, [.ref b1, .int (nI ln)])), (b1, .inl (cs 0, 200, .inl a_b))] ++ va_pl L f) sz)) 4 23 (va_A ([(h0, .inr (8, [.ref a1, .ref a2, .ref a3, .ref a4, .ref a5, .ref a6, .ref a7, .ref a8, .ref a9, .int j_faultKind, .int j_horseCount, .int j_tabletCount, .int j_riderCount, .int j_lineLength, .int j_hour])), (a1, .inr (7, [.ref b1, .int (nI ln)])), (b1, .inl (cs 0, 200, .inl a_b))] ++ va_pl L f) sz) := by
  refine Met.ofW (cc := cX8_statutes) (maxL := 2) (ret := (some .int)) (by decide) rfl ?_
  intro p e s m args below meth c s₁ B hml hv
  obtain ⟨rfl, ⟨hsz, hP, hK, hD0, hN⟩, hE, hR⟩ := hv
  have hx := B.exec
  have hb := B.bytes
  have hr := B.returns
  have hts := atoms_spec (ws := wsX8_statutes) B.pre
  have hown : s.vm.findClass RX8 = some m.cls := findClass_of_methodNamed B.named
  have hlocks := B.notSynchronized
  subst hsz
  have hin4 : ∀ w ∈ u_ws RX4 TX4 10, w ∈ wsX8_statutes := by decide +kernel
  have hin7 : ∀ w ∈ u_ws RX7 TX7 2, w ∈ wsX8_statutes := by decide +kernel
  have hin8 : ∀ w ∈ u_ws RX8 TX8 15, w ∈ wsX8_statutes := by decide +kernel
  have hD := hD0.self (sz := s.heap.size)
  generalize hAe : va_A ([(h0, .inr (8, [.ref a1, .ref a2, .ref a3, .ref a4, .ref a5, .ref a6, .ref a7, .ref a8, .ref a9, .int j_faultKind, .int j_horseCount, .int j_tabletCount, .int j_riderCount, .int j_lineLength, .int j_hour])), (a1, .inr (7, [.ref b1, .int (nI ln)])), (b1, .inl (cs 0, 200, .inl a_b))] ++ va_pl L f) s.heap.size = A at hD hE ⊢
  have hA : ∀ q : Nat, s.heap.size ≤ q → A q := fun q h => by rw [← hAe]; exact Or.inr h
  have hS : va_S A s.heap s.heap [] := va_S.rf
  have hP : va_P (dC, dI) vwCl ([(h0, .inr (8, [.ref a1, .ref a2, .ref a3, .ref a4, .ref a5, .ref a6, .ref a7, .ref a8, .ref a9, .int j_faultKind, .int j_horseCount, .int j_tabletCount, .int j_riderCount, .int j_lineLength, .int j_hour])), (a1, .inr (7, [.ref b1, .int (nI ln)])), (b1, .inl (cs 0, 200, .inl a_b))] ++ va_pl L f) s.heap := hP
  have hl := lv_entry ([.ref h0]) (n := 2) (Nat.le_of_ble_eq_true rfl)
  rw [lg_entry_eq]
  generalize (lg_sl ([.ref h0]) ++ List.replicate (2 - (lg_sl ([.ref h0])).length) Slot.unset).toArray = ls at hl ⊢
  have hl : lv_has ls 2 [(0, .ref h0)] := hl
  refine va_new (ci := 4) (fs := [.null, .null, .null, .int 0, .int 0, .int 0, .int 0, .int 0, .int 0, .int 0]) (C := RX4) (T := TX4) (N := 10) hx hb hts hin4 tyX4 tyX4_ok hown (hts (.classLink RX8 74 RX4) (by decide +kernel)) (hts (.instantiable RX4 10) (by decide +kernel)) (hts (.initialized RX4) (by decide +kernel)) hK hP hD hS hA rfl (by decide +kernel) (Nat.le_of_ble_eq_true rfl) (Nat.le_of_ble_eq_true rfl) dX8_statutes_0 (fun q_1 H hP hD hS => ?_)
  refine W.widen (k := 1) (n := 10) (Nat.le_of_ble_eq_true rfl) (Nat.le_of_ble_eq_true rfl) ?_
  have hP := va_P.swap (a := [(h0, .inr (8, [.ref a1, .ref a2, .ref a3, .ref a4, .ref a5, .ref a6, .ref a7, .ref a8, .ref a9, .int j_faultKind, .int j_horseCount, .int j_tabletCount, .int j_riderCount, .int j_lineLength, .int j_hour])), (a1, .inr (7, [.ref b1, .int (nI ln)])), (b1, .inl (cs 0, 200, .inl a_b))]) hP
  have hD := va_D.swap (a := [(h0, .inr (8, [.ref a1, .ref a2, .ref a3, .ref a4, .ref a5, .ref a6, .ref a7, .ref a8, .ref a9, .int j_faultKind, .int j_horseCount, .int j_tabletCount, .int j_riderCount, .int j_lineLength, .int j_hour])), (a1, .inr (7, [.ref b1, .int (nI ln)])), (b1, .inl (cs 0, 200, .inl a_b))]) hD
  have hP : va_P (dC, dI) vwCl ([(h0, .inr (8, [.ref a1, .ref a2, .ref a3, .ref a4, .ref a5, .ref a6, .ref a7, .ref a8, .ref a9, .int j_faultKind, .int j_horseCount, .int j_tabletCount, .int j_riderCount, .int j_lineLength, .int j_hour])), (a1, .inr (7, [.ref b1, .int (nI ln)])), (b1, .inl (cs 0, 200, .inl a_b)), (q_1, .inr (4, [.null, .null, .null, .int 0, .int 0, .int 0, .int 0, .int 0, .int 0, .int 0]))] ++ va_pl L f) H := hP
  have hD : va_D A ([(h0, .inr (8, [.ref a1, .ref a2, .ref a3, .ref a4, .ref a5, .ref a6, .ref a7, .ref a8, .ref a9, .int j_faultKind, .int j_horseCount, .int j_tabletCount, .int j_riderCount, .int j_lineLength, .int j_hour])), (a1, .inr (7, [.ref b1, .int (nI ln)])), (b1, .inl (cs 0, 200, .inl a_b)), (q_1, .inr (4, [.null, .null, .null, .int 0, .int 0, .int 0, .int 0, .int 0, .int 0, .int 0]))] ++ va_pl L f) := hD
  refine lv_dup hx hb dX8_statutes_3 rfl ?_
  refine lv_aload_n hx hb dX8_statutes_4 rfl (lv_at hl 0 rfl) ?_
  refine va_get (D := (dC, dI)) (ci := 8) (v := .ref a1) (C := RX8) (T := TX8) (N := 15) hx hb hts hin8 hown hK hP 0 rfl rfl 0 (by decide) (hts (.fieldLink RX8 10 "YamRiders" "tape" "LYamRiders$Tape;") (by decide +kernel)) (fun _ h9 => h9) rfl dX8_statutes_5 ?_
  have hPc := hP.sub (ws' := [(q_1, .inr (4, [.null, .null, .null, .int 0, .int 0, .int 0, .int 0, .int 0, .int 0, .int 0]))]) [3] rfl
  have hDc := hD.sub (ws' := [(q_1, .inr (4, [.null, .null, .null, .int 0, .int 0, .int 0, .int 0, .int 0, .int 0, .int 0]))]) [3] (by decide) rfl
  have hKc := hK.sub (tys' := []) [] rfl
  have hFc := va_free (wc := [(q_1, .inr (4, [.null, .null, .null, .int 0, .int 0, .int 0, .int 0, .int 0, .int 0, .int 0]))]) hD hS hA [3] rfl
  refine va_callv (va_runI (As := [.ref a1]) (rest := [.ref q_1]) ⟨hx, hb, hml, hown, hts⟩ (s_X4_init l dC dI q_1 a1 H.size) (cwI 1 hts gX8_statutes_X4_init rfl rfl rfl (hts (.initialized RX4) (by decide +kernel)) (hts (.methodLink RX8 76 yX4_init) (by decide +kernel)) (hts (.instanceMethod yX4_init) (by decide +kernel)) rfl (by decide +kernel) ⟨Nat.le_of_ble_eq_true rfl, Nat.le_of_ble_eq_true rfl⟩) ⟨c_blind, c_pre hPc hKc hDc hN⟩ rfl rfl hl.1 rfl (lv_room (Nat.le_of_ble_eq_true rfl)) dX8_statutes_8 ⟨Nat.le_of_ble_eq_true rfl, Nat.le_of_ble_eq_true rfl⟩) hS (fun q _ h => hFc q h) hFc (fun u9 t9 H1 locs ht hvm hw hB hz1 hk1 hS => ?_)
  obtain ⟨t_3, t_4, n_5, k_6, k_7, f_8, hf_x_9, hP1, hK1, hD1⟩ := hB
  rw [ht] at hP1
  have hK1 := va_K.moved hvm.symm hK1
  obtain ⟨hP, hD⟩ := va_joinQ (X := [(h0, .inr (8, [.ref a1, .ref a2, .ref a3, .ref a4, .ref a5, .ref a6, .ref a7, .ref a8, .ref a9, .int j_faultKind, .int j_horseCount, .int j_tabletCount, .int j_riderCount, .int j_lineLength, .int j_hour])), (a1, .inr (7, [.ref b1, .int (nI ln)])), (b1, .inl (cs 0, 200, .inl a_b)), (q_1, .inr (4, [.null, .null, .null, .int 0, .int 0, .int 0, .int 0, .int 0, .int 0, .int 0]))]) (cx := [(q_1, .inr (4, [.null, .null, .null, .int 0, .int 0, .int 0, .int 0, .int 0, .int 0, .int 0]))]) (wr := [(h0, .inr (8, [.ref a1, .ref a2, .ref a3, .ref a4, .ref a5, .ref a6, .ref a7, .ref a8, .ref a9, .int j_faultKind, .int j_horseCount, .int j_tabletCount, .int j_riderCount, .int j_lineLength, .int j_hour])), (a1, .inr (7, [.ref b1, .int (nI ln)])), (b1, .inl (cs 0, 200, .inl a_b))]) (w1 := [(q_1, .inr (4, [.ref a1, .ref t_3, .ref t_4, .int 0, .int 0, .int 0, .int 0, .int 0, .int 0, .int 0])), (t_3, .inr (5, [.ref n_5])), (n_5, .inl (k_6, 6, .inl f_8)), (t_4, .inl (k_7, 6, .inl (fun _ => 0)))]) (pl := va_pl L f) hP hD [3] [0, 1, 2] rfl rfl (by decide) (by decide) hk1 hFc hP1 hD1
  have hK := hK.app hK1
  have hK : va_K (dC, dI) vwCl [(cs 0, .int), (cs 1, .boolean), (cs 2, .array .int), (cs 3, .object "YamRiders$Horse"), (cs 4, .object "YamRiders$Tablet"), (cs 5, .object "YamRiders$Rider"), (k_6, .int), (k_7, .boolean)] s := hK
  generalize H1 = H at hP hS ⊢
  have hP : va_P (dC, dI) vwCl ([(h0, .inr (8, [.ref a1, .ref a2, .ref a3, .ref a4, .ref a5, .ref a6, .ref a7, .ref a8, .ref a9, .int j_faultKind, .int j_horseCount, .int j_tabletCount, .int j_riderCount, .int j_lineLength, .int j_hour])), (a1, .inr (7, [.ref b1, .int (nI ln)])), (b1, .inl (cs 0, 200, .inl a_b)), (q_1, .inr (4, [.ref a1, .ref t_3, .ref t_4, .int 0, .int 0, .int 0, .int 0, .int 0, .int 0, .int 0])), (t_3, .inr (5, [.ref n_5])), (n_5, .inl (k_6, 6, .inl f_8)), (t_4, .inl (k_7, 6, .inl (fun _ => 0)))] ++ va_pl L f) H := hP
  have hD : va_D A ([(h0, .inr (8, [.ref a1, .ref a2, .ref a3, .ref a4, .ref a5, .ref a6, .ref a7, .ref a8, .ref a9, .int j_faultKind, .int j_horseCount, .int j_tabletCount, .int j_riderCount, .int j_lineLength, .int j_hour])), (a1, .inr (7, [.ref b1, .int (nI ln)])), (b1, .inl (cs 0, 200, .inl a_b)), (q_1, .inr (4, [.ref a1, .ref t_3, .ref t_4, .int 0, .int 0, .int 0, .int 0, .int 0, .int 0, .int 0])), (t_3, .inr (5, [.ref n_5])), (n_5, .inl (k_6, 6, .inl f_8)), (t_4, .inl (k_7, 6, .inl (fun _ => 0)))] ++ va_pl L f) := hD
  refine W.widen (k := 4) (n := 23) (Nat.le_of_ble_eq_true rfl) (Nat.le_of_ble_eq_true rfl) ?_
  obtain rfl : k_6 = cs 0 := ka_eq hK 0 6 rfl rfl
  have hK := hK.sub (tys' := [(cs 0, .int), (cs 1, .boolean), (cs 2, .array .int), (cs 3, .object "YamRiders$Horse"), (cs 4, .object "YamRiders$Tablet"), (cs 5, .object "YamRiders$Rider"), (k_7, .boolean)]) [0, 1, 2, 3, 4, 5, 7] rfl
  have hP : va_P (dC, dI) vwCl ([(h0, .inr (8, [.ref a1, .ref a2, .ref a3, .ref a4, .ref a5, .ref a6, .ref a7, .ref a8, .ref a9, .int j_faultKind, .int j_horseCount, .int j_tabletCount, .int j_riderCount, .int j_lineLength, .int j_hour])), (a1, .inr (7, [.ref b1, .int (nI ln)])), (b1, .inl (cs 0, 200, .inl a_b)), (q_1, .inr (4, [.ref a1, .ref t_3, .ref t_4, .int 0, .int 0, .int 0, .int 0, .int 0, .int 0, .int 0])), (t_3, .inr (5, [.ref n_5])), (n_5, .inl (cs 0, 6, .inl f_8)), (t_4, .inl (k_7, 6, .inl (fun _ => 0)))] ++ va_pl L f) H := hP
  have hD : va_D A ([(h0, .inr (8, [.ref a1, .ref a2, .ref a3, .ref a4, .ref a5, .ref a6, .ref a7, .ref a8, .ref a9, .int j_faultKind, .int j_horseCount, .int j_tabletCount, .int j_riderCount, .int j_lineLength, .int j_hour])), (a1, .inr (7, [.ref b1, .int (nI ln)])), (b1, .inl (cs 0, 200, .inl a_b)), (q_1, .inr (4, [.ref a1, .ref t_3, .ref t_4, .int 0, .int 0, .int 0, .int 0, .int 0, .int 0, .int 0])), (t_3, .inr (5, [.ref n_5])), (n_5, .inl (cs 0, 6, .inl f_8)), (t_4, .inl (k_7, 6, .inl (fun _ => 0)))] ++ va_pl L f) := hD
  obtain rfl : k_7 = cs 1 := ka_eqZ hK 1 6 rfl rfl
  have hK := hK.sub (tys' := tyC cs) [0, 1, 2, 3, 4, 5] rfl
  have hP : va_P (dC, dI) vwCl ([(h0, .inr (8, [.ref a1, .ref a2, .ref a3, .ref a4, .ref a5, .ref a6, .ref a7, .ref a8, .ref a9, .int j_faultKind, .int j_horseCount, .int j_tabletCount, .int j_riderCount, .int j_lineLength, .int j_hour])), (a1, .inr (7, [.ref b1, .int (nI ln)])), (b1, .inl (cs 0, 200, .inl a_b)), (q_1, .inr (4, [.ref a1, .ref t_3, .ref t_4, .int 0, .int 0, .int 0, .int 0, .int 0, .int 0, .int 0])), (t_3, .inr (5, [.ref n_5])), (n_5, .inl (cs 0, 6, .inl f_8)), (t_4, .inl (cs 1, 6, .inl (fun _ => 0)))] ++ va_pl L f) H := hP
  have hD : va_D A ([(h0, .inr (8, [.ref a1, .ref a2, .ref a3, .ref a4, .ref a5, .ref a6, .ref a7, .ref a8, .ref a9, .int j_faultKind, .int j_horseCount, .int j_tabletCount, .int j_riderCount, .int j_lineLength, .int j_hour])), (a1, .inr (7, [.ref b1, .int (nI ln)])), (b1, .inl (cs 0, 200, .inl a_b)), (q_1, .inr (4, [.ref a1, .ref t_3, .ref t_4, .int 0, .int 0, .int 0, .int 0, .int 0, .int 0, .int 0])), (t_3, .inr (5, [.ref n_5])), (n_5, .inl (cs 0, 6, .inl f_8)), (t_4, .inl (cs 1, 6, .inl (fun _ => 0)))] ++ va_pl L f) := hD
  refine lv_astore_n (lv' := [(1, .ref q_1), (0, .ref h0)]) hx hb dX8_statutes_11 rfl hl (by decide) rfl (fun ls hl => ?_)
  refine lv_aload_n hx hb dX8_statutes_12 rfl (lv_at hl 0 rfl) ?_
  have hPc := hP.part (cx := [(q_1, .inr (4, [.ref a1, .ref t_3, .ref t_4, .int 0, .int 0, .int 0, .int 0, .int 0, .int 0, .int 0])), (a1, .inr (7, [.ref b1, .int (nI ln)])), (b1, .inl (cs 0, 200, .inl a_b)), (t_3, .inr (5, [.ref n_5])), (n_5, .inl (cs 0, 6, .inl f_8)), (t_4, .inl (cs 1, 6, .inl (fun _ => 0)))]) [3, 1, 2, 4, 5, 6] rfl
  have hDc := hD.part (cx := [(q_1, .inr (4, [.ref a1, .ref t_3, .ref t_4, .int 0, .int 0, .int 0, .int 0, .int 0, .int 0, .int 0])), (a1, .inr (7, [.ref b1, .int (nI ln)])), (b1, .inl (cs 0, 200, .inl a_b)), (t_3, .inr (5, [.ref n_5])), (n_5, .inl (cs 0, 6, .inl f_8)), (t_4, .inl (cs 1, 6, .inl (fun _ => 0)))]) [3, 1, 2, 4, 5, 6] (by decide) rfl
  have hKc := hK
  have hFc := va_freeP (cx := [(q_1, .inr (4, [.ref a1, .ref t_3, .ref t_4, .int 0, .int 0, .int 0, .int 0, .int 0, .int 0, .int 0])), (a1, .inr (7, [.ref b1, .int (nI ln)])), (b1, .inl (cs 0, 200, .inl a_b)), (t_3, .inr (5, [.ref n_5])), (n_5, .inl (cs 0, 6, .inl f_8)), (t_4, .inl (cs 1, 6, .inl (fun _ => 0)))]) hD hS hA [3, 1, 2, 4, 5, 6] rfl
  refine va_callv (va_runV (As := []) (rest := []) ⟨hx, hb, hml, hown, hts⟩ (s_X4_readText l dC dI cs L ka ix ad n0 n6 n2 S f adK adV q_1 a1 t_3 t_4 0 0 0 0 0 0 0 b1 ln a_b n_5 f_8 (fun _ => 0) H.size hT hln hBt rfl rfl (fun _ _ => rfl) hf_x_9) (cwV 0 hts gX8_statutes_X4_readText rfl rfl rfl (by decide +kernel) ⟨Nat.le_of_ble_eq_true rfl, Nat.le_of_ble_eq_true rfl⟩) ⟨e_blind, va_recv hKc hPc (ci := 4) (q0 := 0) rfl rfl, e_pre hPc hKc hDc hN (hE.kept hS.2.1) hFc hR⟩ rfl rfl hl.1 rfl (lv_room (Nat.le_of_ble_eq_true rfl)) dX8_statutes_13 ⟨Nat.le_of_ble_eq_true rfl, Nat.le_of_ble_eq_true rfl⟩) hS (fun q _ h => hFc q h) hFc (fun u9 t9 H1 locs ht hvm hw hB hz1 hk1 hS => ?_)
  obtain ⟨y_ruleCount_11, y_faultKind_12, y_faultPlace_13, y_place_14, y_token_15, y_tokenPlace_16, y_value_17, f_n_18, f_t_19, hf_x_20, hP1, hK1, hD1⟩ := hB
  rw [ht] at hP1
  have hK1 := va_K.moved hvm.symm hK1
  obtain ⟨hP, hD⟩ := va_joinP (X := [(h0, .inr (8, [.ref a1, .ref a2, .ref a3, .ref a4, .ref a5, .ref a6, .ref a7, .ref a8, .ref a9, .int j_faultKind, .int j_horseCount, .int j_tabletCount, .int j_riderCount, .int j_lineLength, .int j_hour])), (a1, .inr (7, [.ref b1, .int (nI ln)])), (b1, .inl (cs 0, 200, .inl a_b)), (q_1, .inr (4, [.ref a1, .ref t_3, .ref t_4, .int 0, .int 0, .int 0, .int 0, .int 0, .int 0, .int 0])), (t_3, .inr (5, [.ref n_5])), (n_5, .inl (cs 0, 6, .inl f_8)), (t_4, .inl (cs 1, 6, .inl (fun _ => 0)))]) (cx := [(q_1, .inr (4, [.ref a1, .ref t_3, .ref t_4, .int 0, .int 0, .int 0, .int 0, .int 0, .int 0, .int 0])), (a1, .inr (7, [.ref b1, .int (nI ln)])), (b1, .inl (cs 0, 200, .inl a_b)), (t_3, .inr (5, [.ref n_5])), (n_5, .inl (cs 0, 6, .inl f_8)), (t_4, .inl (cs 1, 6, .inl (fun _ => 0)))]) (wr := [(h0, .inr (8, [.ref a1, .ref a2, .ref a3, .ref a4, .ref a5, .ref a6, .ref a7, .ref a8, .ref a9, .int j_faultKind, .int j_horseCount, .int j_tabletCount, .int j_riderCount, .int j_lineLength, .int j_hour]))]) (rx := [(q_1, .inr (4, [.ref a1, .ref t_3, .ref t_4, .int y_ruleCount_11, .int y_faultKind_12, .int y_faultPlace_13, .int y_place_14, .int y_token_15, .int y_tokenPlace_16, .int y_value_17])), (a1, .inr (7, [.ref b1, .int (nI ln)])), (b1, .inl (cs 0, 200, .inl a_b)), (t_3, .inr (5, [.ref n_5])), (n_5, .inl (cs 0, 6, .inl f_n_18)), (t_4, .inl (cs 1, 6, .inl f_t_19))]) (pl := va_pl L f) (pl1 := va_pl L f) hP hD [3, 1, 2, 4, 5, 6] [0] rfl rfl (by decide) (by decide) hk1 hFc hP1 hD1
  generalize H1 = H at hP hS ⊢
  have hP : va_P (dC, dI) vwCl ([(h0, .inr (8, [.ref a1, .ref a2, .ref a3, .ref a4, .ref a5, .ref a6, .ref a7, .ref a8, .ref a9, .int j_faultKind, .int j_horseCount, .int j_tabletCount, .int j_riderCount, .int j_lineLength, .int j_hour])), (q_1, .inr (4, [.ref a1, .ref t_3, .ref t_4, .int y_ruleCount_11, .int y_faultKind_12, .int y_faultPlace_13, .int y_place_14, .int y_token_15, .int y_tokenPlace_16, .int y_value_17])), (a1, .inr (7, [.ref b1, .int (nI ln)])), (b1, .inl (cs 0, 200, .inl a_b)), (t_3, .inr (5, [.ref n_5])), (n_5, .inl (cs 0, 6, .inl f_n_18)), (t_4, .inl (cs 1, 6, .inl f_t_19))] ++ va_pl L f) H := hP
  have hD : va_D A ([(h0, .inr (8, [.ref a1, .ref a2, .ref a3, .ref a4, .ref a5, .ref a6, .ref a7, .ref a8, .ref a9, .int j_faultKind, .int j_horseCount, .int j_tabletCount, .int j_riderCount, .int j_lineLength, .int j_hour])), (q_1, .inr (4, [.ref a1, .ref t_3, .ref t_4, .int y_ruleCount_11, .int y_faultKind_12, .int y_faultPlace_13, .int y_place_14, .int y_token_15, .int y_tokenPlace_16, .int y_value_17])), (a1, .inr (7, [.ref b1, .int (nI ln)])), (b1, .inl (cs 0, 200, .inl a_b)), (t_3, .inr (5, [.ref n_5])), (n_5, .inl (cs 0, 6, .inl f_n_18)), (t_4, .inl (cs 1, 6, .inl f_t_19))] ++ va_pl L f) := hD
  refine W.widen (k := 4) (n := 23) (Nat.le_of_ble_eq_true rfl) (Nat.le_of_ble_eq_true rfl) ?_
  refine lv_aload_n hx hb dX8_statutes_16 rfl (lv_at hl 1 rfl) ?_
  refine va_get (D := (dC, dI)) (ci := 8) (v := .ref a1) (C := RX8) (T := TX8) (N := 15) hx hb hts hin8 hown hK hP 0 rfl rfl 0 (by decide) (hts (.fieldLink RX8 10 "YamRiders" "tape" "LYamRiders$Tape;") (by decide +kernel)) (fun _ h9 => h9) rfl dX8_statutes_17 ?_
  refine lv_iconst (v := 0) hx hb dX8_statutes_20 (by decide) ?_
  refine va_putN (D := (dC, dI)) (ci := 7) (v := .int 0) (ty := (tyX7 1)) (C := RX7) (T := TX7) (N := 2) hx hb hts hin7 tyX7 tyX7_ok nmX7 hown hK hP hD hS 2 rfl rfl 1 (by decide) (hN.nx (.fieldLinkNest RX8 70 "YamRiders$Tape" "length" "I" "YamRiders") (by decide +kernel)) (fun _ h9 => h9) rfl (by decide +kernel) rfl rfl (Nat.le_of_ble_eq_true rfl) dX8_statutes_21 (fun H locs hP hD hS => ?_)
  have hP : va_P (dC, dI) vwCl ([(h0, .inr (8, [.ref a1, .ref a2, .ref a3, .ref a4, .ref a5, .ref a6, .ref a7, .ref a8, .ref a9, .int j_faultKind, .int j_horseCount, .int j_tabletCount, .int j_riderCount, .int j_lineLength, .int j_hour])), (q_1, .inr (4, [.ref a1, .ref t_3, .ref t_4, .int y_ruleCount_11, .int y_faultKind_12, .int y_faultPlace_13, .int y_place_14, .int y_token_15, .int y_tokenPlace_16, .int y_value_17])), (a1, .inr (7, [.ref b1, .int 0])), (b1, .inl (cs 0, 200, .inl a_b)), (t_3, .inr (5, [.ref n_5])), (n_5, .inl (cs 0, 6, .inl f_n_18)), (t_4, .inl (cs 1, 6, .inl f_t_19))] ++ va_pl L f) H := hP
  have hD : va_D A ([(h0, .inr (8, [.ref a1, .ref a2, .ref a3, .ref a4, .ref a5, .ref a6, .ref a7, .ref a8, .ref a9, .int j_faultKind, .int j_horseCount, .int j_tabletCount, .int j_riderCount, .int j_lineLength, .int j_hour])), (q_1, .inr (4, [.ref a1, .ref t_3, .ref t_4, .int y_ruleCount_11, .int y_faultKind_12, .int y_faultPlace_13, .int y_place_14, .int y_token_15, .int y_tokenPlace_16, .int y_value_17])), (a1, .inr (7, [.ref b1, .int 0])), (b1, .inl (cs 0, 200, .inl a_b)), (t_3, .inr (5, [.ref n_5])), (n_5, .inl (cs 0, 6, .inl f_n_18)), (t_4, .inl (cs 1, 6, .inl f_t_19))] ++ va_pl L f) := hD
  refine lv_aload_n hx hb dX8_statutes_24 rfl (lv_at hl 1 rfl) ?_
  refine lv_aload_n hx hb dX8_statutes_25 rfl (lv_at hl 0 rfl) ?_
  refine va_getN (D := (dC, dI)) (ci := 4) (v := .int y_faultKind_12) (C := RX4) (T := TX4) (N := 10) hx hb hts hin4 hown hK hP 1 rfl rfl 4 (by decide) (hN.nx (.fieldLinkNest RX8 82 "YamRiders$StatuteReader" "faultKind" "I" "YamRiders") (by decide +kernel)) (fun _ h9 => h9) rfl dX8_statutes_26 ?_
  refine va_put (D := (dC, dI)) (ci := 8) (v := .int y_faultKind_12) (ty := (tyX8 9)) (C := RX8) (T := TX8) (N := 15) hx hb hts hin8 tyX8 tyX8_ok nmX8 hown hK hP hD hS 0 rfl rfl 9 (by decide) (hts (.fieldLink RX8 85 "YamRiders" "faultKind" "I") (by decide +kernel)) (fun _ h9 => h9) rfl (by decide +kernel) rfl rfl (Nat.le_of_ble_eq_true rfl) dX8_statutes_29 (fun H locs hP hD hS => ?_)
  have hP : va_P (dC, dI) vwCl ([(h0, .inr (8, [.ref a1, .ref a2, .ref a3, .ref a4, .ref a5, .ref a6, .ref a7, .ref a8, .ref a9, .int y_faultKind_12, .int j_horseCount, .int j_tabletCount, .int j_riderCount, .int j_lineLength, .int j_hour])), (q_1, .inr (4, [.ref a1, .ref t_3, .ref t_4, .int y_ruleCount_11, .int y_faultKind_12, .int y_faultPlace_13, .int y_place_14, .int y_token_15, .int y_tokenPlace_16, .int y_value_17])), (a1, .inr (7, [.ref b1, .int 0])), (b1, .inl (cs 0, 200, .inl a_b)), (t_3, .inr (5, [.ref n_5])), (n_5, .inl (cs 0, 6, .inl f_n_18)), (t_4, .inl (cs 1, 6, .inl f_t_19))] ++ va_pl L f) H := hP
  have hD : va_D A ([(h0, .inr (8, [.ref a1, .ref a2, .ref a3, .ref a4, .ref a5, .ref a6, .ref a7, .ref a8, .ref a9, .int y_faultKind_12, .int j_horseCount, .int j_tabletCount, .int j_riderCount, .int j_lineLength, .int j_hour])), (q_1, .inr (4, [.ref a1, .ref t_3, .ref t_4, .int y_ruleCount_11, .int y_faultKind_12, .int y_faultPlace_13, .int y_place_14, .int y_token_15, .int y_tokenPlace_16, .int y_value_17])), (a1, .inr (7, [.ref b1, .int 0])), (b1, .inl (cs 0, 200, .inl a_b)), (t_3, .inr (5, [.ref n_5])), (n_5, .inl (cs 0, 6, .inl f_n_18)), (t_4, .inl (cs 1, 6, .inl f_t_19))] ++ va_pl L f) := hD
  refine lv_aload_n hx hb dX8_statutes_32 rfl (lv_at hl 1 rfl) ?_
  refine va_get (D := (dC, dI)) (ci := 8) (v := .int y_faultKind_12) (C := RX8) (T := TX8) (N := 15) hx hb hts hin8 hown hK hP 0 rfl rfl 9 (by decide) (hts (.fieldLink RX8 85 "YamRiders" "faultKind" "I") (by decide +kernel)) (fun _ h9 => h9) rfl dX8_statutes_33 ?_
  refine lv_if_eq (tgt := 46) hx hb dX8_statutes_36 (by decide) (fun c_21 => ?_) (fun c_21 => ?_)
  · have hP := hP.part (cx := ([(h0, .inr (8, [.ref a1, .ref a2, .ref a3, .ref a4, .ref a5, .ref a6, .ref a7, .ref a8, .ref a9, .int y_faultKind_12, .int j_horseCount, .int j_tabletCount, .int j_riderCount, .int j_lineLength, .int j_hour])), (q_1, .inr (4, [.ref a1, .ref t_3, .ref t_4, .int y_ruleCount_11, .int y_faultKind_12, .int y_faultPlace_13, .int y_place_14, .int y_token_15, .int y_tokenPlace_16, .int y_value_17])), (a1, .inr (7, [.ref b1, .int 0])), (b1, .inl (cs 0, 200, .inl a_b)), (t_4, .inl (cs 1, 6, .inl f_t_19))] ++ [(t_3, .inr (5, [.ref n_5]))]) ++ [(n_5, .inl (cs 0, 6, .inl f_n_18))]) [0, 1, 2, 3, 6, 4, 5] rfl
    have hD := hD.part (cx := ([(h0, .inr (8, [.ref a1, .ref a2, .ref a3, .ref a4, .ref a5, .ref a6, .ref a7, .ref a8, .ref a9, .int y_faultKind_12, .int j_horseCount, .int j_tabletCount, .int j_riderCount, .int j_lineLength, .int j_hour])), (q_1, .inr (4, [.ref a1, .ref t_3, .ref t_4, .int y_ruleCount_11, .int y_faultKind_12, .int y_faultPlace_13, .int y_place_14, .int y_token_15, .int y_tokenPlace_16, .int y_value_17])), (a1, .inr (7, [.ref b1, .int 0])), (b1, .inl (cs 0, 200, .inl a_b)), (t_4, .inl (cs 1, 6, .inl f_t_19))] ++ [(t_3, .inr (5, [.ref n_5]))]) ++ [(n_5, .inl (cs 0, 6, .inl f_n_18))]) [0, 1, 2, 3, 6, 4, 5] (by decide) rfl
    have hTo := hT
    obtain ⟨L_22, ka_23, ix_24, ad_25, f_26, j_27, S_28, hX_29, hT, hk_30, hk_31, hg_32, hc_33, hP, hD⟩ := e_push5 (X := [(h0, .inr (8, [.ref a1, .ref a2, .ref a3, .ref a4, .ref a5, .ref a6, .ref a7, .ref a8, .ref a9, .int y_faultKind_12, .int j_horseCount, .int j_tabletCount, .int j_riderCount, .int j_lineLength, .int j_hour])), (q_1, .inr (4, [.ref a1, .ref t_3, .ref t_4, .int y_ruleCount_11, .int y_faultKind_12, .int y_faultPlace_13, .int y_place_14, .int y_token_15, .int y_tokenPlace_16, .int y_value_17])), (a1, .inr (7, [.ref b1, .int 0])), (b1, .inl (cs 0, 200, .inl a_b)), (t_4, .inl (cs 1, 6, .inl f_t_19))]) (q := t_3) (q1 := n_5) hT hP hD
    have hFr_34 := FR.k FR.rf hc_33 (by decide) (by decide)
    have hl_35 := hX_29 _ _ _ hY.1
    have hl_36 := hX_29 _ _ _ hY.2.1
    have hl_37 := hX_29 _ _ _ hY.2.2.1
    have hl_38 := hX_29 _ _ _ hY.2.2.2.1
    have hl_39 := hX_29 _ _ _ hY.2.2.2.2.1
    have hl_40 := hX_29 _ _ _ hY.2.2.2.2.2.1
    have hl_41 := hX_29 _ _ _ hY.2.2.2.2.2.2.1
    have hl_42 := hX_29 _ _ _ hY.2.2.2.2.2.2.2.1
    have hl_43 := hX_29 _ _ _ hY.2.2.2.2.2.2.2.2
    have hY_44 := yX.up hX_29.x hT hY
    have hX_45 := hX_29.x
    have hP : va_P (dC, dI) vwCl ([(h0, .inr (8, [.ref a1, .ref a2, .ref a3, .ref a4, .ref a5, .ref a6, .ref a7, .ref a8, .ref a9, .int y_faultKind_12, .int j_horseCount, .int j_tabletCount, .int j_riderCount, .int j_lineLength, .int j_hour])), (q_1, .inr (4, [.ref a1, .ref t_3, .ref t_4, .int y_ruleCount_11, .int y_faultKind_12, .int y_faultPlace_13, .int y_place_14, .int y_token_15, .int y_tokenPlace_16, .int y_value_17])), (a1, .inr (7, [.ref b1, .int 0])), (b1, .inl (cs 0, 200, .inl a_b)), (t_4, .inl (cs 1, 6, .inl f_t_19))] ++ va_pl L_22 f_26) H := hP
    have hD : va_D A ([(h0, .inr (8, [.ref a1, .ref a2, .ref a3, .ref a4, .ref a5, .ref a6, .ref a7, .ref a8, .ref a9, .int y_faultKind_12, .int j_horseCount, .int j_tabletCount, .int j_riderCount, .int j_lineLength, .int j_hour])), (q_1, .inr (4, [.ref a1, .ref t_3, .ref t_4, .int y_ruleCount_11, .int y_faultKind_12, .int y_faultPlace_13, .int y_place_14, .int y_token_15, .int y_tokenPlace_16, .int y_value_17])), (a1, .inr (7, [.ref b1, .int 0])), (b1, .inl (cs 0, 200, .inl a_b)), (t_4, .inl (cs 1, 6, .inl f_t_19))] ++ va_pl L_22 f_26) := hD
    refine lv_aload_n hx hb dX8_statutes_46 rfl (lv_at hl 1 rfl) ?_
    refine lv_aload_n hx hb dX8_statutes_47 rfl (lv_at hl 0 rfl) ?_
    refine va_getN (D := (dC, dI)) (ci := 4) (v := .ref t_3) (C := RX4) (T := TX4) (N := 10) hx hb hts hin4 hown hK hP 1 rfl rfl 1 (by decide) (hN.nx (.fieldLinkNest RX8 89 "YamRiders$StatuteReader" "told" "LYamRiders$Statutes;" "YamRiders") (by decide +kernel)) (fun _ h9 => h9) rfl dX8_statutes_48 ?_
    refine va_put (D := (dC, dI)) (ci := 8) (v := .ref t_3) (ty := (tyX8 8)) (C := RX8) (T := TX8) (N := 15) hx hb hts hin8 tyX8 tyX8_ok nmX8 hown hK hP hD hS 0 rfl rfl 8 (by decide) (hts (.fieldLink RX8 58 "YamRiders" "law" "LYamRiders$Statutes;") (by decide +kernel)) (fun _ h9 => h9) rfl (by decide +kernel) rfl rfl (Nat.le_of_ble_eq_true rfl) dX8_statutes_51 (fun H locs hP hD hS => ?_)
    have hP : va_P (dC, dI) vwCl ([(h0, .inr (8, [.ref a1, .ref a2, .ref a3, .ref a4, .ref a5, .ref a6, .ref a7, .ref a8, .ref t_3, .int y_faultKind_12, .int j_horseCount, .int j_tabletCount, .int j_riderCount, .int j_lineLength, .int j_hour])), (q_1, .inr (4, [.ref a1, .ref t_3, .ref t_4, .int y_ruleCount_11, .int y_faultKind_12, .int y_faultPlace_13, .int y_place_14, .int y_token_15, .int y_tokenPlace_16, .int y_value_17])), (a1, .inr (7, [.ref b1, .int 0])), (b1, .inl (cs 0, 200, .inl a_b)), (t_4, .inl (cs 1, 6, .inl f_t_19))] ++ va_pl L_22 f_26) H := hP
    have hD : va_D A ([(h0, .inr (8, [.ref a1, .ref a2, .ref a3, .ref a4, .ref a5, .ref a6, .ref a7, .ref a8, .ref t_3, .int y_faultKind_12, .int j_horseCount, .int j_tabletCount, .int j_riderCount, .int j_lineLength, .int j_hour])), (q_1, .inr (4, [.ref a1, .ref t_3, .ref t_4, .int y_ruleCount_11, .int y_faultKind_12, .int y_faultPlace_13, .int y_place_14, .int y_token_15, .int y_tokenPlace_16, .int y_value_17])), (a1, .inr (7, [.ref b1, .int 0])), (b1, .inl (cs 0, 200, .inl a_b)), (t_4, .inl (cs 1, 6, .inl f_t_19))] ++ va_pl L_22 f_26) := hD
    refine lv_aload_n hx hb dX8_statutes_54 rfl (lv_at hl 0 rfl) ?_
    refine va_getN (D := (dC, dI)) (ci := 4) (v := .int y_ruleCount_11) (C := RX4) (T := TX4) (N := 10) hx hb hts hin4 hown hK hP 1 rfl rfl 3 (by decide) (hN.nx (.fieldLinkNest RX8 92 "YamRiders$StatuteReader" "ruleCount" "I" "YamRiders") (by decide +kernel)) (fun _ h9 => h9) rfl dX8_statutes_55 ?_
    have hP9 := hP.part (cx := [(h0, .inr (8, [.ref a1, .ref a2, .ref a3, .ref a4, .ref a5, .ref a6, .ref a7, .ref a8, .ref t_3, .int y_faultKind_12, .int j_horseCount, .int j_tabletCount, .int j_riderCount, .int j_lineLength, .int j_hour])), (a1, .inr (7, [.ref b1, .int 0])), (b1, .inl (cs 0, 200, .inl a_b))]) [0, 2, 3] rfl
    have hD9 := hD.part (cx := [(h0, .inr (8, [.ref a1, .ref a2, .ref a3, .ref a4, .ref a5, .ref a6, .ref a7, .ref a8, .ref t_3, .int y_faultKind_12, .int j_horseCount, .int j_tabletCount, .int j_riderCount, .int j_lineLength, .int j_hour])), (a1, .inr (7, [.ref b1, .int 0])), (b1, .inl (cs 0, 200, .inl a_b))]) [0, 2, 3] (by decide) rfl
    have hK9 := hK.sub (tys' := []) [] rfl
    refine W.widen (k := 4) (n := 23) (Nat.le_of_ble_eq_true rfl) (Nat.le_of_ble_eq_true rfl) ?_
    exact W.iret (v := y_ruleCount_11) hx hb hr (fun t9 ht hW => ⟨⟨_, (), rfl, trivial, L_22, ka_23, ix_24, ad_25, S_28, f_26, t_3, j_27, y_faultKind_12, f_n_18, hX_45, hT, hFr_34, ⟨hY_44.1, hY_44.2.1, hY_44.2.2.1, hY_44.2.2.2.1, hY_44.2.2.2.2.1, hY_44.2.2.2.2.2.1, hY_44.2.2.2.2.2.2.1, hk_30, hk_31⟩, hf_x_20, (Or.inl ⟨c_21, hg_32, hc_33⟩), by rw [ht]; exact hP9, va_K.moved hW.alike hK9, hD9⟩, hS.F ht⟩) hS.2.2 dX8_statutes_58
  · refine lv_iconst (v := (-1)) hx hb dX8_statutes_39 (by decide) ?_
    refine lv_aload_n hx hb dX8_statutes_40 rfl (lv_at hl 0 rfl) ?_
    refine va_getN (D := (dC, dI)) (ci := 4) (v := .int y_faultPlace_13) (C := RX4) (T := TX4) (N := 10) hx hb hts hin4 hown hK hP 1 rfl rfl 5 (by decide) (hN.nx (.fieldLinkNest RX8 86 "YamRiders$StatuteReader" "faultPlace" "I" "YamRiders") (by decide +kernel)) (fun _ h9 => h9) rfl dX8_statutes_41 ?_
    refine lv_isub hx hb dX8_statutes_44 ?_
    have hP9 := hP.part (cx := [(h0, .inr (8, [.ref a1, .ref a2, .ref a3, .ref a4, .ref a5, .ref a6, .ref a7, .ref a8, .ref a9, .int y_faultKind_12, .int j_horseCount, .int j_tabletCount, .int j_riderCount, .int j_lineLength, .int j_hour])), (a1, .inr (7, [.ref b1, .int 0])), (b1, .inl (cs 0, 200, .inl a_b))]) [0, 2, 3] rfl
    have hD9 := hD.part (cx := [(h0, .inr (8, [.ref a1, .ref a2, .ref a3, .ref a4, .ref a5, .ref a6, .ref a7, .ref a8, .ref a9, .int y_faultKind_12, .int j_horseCount, .int j_tabletCount, .int j_riderCount, .int j_lineLength, .int j_hour])), (a1, .inr (7, [.ref b1, .int 0])), (b1, .inl (cs 0, 200, .inl a_b))]) [0, 2, 3] (by decide) rfl
    have hK9 := hK.sub (tys' := []) [] rfl
    refine W.widen (k := 4) (n := 23) (Nat.le_of_ble_eq_true rfl) (Nat.le_of_ble_eq_true rfl) ?_
    exact W.iret (v := (-1) - y_faultPlace_13) hx hb hr (fun t9 ht hW => ⟨⟨_, (), rfl, trivial, L, ka, ix, ad, S, f, a9, gq, y_faultKind_12, f_n_18, (fun _ _ _ _ h => h), hT, FR.rf, hY, hf_x_20, (Or.inr ⟨c_21, rfl, rfl⟩), by rw [ht]; exact hP9, va_K.moved hW.alike hK9, hD9⟩, hS.F ht⟩) hS.2.2 dX8_statutes_45
