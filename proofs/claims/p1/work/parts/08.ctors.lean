set_option maxHeartbeats 4000000 in
set_option maxRecDepth 100000 in
theorem c_X7_init (l : Launch) (dC : Nat → ClassId) (dI : Nat → Nat → Nat) (h0 : Nat) (sz : Nat) : Met l yX7_init wsX7_init ({ frames := 1, cells := 1, slots := 200, locals := 20 }) (va_Pc [.ref h0] (cP dC dI [(h0, .inr (7, [.null, .int 0]))] [] sz)) (va_Qv (fun (_ : Unit) => True) (fun (_ : Unit) t9 => ∃ (b1 : Nat) (k1 : ClassId), cQ dC dI [(h0, .inr (7, [.ref b1, .int 0])), (b1, .inl (k1, 200, .inl (fun _ => 0)))] [(k1, .int)] (va_A [(h0, .inr (7, [.null, .int 0]))] sz) t9) (va_A [(h0, .inr (7, [.null, .int 0]))] sz)) 1 200 (va_A [(h0, .inr (7, [.null, .int 0]))] sz) := by
  refine Met.ofW (cc := cX7_init) (maxL := 1) (ret := none) (by decide) rfl ?_
  intro p e s m args below meth c s₁ B hml hv
  obtain ⟨rfl, hsz, hP, hK, hD0, hN⟩ := hv
  have hx := B.exec
  have hb := B.bytes
  have hr := B.returns
  have hts := atoms_spec (ws := wsX7_init) B.pre
  have hown : s.vm.findClass RX7 = some m.cls := findClass_of_methodNamed B.named
  have hlocks := B.notSynchronized
  have hin : meth.name = "<init>" := (name_of_methodNamed B.named B.method).1
  subst hsz
  have hin7 : ∀ w ∈ u_ws RX7 TX7 2, w ∈ wsX7_init := by decide +kernel
  have hD := hD0.self (sz := s.heap.size)
  generalize hAe : va_A [(h0, .inr (7, [.null, .int 0]))] s.heap.size = A at hD ⊢
  have hA : ∀ q : Nat, s.heap.size ≤ q → A q := fun q h => by rw [← hAe]; exact Or.inr h
  have hS : va_S A s.heap s.heap [] := va_S.rf
  have hP : va_P (dC, dI) vwCl [(h0, .inr (7, [.null, .int 0]))] s.heap := hP
  have hl := lv_entry ([.ref h0]) (n := 1) (Nat.le_of_ble_eq_true rfl)
  rw [lg_entry_eq]
  generalize (lg_sl ([.ref h0]) ++ List.replicate (1 - (lg_sl ([.ref h0])).length) Slot.unset).toArray = ls at hl ⊢
  have hl : lv_has ls 1 [(0, .ref h0)] := hl
  refine lv_aload_n hx hb dX7_init_0 rfl (lv_at hl 0 rfl) ?_
  refine W.objInit hx hb hown (hts (.methodLink RX7 3 objectInit) (by decide +kernel)) (hts (.instanceMethod objectInit) (by decide +kernel)) (hts (.code objectInit ⟨#[0xb1]⟩ 1 none) (by decide +kernel)) rfl (by rw [hml]; exact hl.1) rfl dX7_init_1 (Nat.le_of_ble_eq_true rfl) (Nat.le_of_ble_eq_true rfl) ?_
  refine W.eq (g2 := F0 m 4 ls []) rfl ?_
  refine lv_aload_n hx hb dX7_init_4 rfl (lv_at hl 0 rfl) ?_
  refine lv_sipush (v := 200) hx hb dX7_init_5 (by decide) ?_
  refine va_newa (atype := .int) (ty := .int) (a0 := (200, .inl (fun _ => 0))) (N' := 200) hx hb (hts (.arrayClass .int) (by decide +kernel)) rfl hK hP hD hS hA (fun _ => rfl) (by decide) (by decide) (by decide) (Nat.le_of_ble_eq_true rfl) (Nat.le_of_ble_eq_true rfl) dX7_init_8 (fun q_1 k_2 H hK hP hD hS => ?_)
  refine W.widen (k := 1) (n := 200) (Nat.le_of_ble_eq_true rfl) (Nat.le_of_ble_eq_true rfl) ?_
  have hK : va_K (dC, dI) vwCl [(k_2, .int)] s := hK
  have hP : va_P (dC, dI) vwCl [(h0, .inr (7, [.null, .int 0])), (q_1, .inl (k_2, 200, .inl (fun _ => 0)))] H := hP
  have hD : va_D A [(h0, .inr (7, [.null, .int 0])), (q_1, .inl (k_2, 200, .inl (fun _ => 0)))] := hD
  refine va_putF (D := (dC, dI)) (ci := 7) (v := .ref q_1) (ty := (tyX7 0)) (C := RX7) (T := TX7) (N := 2) hx hb hts hin7 tyX7 tyX7_ok nmX7 hown hK hP hD hS 0 rfl rfl 0 (by decide) (hts (.fieldLink RX7 9 "YamRiders$Tape" "bytes" "[I") (by decide +kernel)) (fun _ h9 => h9) rfl hin rfl (by decide +kernel) rfl rfl (Nat.le_of_ble_eq_true rfl) dX7_init_10 (fun H locs hP hD hS => ?_)
  have hP : va_P (dC, dI) vwCl [(h0, .inr (7, [.ref q_1, .int 0])), (q_1, .inl (k_2, 200, .inl (fun _ => 0)))] H := hP
  have hD : va_D A [(h0, .inr (7, [.ref q_1, .int 0])), (q_1, .inl (k_2, 200, .inl (fun _ => 0)))] := hD
  have hP9 := hP.sub (ws' := [(h0, .inr (7, [.ref q_1, .int 0])), (q_1, .inl (k_2, 200, .inl (fun _ => 0)))]) [0, 1] rfl
  have hD9 := hD.sub (ws' := [(h0, .inr (7, [.ref q_1, .int 0])), (q_1, .inl (k_2, 200, .inl (fun _ => 0)))]) [0, 1] (by decide) rfl
  have hK9 := hK.sub (tys' := [(k_2, .int)]) [0] rfl
  refine W.widen (k := 1) (n := 200) (Nat.le_of_ble_eq_true rfl) (Nat.le_of_ble_eq_true rfl) ?_
  exact W.vret hx hb hr (fun t9 ht hW => ⟨⟨(), rfl, trivial, q_1, k_2, by rw [ht]; exact hP9, va_K.moved hW.alike hK9, hD9⟩, hS.F ht⟩) hS.2.2 dX7_init_13

set_option maxHeartbeats 4000000 in
set_option maxRecDepth 100000 in
theorem c_X5_init (l : Launch) (dC : Nat → ClassId) (dI : Nat → Nat → Nat) (h0 : Nat) (sz : Nat) : Met l yX5_init wsX5_init ({ frames := 1, cells := 1, slots := 6, locals := 20 }) (va_Pc [.ref h0] (cP dC dI [(h0, .inr (5, [.null]))] [] sz)) (va_Qv (fun (_ : Unit) => True) (fun (_ : Unit) t9 => ∃ (b1 : Nat) (k1 : ClassId) (f1 : Nat → Int32), cQ dC dI [(h0, .inr (5, [.ref b1])), (b1, .inl (k1, 6, .inl f1))] [(k1, .int)] (va_A [(h0, .inr (5, [.null]))] sz) t9) (va_A [(h0, .inr (5, [.null]))] sz)) 1 6 (va_A [(h0, .inr (5, [.null]))] sz) := by
  refine Met.ofW (cc := cX5_init) (maxL := 1) (ret := none) (by decide) rfl ?_
  intro p e s m args below meth c s₁ B hml hv
  obtain ⟨rfl, hsz, hP, hK, hD0, hN⟩ := hv
  have hx := B.exec
  have hb := B.bytes
  have hr := B.returns
  have hts := atoms_spec (ws := wsX5_init) B.pre
  have hown : s.vm.findClass RX5 = some m.cls := findClass_of_methodNamed B.named
  have hlocks := B.notSynchronized
  have hin : meth.name = "<init>" := (name_of_methodNamed B.named B.method).1
  subst hsz
  have hin5 : ∀ w ∈ u_ws RX5 TX5 1, w ∈ wsX5_init := by decide +kernel
  have hD := hD0.self (sz := s.heap.size)
  generalize hAe : va_A [(h0, .inr (5, [.null]))] s.heap.size = A at hD ⊢
  have hA : ∀ q : Nat, s.heap.size ≤ q → A q := fun q h => by rw [← hAe]; exact Or.inr h
  have hS : va_S A s.heap s.heap [] := va_S.rf
  have hP : va_P (dC, dI) vwCl [(h0, .inr (5, [.null]))] s.heap := hP
  have hl := lv_entry ([.ref h0]) (n := 1) (Nat.le_of_ble_eq_true rfl)
  rw [lg_entry_eq]
  generalize (lg_sl ([.ref h0]) ++ List.replicate (1 - (lg_sl ([.ref h0])).length) Slot.unset).toArray = ls at hl ⊢
  have hl : lv_has ls 1 [(0, .ref h0)] := hl
  refine lv_aload_n hx hb dX5_init_0 rfl (lv_at hl 0 rfl) ?_
  refine W.objInit hx hb hown (hts (.methodLink RX5 5 objectInit) (by decide +kernel)) (hts (.instanceMethod objectInit) (by decide +kernel)) (hts (.code objectInit ⟨#[0xb1]⟩ 1 none) (by decide +kernel)) rfl (by rw [hml]; exact hl.1) rfl dX5_init_1 (Nat.le_of_ble_eq_true rfl) (Nat.le_of_ble_eq_true rfl) ?_
  refine W.eq (g2 := F0 m 4 ls []) rfl ?_
  refine lv_aload_n hx hb dX5_init_4 rfl (lv_at hl 0 rfl) ?_
  refine lv_bipush (v := 6) hx hb dX5_init_5 (by decide) ?_
  refine va_newa (atype := .int) (ty := .int) (a0 := (6, .inl (fun _ => 0))) (N' := 6) hx hb (hts (.arrayClass .int) (by decide +kernel)) rfl hK hP hD hS hA (fun _ => rfl) (by decide) (by decide) (by decide) (Nat.le_of_ble_eq_true rfl) (Nat.le_of_ble_eq_true rfl) dX5_init_7 (fun q_1 k_2 H hK hP hD hS => ?_)
  refine W.widen (k := 1) (n := 6) (Nat.le_of_ble_eq_true rfl) (Nat.le_of_ble_eq_true rfl) ?_
  have hK : va_K (dC, dI) vwCl [(k_2, .int)] s := hK
  have hP : va_P (dC, dI) vwCl [(h0, .inr (5, [.null])), (q_1, .inl (k_2, 6, .inl (fun _ => 0)))] H := hP
  have hD : va_D A [(h0, .inr (5, [.null])), (q_1, .inl (k_2, 6, .inl (fun _ => 0)))] := hD
  refine lv_dup hx hb dX5_init_9 rfl ?_
  refine lv_iconst (v := 0) hx hb dX5_init_10 (by decide) ?_
  refine lv_iconst (v := 2) hx hb dX5_init_11 (by decide) ?_
  refine va_iast hx hb hK hP hD hS 1 0 rfl rfl (by unfold vp_in; decide) dX5_init_12 (fun H locs hP hD hS => ?_)
  have hP : va_P (dC, dI) vwCl [(h0, .inr (5, [.null])), (q_1, .inl (k_2, 6, .inl (upd (fun _ => 0) (0 : Int32).toNatClampNeg 2)))] H := hP
  have hD : va_D A [(h0, .inr (5, [.null])), (q_1, .inl (k_2, 6, .inl (upd (fun _ => 0) (0 : Int32).toNatClampNeg 2)))] := hD
  obtain ⟨f_3, ef_3⟩ : ∃ w9 : Nat → Int32, w9 = upd (fun _ => 0) (0 : Int32).toNatClampNeg 2 := ⟨_, rfl⟩
  rw [← ef_3] at hP hD
  refine lv_dup hx hb dX5_init_13 rfl ?_
  refine lv_iconst (v := 1) hx hb dX5_init_14 (by decide) ?_
  refine lv_iconst (v := 3) hx hb dX5_init_15 (by decide) ?_
  refine va_iast hx hb hK hP hD hS 1 0 rfl rfl (by unfold vp_in; decide) dX5_init_16 (fun H locs hP hD hS => ?_)
  have hP : va_P (dC, dI) vwCl [(h0, .inr (5, [.null])), (q_1, .inl (k_2, 6, .inl (upd f_3 (1 : Int32).toNatClampNeg 3)))] H := hP
  have hD : va_D A [(h0, .inr (5, [.null])), (q_1, .inl (k_2, 6, .inl (upd f_3 (1 : Int32).toNatClampNeg 3)))] := hD
  obtain ⟨f_4, ef_4⟩ : ∃ w9 : Nat → Int32, w9 = upd f_3 (1 : Int32).toNatClampNeg 3 := ⟨_, rfl⟩
  rw [← ef_4] at hP hD
  refine lv_dup hx hb dX5_init_17 rfl ?_
  refine lv_iconst (v := 2) hx hb dX5_init_18 (by decide) ?_
  refine lv_iconst (v := 1) hx hb dX5_init_19 (by decide) ?_
  refine va_iast hx hb hK hP hD hS 1 0 rfl rfl (by unfold vp_in; decide) dX5_init_20 (fun H locs hP hD hS => ?_)
  have hP : va_P (dC, dI) vwCl [(h0, .inr (5, [.null])), (q_1, .inl (k_2, 6, .inl (upd f_4 (2 : Int32).toNatClampNeg 1)))] H := hP
  have hD : va_D A [(h0, .inr (5, [.null])), (q_1, .inl (k_2, 6, .inl (upd f_4 (2 : Int32).toNatClampNeg 1)))] := hD
  obtain ⟨f_5, ef_5⟩ : ∃ w9 : Nat → Int32, w9 = upd f_4 (2 : Int32).toNatClampNeg 1 := ⟨_, rfl⟩
  rw [← ef_5] at hP hD
  refine lv_dup hx hb dX5_init_21 rfl ?_
  refine lv_iconst (v := 3) hx hb dX5_init_22 (by decide) ?_
  refine lv_iconst (v := 0) hx hb dX5_init_23 (by decide) ?_
  refine va_iast hx hb hK hP hD hS 1 0 rfl rfl (by unfold vp_in; decide) dX5_init_24 (fun H locs hP hD hS => ?_)
  have hP : va_P (dC, dI) vwCl [(h0, .inr (5, [.null])), (q_1, .inl (k_2, 6, .inl (upd f_5 (3 : Int32).toNatClampNeg 0)))] H := hP
  have hD : va_D A [(h0, .inr (5, [.null])), (q_1, .inl (k_2, 6, .inl (upd f_5 (3 : Int32).toNatClampNeg 0)))] := hD
  obtain ⟨f_6, ef_6⟩ : ∃ w9 : Nat → Int32, w9 = upd f_5 (3 : Int32).toNatClampNeg 0 := ⟨_, rfl⟩
  rw [← ef_6] at hP hD
  refine lv_dup hx hb dX5_init_25 rfl ?_
  refine lv_iconst (v := 4) hx hb dX5_init_26 (by decide) ?_
  refine lv_iconst (v := 0) hx hb dX5_init_27 (by decide) ?_
  refine va_iast hx hb hK hP hD hS 1 0 rfl rfl (by unfold vp_in; decide) dX5_init_28 (fun H locs hP hD hS => ?_)
  have hP : va_P (dC, dI) vwCl [(h0, .inr (5, [.null])), (q_1, .inl (k_2, 6, .inl (upd f_6 (4 : Int32).toNatClampNeg 0)))] H := hP
  have hD : va_D A [(h0, .inr (5, [.null])), (q_1, .inl (k_2, 6, .inl (upd f_6 (4 : Int32).toNatClampNeg 0)))] := hD
  obtain ⟨f_7, ef_7⟩ : ∃ w9 : Nat → Int32, w9 = upd f_6 (4 : Int32).toNatClampNeg 0 := ⟨_, rfl⟩
  rw [← ef_7] at hP hD
  refine lv_dup hx hb dX5_init_29 rfl ?_
  refine lv_iconst (v := 5) hx hb dX5_init_30 (by decide) ?_
  refine lv_iconst (v := 0) hx hb dX5_init_31 (by decide) ?_
  refine va_iast hx hb hK hP hD hS 1 0 rfl rfl (by unfold vp_in; decide) dX5_init_32 (fun H locs hP hD hS => ?_)
  have hP : va_P (dC, dI) vwCl [(h0, .inr (5, [.null])), (q_1, .inl (k_2, 6, .inl (upd f_7 (5 : Int32).toNatClampNeg 0)))] H := hP
  have hD : va_D A [(h0, .inr (5, [.null])), (q_1, .inl (k_2, 6, .inl (upd f_7 (5 : Int32).toNatClampNeg 0)))] := hD
  obtain ⟨f_8, ef_8⟩ : ∃ w9 : Nat → Int32, w9 = upd f_7 (5 : Int32).toNatClampNeg 0 := ⟨_, rfl⟩
  rw [← ef_8] at hP hD
  refine va_putF (D := (dC, dI)) (ci := 5) (v := .ref q_1) (ty := (tyX5 0)) (C := RX5) (T := TX5) (N := 1) hx hb hts hin5 tyX5 tyX5_ok nmX5 hown hK hP hD hS 0 rfl rfl 0 (by decide) (hts (.fieldLink RX5 11 "YamRiders$Statutes" "numbers" "[I") (by decide +kernel)) (fun _ h9 => h9) rfl hin rfl (by decide +kernel) rfl rfl (Nat.le_of_ble_eq_true rfl) dX5_init_33 (fun H locs hP hD hS => ?_)
  have hP : va_P (dC, dI) vwCl [(h0, .inr (5, [.ref q_1])), (q_1, .inl (k_2, 6, .inl f_8))] H := hP
  have hD : va_D A [(h0, .inr (5, [.ref q_1])), (q_1, .inl (k_2, 6, .inl f_8))] := hD
  have hP9 := hP.sub (ws' := [(h0, .inr (5, [.ref q_1])), (q_1, .inl (k_2, 6, .inl f_8))]) [0, 1] rfl
  have hD9 := hD.sub (ws' := [(h0, .inr (5, [.ref q_1])), (q_1, .inl (k_2, 6, .inl f_8))]) [0, 1] (by decide) rfl
  have hK9 := hK.sub (tys' := [(k_2, .int)]) [0] rfl
  refine W.widen (k := 1) (n := 6) (Nat.le_of_ble_eq_true rfl) (Nat.le_of_ble_eq_true rfl) ?_
  exact W.vret hx hb hr (fun t9 ht hW => ⟨⟨(), rfl, trivial, q_1, k_2, f_8, by rw [ht]; exact hP9, va_K.moved hW.alike hK9, hD9⟩, hS.F ht⟩) hS.2.2 dX5_init_36

set_option maxHeartbeats 4000000 in
set_option maxRecDepth 100000 in
theorem c_X3_init (l : Launch) (dC : Nat → ClassId) (dI : Nat → Nat → Nat) (h0 : Nat) (sz : Nat) : Met l yX3_init wsX3_init ({ frames := 1, cells := 29, slots := 348, locals := 20 }) (va_Pc [.ref h0] (cP dC dI [(h0, .inr (3, [.null, .null, .null, .null, .null]))] [] sz)) (va_Qv (fun (_ : Unit) => True) (fun (_ : Unit) t9 => ∃ (b1 : Nat) (b2 : Nat) (b3 : Nat) (b4 : Nat) (b5 : Nat) (g1 : ClassId) (g2 : ClassId) (ky : ClassId) (kt : ClassId) (kz : ClassId) (kr : ClassId) (r1 : Nat → Nat) (r2 : Nat → Nat), cQ dC dI [(h0, .inr (3, [.ref b1, .ref b2, .ref b3, .ref b4, .ref b5])), (b1, .inl (g1, 12, .inr (.inr (.inr (.inr (fun i => if i < 12 then some (r1 i) else none)))))), (b2, .inl (g2, 12, .inr (.inr (.inr (.inr (fun i => if i < 12 then some (r2 i) else none)))))), (b3, .inl (kt, 12, .inl (fun _ => 0))), (b4, .inl (kz, 12, .inl (fun _ => 0))), (b5, .inl (kr, 12, .inl (fun _ => 0))), ((r1 0), .inl (ky, 12, .inl (fun _ => 0))), ((r1 1), .inl (ky, 12, .inl (fun _ => 0))), ((r1 2), .inl (ky, 12, .inl (fun _ => 0))), ((r1 3), .inl (ky, 12, .inl (fun _ => 0))), ((r1 4), .inl (ky, 12, .inl (fun _ => 0))), ((r1 5), .inl (ky, 12, .inl (fun _ => 0))), ((r1 6), .inl (ky, 12, .inl (fun _ => 0))), ((r1 7), .inl (ky, 12, .inl (fun _ => 0))), ((r1 8), .inl (ky, 12, .inl (fun _ => 0))), ((r1 9), .inl (ky, 12, .inl (fun _ => 0))), ((r1 10), .inl (ky, 12, .inl (fun _ => 0))), ((r1 11), .inl (ky, 12, .inl (fun _ => 0))), ((r2 0), .inl (ky, 12, .inl (fun _ => 0))), ((r2 1), .inl (ky, 12, .inl (fun _ => 0))), ((r2 2), .inl (ky, 12, .inl (fun _ => 0))), ((r2 3), .inl (ky, 12, .inl (fun _ => 0))), ((r2 4), .inl (ky, 12, .inl (fun _ => 0))), ((r2 5), .inl (ky, 12, .inl (fun _ => 0))), ((r2 6), .inl (ky, 12, .inl (fun _ => 0))), ((r2 7), .inl (ky, 12, .inl (fun _ => 0))), ((r2 8), .inl (ky, 12, .inl (fun _ => 0))), ((r2 9), .inl (ky, 12, .inl (fun _ => 0))), ((r2 10), .inl (ky, 12, .inl (fun _ => 0))), ((r2 11), .inl (ky, 12, .inl (fun _ => 0)))] [(g1, .array .int), (g2, .array .int), (ky, .int), (kt, .int), (kz, .boolean), (kr, .int)] (va_A [(h0, .inr (3, [.null, .null, .null, .null, .null]))] sz) t9) (va_A [(h0, .inr (3, [.null, .null, .null, .null, .null]))] sz)) 29 348 (va_A [(h0, .inr (3, [.null, .null, .null, .null, .null]))] sz) := by
  refine Met.ofW (cc := cX3_init) (maxL := 1) (ret := none) (by decide) rfl ?_
  intro p e s m args below meth c s₁ B hml hv
  obtain ⟨rfl, hsz, hP, hK, hD0, hN⟩ := hv
  have hx := B.exec
  have hb := B.bytes
  have hr := B.returns
  have hts := atoms_spec (ws := wsX3_init) B.pre
  have hown : s.vm.findClass RX3 = some m.cls := findClass_of_methodNamed B.named
  have hlocks := B.notSynchronized
  have hin : meth.name = "<init>" := (name_of_methodNamed B.named B.method).1
  subst hsz
  have hin3 : ∀ w ∈ u_ws RX3 TX3 5, w ∈ wsX3_init := by decide +kernel
  have hD := hD0.self (sz := s.heap.size)
  generalize hAe : va_A [(h0, .inr (3, [.null, .null, .null, .null, .null]))] s.heap.size = A at hD ⊢
  have hA : ∀ q : Nat, s.heap.size ≤ q → A q := fun q h => by rw [← hAe]; exact Or.inr h
  have hS : va_S A s.heap s.heap [] := va_S.rf
  have hP : va_P (dC, dI) vwCl [(h0, .inr (3, [.null, .null, .null, .null, .null]))] s.heap := hP
  have hl := lv_entry ([.ref h0]) (n := 1) (Nat.le_of_ble_eq_true rfl)
  rw [lg_entry_eq]
  generalize (lg_sl ([.ref h0]) ++ List.replicate (1 - (lg_sl ([.ref h0])).length) Slot.unset).toArray = ls at hl ⊢
  have hl : lv_has ls 1 [(0, .ref h0)] := hl
  refine lv_aload_n hx hb dX3_init_0 rfl (lv_at hl 0 rfl) ?_
  refine W.objInit hx hb hown (hts (.methodLink RX3 3 objectInit) (by decide +kernel)) (hts (.instanceMethod objectInit) (by decide +kernel)) (hts (.code objectInit ⟨#[0xb1]⟩ 1 none) (by decide +kernel)) rfl (by rw [hml]; exact hl.1) rfl dX3_init_1 (Nat.le_of_ble_eq_true rfl) (Nat.le_of_ble_eq_true rfl) ?_
  refine W.eq (g2 := F0 m 4 ls []) rfl ?_
  refine lv_aload_n hx hb dX3_init_4 rfl (lv_at hl 0 rfl) ?_
  refine lv_bipush (v := 12) hx hb dX3_init_5 (by decide) ?_
  refine lv_bipush (v := 12) hx hb dX3_init_7 (by decide) ?_
  obtain ⟨k_4, hcy, hK⟩ := ka_int (hts (.arrayClass .int) (by decide +kernel)) hK
  have hK : va_K (dC, dI) vwCl [(k_4, .int)] s := hK
  refine mna12 hx hb hown (hts (.classLink RX3 9 "[[I") (by decide +kernel)) hN.2.2.2.2 (hts (.arrayClass .int) (by decide +kernel)) hcy hK hP hD hS hA (Nat.le_of_ble_eq_true rfl) (Nat.le_of_ble_eq_true rfl) dX3_init_9 (fun q_1 r_2 k_3 H hK hP hD hS => ?_)
  refine W.widen (k := 13) (n := 156) (Nat.le_of_ble_eq_true rfl) (Nat.le_of_ble_eq_true rfl) ?_
  have hK : va_K (dC, dI) vwCl [(k_4, .int), (k_3, .array .int)] s := hK
  have hP : va_P (dC, dI) vwCl [(h0, .inr (3, [.null, .null, .null, .null, .null])), (q_1, .inl (k_3, 12, .inr (.inr (.inr (.inr (fun i => if i < 12 then some (r_2 i) else none)))))), ((r_2 0), .inl (k_4, 12, .inl (fun _ => 0))), ((r_2 1), .inl (k_4, 12, .inl (fun _ => 0))), ((r_2 2), .inl (k_4, 12, .inl (fun _ => 0))), ((r_2 3), .inl (k_4, 12, .inl (fun _ => 0))), ((r_2 4), .inl (k_4, 12, .inl (fun _ => 0))), ((r_2 5), .inl (k_4, 12, .inl (fun _ => 0))), ((r_2 6), .inl (k_4, 12, .inl (fun _ => 0))), ((r_2 7), .inl (k_4, 12, .inl (fun _ => 0))), ((r_2 8), .inl (k_4, 12, .inl (fun _ => 0))), ((r_2 9), .inl (k_4, 12, .inl (fun _ => 0))), ((r_2 10), .inl (k_4, 12, .inl (fun _ => 0))), ((r_2 11), .inl (k_4, 12, .inl (fun _ => 0)))] H := hP
  have hD : va_D A [(h0, .inr (3, [.null, .null, .null, .null, .null])), (q_1, .inl (k_3, 12, .inr (.inr (.inr (.inr (fun i => if i < 12 then some (r_2 i) else none)))))), ((r_2 0), .inl (k_4, 12, .inl (fun _ => 0))), ((r_2 1), .inl (k_4, 12, .inl (fun _ => 0))), ((r_2 2), .inl (k_4, 12, .inl (fun _ => 0))), ((r_2 3), .inl (k_4, 12, .inl (fun _ => 0))), ((r_2 4), .inl (k_4, 12, .inl (fun _ => 0))), ((r_2 5), .inl (k_4, 12, .inl (fun _ => 0))), ((r_2 6), .inl (k_4, 12, .inl (fun _ => 0))), ((r_2 7), .inl (k_4, 12, .inl (fun _ => 0))), ((r_2 8), .inl (k_4, 12, .inl (fun _ => 0))), ((r_2 9), .inl (k_4, 12, .inl (fun _ => 0))), ((r_2 10), .inl (k_4, 12, .inl (fun _ => 0))), ((r_2 11), .inl (k_4, 12, .inl (fun _ => 0)))] := hD
  refine va_putF (D := (dC, dI)) (ci := 3) (v := .ref q_1) (ty := (tyX3 0)) (C := RX3) (T := TX3) (N := 5) hx hb hts hin3 tyX3 tyX3_ok nmX3 hown hK hP hD hS 0 rfl rfl 0 (by decide) (hts (.fieldLink RX3 11 "YamRiders$Roads" "hoursOf" "[[I") (by decide +kernel)) (fun _ h9 => h9) rfl hin rfl (by decide +kernel) rfl rfl (Nat.le_of_ble_eq_true rfl) dX3_init_13 (fun H locs hP hD hS => ?_)
  have hP : va_P (dC, dI) vwCl [(h0, .inr (3, [.ref q_1, .null, .null, .null, .null])), (q_1, .inl (k_3, 12, .inr (.inr (.inr (.inr (fun i => if i < 12 then some (r_2 i) else none)))))), ((r_2 0), .inl (k_4, 12, .inl (fun _ => 0))), ((r_2 1), .inl (k_4, 12, .inl (fun _ => 0))), ((r_2 2), .inl (k_4, 12, .inl (fun _ => 0))), ((r_2 3), .inl (k_4, 12, .inl (fun _ => 0))), ((r_2 4), .inl (k_4, 12, .inl (fun _ => 0))), ((r_2 5), .inl (k_4, 12, .inl (fun _ => 0))), ((r_2 6), .inl (k_4, 12, .inl (fun _ => 0))), ((r_2 7), .inl (k_4, 12, .inl (fun _ => 0))), ((r_2 8), .inl (k_4, 12, .inl (fun _ => 0))), ((r_2 9), .inl (k_4, 12, .inl (fun _ => 0))), ((r_2 10), .inl (k_4, 12, .inl (fun _ => 0))), ((r_2 11), .inl (k_4, 12, .inl (fun _ => 0)))] H := hP
  have hD : va_D A [(h0, .inr (3, [.ref q_1, .null, .null, .null, .null])), (q_1, .inl (k_3, 12, .inr (.inr (.inr (.inr (fun i => if i < 12 then some (r_2 i) else none)))))), ((r_2 0), .inl (k_4, 12, .inl (fun _ => 0))), ((r_2 1), .inl (k_4, 12, .inl (fun _ => 0))), ((r_2 2), .inl (k_4, 12, .inl (fun _ => 0))), ((r_2 3), .inl (k_4, 12, .inl (fun _ => 0))), ((r_2 4), .inl (k_4, 12, .inl (fun _ => 0))), ((r_2 5), .inl (k_4, 12, .inl (fun _ => 0))), ((r_2 6), .inl (k_4, 12, .inl (fun _ => 0))), ((r_2 7), .inl (k_4, 12, .inl (fun _ => 0))), ((r_2 8), .inl (k_4, 12, .inl (fun _ => 0))), ((r_2 9), .inl (k_4, 12, .inl (fun _ => 0))), ((r_2 10), .inl (k_4, 12, .inl (fun _ => 0))), ((r_2 11), .inl (k_4, 12, .inl (fun _ => 0)))] := hD
  refine lv_aload_n hx hb dX3_init_16 rfl (lv_at hl 0 rfl) ?_
  refine lv_bipush (v := 12) hx hb dX3_init_17 (by decide) ?_
  refine lv_bipush (v := 12) hx hb dX3_init_19 (by decide) ?_
  refine mna12 hx hb hown (hts (.classLink RX3 9 "[[I") (by decide +kernel)) hN.2.2.2.2 (hts (.arrayClass .int) (by decide +kernel)) hcy hK hP hD hS hA (Nat.le_of_ble_eq_true rfl) (Nat.le_of_ble_eq_true rfl) dX3_init_21 (fun q_5 r_6 k_7 H hK hP hD hS => ?_)
  refine W.widen (k := 26) (n := 312) (Nat.le_of_ble_eq_true rfl) (Nat.le_of_ble_eq_true rfl) ?_
  have hK : va_K (dC, dI) vwCl [(k_4, .int), (k_3, .array .int), (k_7, .array .int)] s := hK
  have hP : va_P (dC, dI) vwCl [(h0, .inr (3, [.ref q_1, .null, .null, .null, .null])), (q_1, .inl (k_3, 12, .inr (.inr (.inr (.inr (fun i => if i < 12 then some (r_2 i) else none)))))), ((r_2 0), .inl (k_4, 12, .inl (fun _ => 0))), ((r_2 1), .inl (k_4, 12, .inl (fun _ => 0))), ((r_2 2), .inl (k_4, 12, .inl (fun _ => 0))), ((r_2 3), .inl (k_4, 12, .inl (fun _ => 0))), ((r_2 4), .inl (k_4, 12, .inl (fun _ => 0))), ((r_2 5), .inl (k_4, 12, .inl (fun _ => 0))), ((r_2 6), .inl (k_4, 12, .inl (fun _ => 0))), ((r_2 7), .inl (k_4, 12, .inl (fun _ => 0))), ((r_2 8), .inl (k_4, 12, .inl (fun _ => 0))), ((r_2 9), .inl (k_4, 12, .inl (fun _ => 0))), ((r_2 10), .inl (k_4, 12, .inl (fun _ => 0))), ((r_2 11), .inl (k_4, 12, .inl (fun _ => 0))), (q_5, .inl (k_7, 12, .inr (.inr (.inr (.inr (fun i => if i < 12 then some (r_6 i) else none)))))), ((r_6 0), .inl (k_4, 12, .inl (fun _ => 0))), ((r_6 1), .inl (k_4, 12, .inl (fun _ => 0))), ((r_6 2), .inl (k_4, 12, .inl (fun _ => 0))), ((r_6 3), .inl (k_4, 12, .inl (fun _ => 0))), ((r_6 4), .inl (k_4, 12, .inl (fun _ => 0))), ((r_6 5), .inl (k_4, 12, .inl (fun _ => 0))), ((r_6 6), .inl (k_4, 12, .inl (fun _ => 0))), ((r_6 7), .inl (k_4, 12, .inl (fun _ => 0))), ((r_6 8), .inl (k_4, 12, .inl (fun _ => 0))), ((r_6 9), .inl (k_4, 12, .inl (fun _ => 0))), ((r_6 10), .inl (k_4, 12, .inl (fun _ => 0))), ((r_6 11), .inl (k_4, 12, .inl (fun _ => 0)))] H := hP
  have hD : va_D A [(h0, .inr (3, [.ref q_1, .null, .null, .null, .null])), (q_1, .inl (k_3, 12, .inr (.inr (.inr (.inr (fun i => if i < 12 then some (r_2 i) else none)))))), ((r_2 0), .inl (k_4, 12, .inl (fun _ => 0))), ((r_2 1), .inl (k_4, 12, .inl (fun _ => 0))), ((r_2 2), .inl (k_4, 12, .inl (fun _ => 0))), ((r_2 3), .inl (k_4, 12, .inl (fun _ => 0))), ((r_2 4), .inl (k_4, 12, .inl (fun _ => 0))), ((r_2 5), .inl (k_4, 12, .inl (fun _ => 0))), ((r_2 6), .inl (k_4, 12, .inl (fun _ => 0))), ((r_2 7), .inl (k_4, 12, .inl (fun _ => 0))), ((r_2 8), .inl (k_4, 12, .inl (fun _ => 0))), ((r_2 9), .inl (k_4, 12, .inl (fun _ => 0))), ((r_2 10), .inl (k_4, 12, .inl (fun _ => 0))), ((r_2 11), .inl (k_4, 12, .inl (fun _ => 0))), (q_5, .inl (k_7, 12, .inr (.inr (.inr (.inr (fun i => if i < 12 then some (r_6 i) else none)))))), ((r_6 0), .inl (k_4, 12, .inl (fun _ => 0))), ((r_6 1), .inl (k_4, 12, .inl (fun _ => 0))), ((r_6 2), .inl (k_4, 12, .inl (fun _ => 0))), ((r_6 3), .inl (k_4, 12, .inl (fun _ => 0))), ((r_6 4), .inl (k_4, 12, .inl (fun _ => 0))), ((r_6 5), .inl (k_4, 12, .inl (fun _ => 0))), ((r_6 6), .inl (k_4, 12, .inl (fun _ => 0))), ((r_6 7), .inl (k_4, 12, .inl (fun _ => 0))), ((r_6 8), .inl (k_4, 12, .inl (fun _ => 0))), ((r_6 9), .inl (k_4, 12, .inl (fun _ => 0))), ((r_6 10), .inl (k_4, 12, .inl (fun _ => 0))), ((r_6 11), .inl (k_4, 12, .inl (fun _ => 0)))] := hD
  refine va_putF (D := (dC, dI)) (ci := 3) (v := .ref q_5) (ty := (tyX3 1)) (C := RX3) (T := TX3) (N := 5) hx hb hts hin3 tyX3 tyX3_ok nmX3 hown hK hP hD hS 0 rfl rfl 1 (by decide) (hts (.fieldLink RX3 16 "YamRiders$Roads" "snowOn" "[[I") (by decide +kernel)) (fun _ h9 => h9) rfl hin rfl (by decide +kernel) rfl rfl (Nat.le_of_ble_eq_true rfl) dX3_init_25 (fun H locs hP hD hS => ?_)
  have hP : va_P (dC, dI) vwCl [(h0, .inr (3, [.ref q_1, .ref q_5, .null, .null, .null])), (q_1, .inl (k_3, 12, .inr (.inr (.inr (.inr (fun i => if i < 12 then some (r_2 i) else none)))))), ((r_2 0), .inl (k_4, 12, .inl (fun _ => 0))), ((r_2 1), .inl (k_4, 12, .inl (fun _ => 0))), ((r_2 2), .inl (k_4, 12, .inl (fun _ => 0))), ((r_2 3), .inl (k_4, 12, .inl (fun _ => 0))), ((r_2 4), .inl (k_4, 12, .inl (fun _ => 0))), ((r_2 5), .inl (k_4, 12, .inl (fun _ => 0))), ((r_2 6), .inl (k_4, 12, .inl (fun _ => 0))), ((r_2 7), .inl (k_4, 12, .inl (fun _ => 0))), ((r_2 8), .inl (k_4, 12, .inl (fun _ => 0))), ((r_2 9), .inl (k_4, 12, .inl (fun _ => 0))), ((r_2 10), .inl (k_4, 12, .inl (fun _ => 0))), ((r_2 11), .inl (k_4, 12, .inl (fun _ => 0))), (q_5, .inl (k_7, 12, .inr (.inr (.inr (.inr (fun i => if i < 12 then some (r_6 i) else none)))))), ((r_6 0), .inl (k_4, 12, .inl (fun _ => 0))), ((r_6 1), .inl (k_4, 12, .inl (fun _ => 0))), ((r_6 2), .inl (k_4, 12, .inl (fun _ => 0))), ((r_6 3), .inl (k_4, 12, .inl (fun _ => 0))), ((r_6 4), .inl (k_4, 12, .inl (fun _ => 0))), ((r_6 5), .inl (k_4, 12, .inl (fun _ => 0))), ((r_6 6), .inl (k_4, 12, .inl (fun _ => 0))), ((r_6 7), .inl (k_4, 12, .inl (fun _ => 0))), ((r_6 8), .inl (k_4, 12, .inl (fun _ => 0))), ((r_6 9), .inl (k_4, 12, .inl (fun _ => 0))), ((r_6 10), .inl (k_4, 12, .inl (fun _ => 0))), ((r_6 11), .inl (k_4, 12, .inl (fun _ => 0)))] H := hP
  have hD : va_D A [(h0, .inr (3, [.ref q_1, .ref q_5, .null, .null, .null])), (q_1, .inl (k_3, 12, .inr (.inr (.inr (.inr (fun i => if i < 12 then some (r_2 i) else none)))))), ((r_2 0), .inl (k_4, 12, .inl (fun _ => 0))), ((r_2 1), .inl (k_4, 12, .inl (fun _ => 0))), ((r_2 2), .inl (k_4, 12, .inl (fun _ => 0))), ((r_2 3), .inl (k_4, 12, .inl (fun _ => 0))), ((r_2 4), .inl (k_4, 12, .inl (fun _ => 0))), ((r_2 5), .inl (k_4, 12, .inl (fun _ => 0))), ((r_2 6), .inl (k_4, 12, .inl (fun _ => 0))), ((r_2 7), .inl (k_4, 12, .inl (fun _ => 0))), ((r_2 8), .inl (k_4, 12, .inl (fun _ => 0))), ((r_2 9), .inl (k_4, 12, .inl (fun _ => 0))), ((r_2 10), .inl (k_4, 12, .inl (fun _ => 0))), ((r_2 11), .inl (k_4, 12, .inl (fun _ => 0))), (q_5, .inl (k_7, 12, .inr (.inr (.inr (.inr (fun i => if i < 12 then some (r_6 i) else none)))))), ((r_6 0), .inl (k_4, 12, .inl (fun _ => 0))), ((r_6 1), .inl (k_4, 12, .inl (fun _ => 0))), ((r_6 2), .inl (k_4, 12, .inl (fun _ => 0))), ((r_6 3), .inl (k_4, 12, .inl (fun _ => 0))), ((r_6 4), .inl (k_4, 12, .inl (fun _ => 0))), ((r_6 5), .inl (k_4, 12, .inl (fun _ => 0))), ((r_6 6), .inl (k_4, 12, .inl (fun _ => 0))), ((r_6 7), .inl (k_4, 12, .inl (fun _ => 0))), ((r_6 8), .inl (k_4, 12, .inl (fun _ => 0))), ((r_6 9), .inl (k_4, 12, .inl (fun _ => 0))), ((r_6 10), .inl (k_4, 12, .inl (fun _ => 0))), ((r_6 11), .inl (k_4, 12, .inl (fun _ => 0)))] := hD
  refine lv_aload_n hx hb dX3_init_28 rfl (lv_at hl 0 rfl) ?_
  refine lv_bipush (v := 12) hx hb dX3_init_29 (by decide) ?_
  refine va_newa (atype := .int) (ty := .int) (a0 := (12, .inl (fun _ => 0))) (N' := 12) hx hb (hts (.arrayClass .int) (by decide +kernel)) rfl hK hP hD hS hA (fun _ => rfl) (by decide) (by decide) (by decide) (Nat.le_of_ble_eq_true rfl) (Nat.le_of_ble_eq_true rfl) dX3_init_31 (fun q_8 k_9 H hK hP hD hS => ?_)
  refine W.widen (k := 27) (n := 324) (Nat.le_of_ble_eq_true rfl) (Nat.le_of_ble_eq_true rfl) ?_
  have hK : va_K (dC, dI) vwCl [(k_4, .int), (k_3, .array .int), (k_7, .array .int), (k_9, .int)] s := hK
  have hP : va_P (dC, dI) vwCl [(h0, .inr (3, [.ref q_1, .ref q_5, .null, .null, .null])), (q_1, .inl (k_3, 12, .inr (.inr (.inr (.inr (fun i => if i < 12 then some (r_2 i) else none)))))), ((r_2 0), .inl (k_4, 12, .inl (fun _ => 0))), ((r_2 1), .inl (k_4, 12, .inl (fun _ => 0))), ((r_2 2), .inl (k_4, 12, .inl (fun _ => 0))), ((r_2 3), .inl (k_4, 12, .inl (fun _ => 0))), ((r_2 4), .inl (k_4, 12, .inl (fun _ => 0))), ((r_2 5), .inl (k_4, 12, .inl (fun _ => 0))), ((r_2 6), .inl (k_4, 12, .inl (fun _ => 0))), ((r_2 7), .inl (k_4, 12, .inl (fun _ => 0))), ((r_2 8), .inl (k_4, 12, .inl (fun _ => 0))), ((r_2 9), .inl (k_4, 12, .inl (fun _ => 0))), ((r_2 10), .inl (k_4, 12, .inl (fun _ => 0))), ((r_2 11), .inl (k_4, 12, .inl (fun _ => 0))), (q_5, .inl (k_7, 12, .inr (.inr (.inr (.inr (fun i => if i < 12 then some (r_6 i) else none)))))), ((r_6 0), .inl (k_4, 12, .inl (fun _ => 0))), ((r_6 1), .inl (k_4, 12, .inl (fun _ => 0))), ((r_6 2), .inl (k_4, 12, .inl (fun _ => 0))), ((r_6 3), .inl (k_4, 12, .inl (fun _ => 0))), ((r_6 4), .inl (k_4, 12, .inl (fun _ => 0))), ((r_6 5), .inl (k_4, 12, .inl (fun _ => 0))), ((r_6 6), .inl (k_4, 12, .inl (fun _ => 0))), ((r_6 7), .inl (k_4, 12, .inl (fun _ => 0))), ((r_6 8), .inl (k_4, 12, .inl (fun _ => 0))), ((r_6 9), .inl (k_4, 12, .inl (fun _ => 0))), ((r_6 10), .inl (k_4, 12, .inl (fun _ => 0))), ((r_6 11), .inl (k_4, 12, .inl (fun _ => 0))), (q_8, .inl (k_9, 12, .inl (fun _ => 0)))] H := hP
  have hD : va_D A [(h0, .inr (3, [.ref q_1, .ref q_5, .null, .null, .null])), (q_1, .inl (k_3, 12, .inr (.inr (.inr (.inr (fun i => if i < 12 then some (r_2 i) else none)))))), ((r_2 0), .inl (k_4, 12, .inl (fun _ => 0))), ((r_2 1), .inl (k_4, 12, .inl (fun _ => 0))), ((r_2 2), .inl (k_4, 12, .inl (fun _ => 0))), ((r_2 3), .inl (k_4, 12, .inl (fun _ => 0))), ((r_2 4), .inl (k_4, 12, .inl (fun _ => 0))), ((r_2 5), .inl (k_4, 12, .inl (fun _ => 0))), ((r_2 6), .inl (k_4, 12, .inl (fun _ => 0))), ((r_2 7), .inl (k_4, 12, .inl (fun _ => 0))), ((r_2 8), .inl (k_4, 12, .inl (fun _ => 0))), ((r_2 9), .inl (k_4, 12, .inl (fun _ => 0))), ((r_2 10), .inl (k_4, 12, .inl (fun _ => 0))), ((r_2 11), .inl (k_4, 12, .inl (fun _ => 0))), (q_5, .inl (k_7, 12, .inr (.inr (.inr (.inr (fun i => if i < 12 then some (r_6 i) else none)))))), ((r_6 0), .inl (k_4, 12, .inl (fun _ => 0))), ((r_6 1), .inl (k_4, 12, .inl (fun _ => 0))), ((r_6 2), .inl (k_4, 12, .inl (fun _ => 0))), ((r_6 3), .inl (k_4, 12, .inl (fun _ => 0))), ((r_6 4), .inl (k_4, 12, .inl (fun _ => 0))), ((r_6 5), .inl (k_4, 12, .inl (fun _ => 0))), ((r_6 6), .inl (k_4, 12, .inl (fun _ => 0))), ((r_6 7), .inl (k_4, 12, .inl (fun _ => 0))), ((r_6 8), .inl (k_4, 12, .inl (fun _ => 0))), ((r_6 9), .inl (k_4, 12, .inl (fun _ => 0))), ((r_6 10), .inl (k_4, 12, .inl (fun _ => 0))), ((r_6 11), .inl (k_4, 12, .inl (fun _ => 0))), (q_8, .inl (k_9, 12, .inl (fun _ => 0)))] := hD
  refine va_putF (D := (dC, dI)) (ci := 3) (v := .ref q_8) (ty := (tyX3 2)) (C := RX3) (T := TX3) (N := 5) hx hb hts hin3 tyX3 tyX3_ok nmX3 hown hK hP hD hS 0 rfl rfl 2 (by decide) (hts (.fieldLink RX3 19 "YamRiders$Roads" "toGoal" "[I") (by decide +kernel)) (fun _ h9 => h9) rfl hin rfl (by decide +kernel) rfl rfl (Nat.le_of_ble_eq_true rfl) dX3_init_33 (fun H locs hP hD hS => ?_)
  have hP : va_P (dC, dI) vwCl [(h0, .inr (3, [.ref q_1, .ref q_5, .ref q_8, .null, .null])), (q_1, .inl (k_3, 12, .inr (.inr (.inr (.inr (fun i => if i < 12 then some (r_2 i) else none)))))), ((r_2 0), .inl (k_4, 12, .inl (fun _ => 0))), ((r_2 1), .inl (k_4, 12, .inl (fun _ => 0))), ((r_2 2), .inl (k_4, 12, .inl (fun _ => 0))), ((r_2 3), .inl (k_4, 12, .inl (fun _ => 0))), ((r_2 4), .inl (k_4, 12, .inl (fun _ => 0))), ((r_2 5), .inl (k_4, 12, .inl (fun _ => 0))), ((r_2 6), .inl (k_4, 12, .inl (fun _ => 0))), ((r_2 7), .inl (k_4, 12, .inl (fun _ => 0))), ((r_2 8), .inl (k_4, 12, .inl (fun _ => 0))), ((r_2 9), .inl (k_4, 12, .inl (fun _ => 0))), ((r_2 10), .inl (k_4, 12, .inl (fun _ => 0))), ((r_2 11), .inl (k_4, 12, .inl (fun _ => 0))), (q_5, .inl (k_7, 12, .inr (.inr (.inr (.inr (fun i => if i < 12 then some (r_6 i) else none)))))), ((r_6 0), .inl (k_4, 12, .inl (fun _ => 0))), ((r_6 1), .inl (k_4, 12, .inl (fun _ => 0))), ((r_6 2), .inl (k_4, 12, .inl (fun _ => 0))), ((r_6 3), .inl (k_4, 12, .inl (fun _ => 0))), ((r_6 4), .inl (k_4, 12, .inl (fun _ => 0))), ((r_6 5), .inl (k_4, 12, .inl (fun _ => 0))), ((r_6 6), .inl (k_4, 12, .inl (fun _ => 0))), ((r_6 7), .inl (k_4, 12, .inl (fun _ => 0))), ((r_6 8), .inl (k_4, 12, .inl (fun _ => 0))), ((r_6 9), .inl (k_4, 12, .inl (fun _ => 0))), ((r_6 10), .inl (k_4, 12, .inl (fun _ => 0))), ((r_6 11), .inl (k_4, 12, .inl (fun _ => 0))), (q_8, .inl (k_9, 12, .inl (fun _ => 0)))] H := hP
  have hD : va_D A [(h0, .inr (3, [.ref q_1, .ref q_5, .ref q_8, .null, .null])), (q_1, .inl (k_3, 12, .inr (.inr (.inr (.inr (fun i => if i < 12 then some (r_2 i) else none)))))), ((r_2 0), .inl (k_4, 12, .inl (fun _ => 0))), ((r_2 1), .inl (k_4, 12, .inl (fun _ => 0))), ((r_2 2), .inl (k_4, 12, .inl (fun _ => 0))), ((r_2 3), .inl (k_4, 12, .inl (fun _ => 0))), ((r_2 4), .inl (k_4, 12, .inl (fun _ => 0))), ((r_2 5), .inl (k_4, 12, .inl (fun _ => 0))), ((r_2 6), .inl (k_4, 12, .inl (fun _ => 0))), ((r_2 7), .inl (k_4, 12, .inl (fun _ => 0))), ((r_2 8), .inl (k_4, 12, .inl (fun _ => 0))), ((r_2 9), .inl (k_4, 12, .inl (fun _ => 0))), ((r_2 10), .inl (k_4, 12, .inl (fun _ => 0))), ((r_2 11), .inl (k_4, 12, .inl (fun _ => 0))), (q_5, .inl (k_7, 12, .inr (.inr (.inr (.inr (fun i => if i < 12 then some (r_6 i) else none)))))), ((r_6 0), .inl (k_4, 12, .inl (fun _ => 0))), ((r_6 1), .inl (k_4, 12, .inl (fun _ => 0))), ((r_6 2), .inl (k_4, 12, .inl (fun _ => 0))), ((r_6 3), .inl (k_4, 12, .inl (fun _ => 0))), ((r_6 4), .inl (k_4, 12, .inl (fun _ => 0))), ((r_6 5), .inl (k_4, 12, .inl (fun _ => 0))), ((r_6 6), .inl (k_4, 12, .inl (fun _ => 0))), ((r_6 7), .inl (k_4, 12, .inl (fun _ => 0))), ((r_6 8), .inl (k_4, 12, .inl (fun _ => 0))), ((r_6 9), .inl (k_4, 12, .inl (fun _ => 0))), ((r_6 10), .inl (k_4, 12, .inl (fun _ => 0))), ((r_6 11), .inl (k_4, 12, .inl (fun _ => 0))), (q_8, .inl (k_9, 12, .inl (fun _ => 0)))] := hD
  refine lv_aload_n hx hb dX3_init_36 rfl (lv_at hl 0 rfl) ?_
  refine lv_bipush (v := 12) hx hb dX3_init_37 (by decide) ?_
  refine va_newa (atype := .boolean) (ty := .boolean) (a0 := (12, .inl (fun _ => 0))) (N' := 12) hx hb (hts (.arrayClass .boolean) (by decide +kernel)) rfl hK hP hD hS hA (fun _ => rfl) (by decide) (by decide) (by decide) (Nat.le_of_ble_eq_true rfl) (Nat.le_of_ble_eq_true rfl) dX3_init_39 (fun q_10 k_11 H hK hP hD hS => ?_)
  refine W.widen (k := 28) (n := 336) (Nat.le_of_ble_eq_true rfl) (Nat.le_of_ble_eq_true rfl) ?_
  have hK : va_K (dC, dI) vwCl [(k_4, .int), (k_3, .array .int), (k_7, .array .int), (k_9, .int), (k_11, .boolean)] s := hK
  have hP : va_P (dC, dI) vwCl [(h0, .inr (3, [.ref q_1, .ref q_5, .ref q_8, .null, .null])), (q_1, .inl (k_3, 12, .inr (.inr (.inr (.inr (fun i => if i < 12 then some (r_2 i) else none)))))), ((r_2 0), .inl (k_4, 12, .inl (fun _ => 0))), ((r_2 1), .inl (k_4, 12, .inl (fun _ => 0))), ((r_2 2), .inl (k_4, 12, .inl (fun _ => 0))), ((r_2 3), .inl (k_4, 12, .inl (fun _ => 0))), ((r_2 4), .inl (k_4, 12, .inl (fun _ => 0))), ((r_2 5), .inl (k_4, 12, .inl (fun _ => 0))), ((r_2 6), .inl (k_4, 12, .inl (fun _ => 0))), ((r_2 7), .inl (k_4, 12, .inl (fun _ => 0))), ((r_2 8), .inl (k_4, 12, .inl (fun _ => 0))), ((r_2 9), .inl (k_4, 12, .inl (fun _ => 0))), ((r_2 10), .inl (k_4, 12, .inl (fun _ => 0))), ((r_2 11), .inl (k_4, 12, .inl (fun _ => 0))), (q_5, .inl (k_7, 12, .inr (.inr (.inr (.inr (fun i => if i < 12 then some (r_6 i) else none)))))), ((r_6 0), .inl (k_4, 12, .inl (fun _ => 0))), ((r_6 1), .inl (k_4, 12, .inl (fun _ => 0))), ((r_6 2), .inl (k_4, 12, .inl (fun _ => 0))), ((r_6 3), .inl (k_4, 12, .inl (fun _ => 0))), ((r_6 4), .inl (k_4, 12, .inl (fun _ => 0))), ((r_6 5), .inl (k_4, 12, .inl (fun _ => 0))), ((r_6 6), .inl (k_4, 12, .inl (fun _ => 0))), ((r_6 7), .inl (k_4, 12, .inl (fun _ => 0))), ((r_6 8), .inl (k_4, 12, .inl (fun _ => 0))), ((r_6 9), .inl (k_4, 12, .inl (fun _ => 0))), ((r_6 10), .inl (k_4, 12, .inl (fun _ => 0))), ((r_6 11), .inl (k_4, 12, .inl (fun _ => 0))), (q_8, .inl (k_9, 12, .inl (fun _ => 0))), (q_10, .inl (k_11, 12, .inl (fun _ => 0)))] H := hP
  have hD : va_D A [(h0, .inr (3, [.ref q_1, .ref q_5, .ref q_8, .null, .null])), (q_1, .inl (k_3, 12, .inr (.inr (.inr (.inr (fun i => if i < 12 then some (r_2 i) else none)))))), ((r_2 0), .inl (k_4, 12, .inl (fun _ => 0))), ((r_2 1), .inl (k_4, 12, .inl (fun _ => 0))), ((r_2 2), .inl (k_4, 12, .inl (fun _ => 0))), ((r_2 3), .inl (k_4, 12, .inl (fun _ => 0))), ((r_2 4), .inl (k_4, 12, .inl (fun _ => 0))), ((r_2 5), .inl (k_4, 12, .inl (fun _ => 0))), ((r_2 6), .inl (k_4, 12, .inl (fun _ => 0))), ((r_2 7), .inl (k_4, 12, .inl (fun _ => 0))), ((r_2 8), .inl (k_4, 12, .inl (fun _ => 0))), ((r_2 9), .inl (k_4, 12, .inl (fun _ => 0))), ((r_2 10), .inl (k_4, 12, .inl (fun _ => 0))), ((r_2 11), .inl (k_4, 12, .inl (fun _ => 0))), (q_5, .inl (k_7, 12, .inr (.inr (.inr (.inr (fun i => if i < 12 then some (r_6 i) else none)))))), ((r_6 0), .inl (k_4, 12, .inl (fun _ => 0))), ((r_6 1), .inl (k_4, 12, .inl (fun _ => 0))), ((r_6 2), .inl (k_4, 12, .inl (fun _ => 0))), ((r_6 3), .inl (k_4, 12, .inl (fun _ => 0))), ((r_6 4), .inl (k_4, 12, .inl (fun _ => 0))), ((r_6 5), .inl (k_4, 12, .inl (fun _ => 0))), ((r_6 6), .inl (k_4, 12, .inl (fun _ => 0))), ((r_6 7), .inl (k_4, 12, .inl (fun _ => 0))), ((r_6 8), .inl (k_4, 12, .inl (fun _ => 0))), ((r_6 9), .inl (k_4, 12, .inl (fun _ => 0))), ((r_6 10), .inl (k_4, 12, .inl (fun _ => 0))), ((r_6 11), .inl (k_4, 12, .inl (fun _ => 0))), (q_8, .inl (k_9, 12, .inl (fun _ => 0))), (q_10, .inl (k_11, 12, .inl (fun _ => 0)))] := hD
  refine va_putF (D := (dC, dI)) (ci := 3) (v := .ref q_10) (ty := (tyX3 3)) (C := RX3) (T := TX3) (N := 5) hx hb hts hin3 tyX3 tyX3_ok nmX3 hown hK hP hD hS 0 rfl rfl 3 (by decide) (hts (.fieldLink RX3 23 "YamRiders$Roads" "settled" "[Z") (by decide +kernel)) (fun _ h9 => h9) rfl hin rfl (by decide +kernel) rfl rfl (Nat.le_of_ble_eq_true rfl) dX3_init_41 (fun H locs hP hD hS => ?_)
  have hP : va_P (dC, dI) vwCl [(h0, .inr (3, [.ref q_1, .ref q_5, .ref q_8, .ref q_10, .null])), (q_1, .inl (k_3, 12, .inr (.inr (.inr (.inr (fun i => if i < 12 then some (r_2 i) else none)))))), ((r_2 0), .inl (k_4, 12, .inl (fun _ => 0))), ((r_2 1), .inl (k_4, 12, .inl (fun _ => 0))), ((r_2 2), .inl (k_4, 12, .inl (fun _ => 0))), ((r_2 3), .inl (k_4, 12, .inl (fun _ => 0))), ((r_2 4), .inl (k_4, 12, .inl (fun _ => 0))), ((r_2 5), .inl (k_4, 12, .inl (fun _ => 0))), ((r_2 6), .inl (k_4, 12, .inl (fun _ => 0))), ((r_2 7), .inl (k_4, 12, .inl (fun _ => 0))), ((r_2 8), .inl (k_4, 12, .inl (fun _ => 0))), ((r_2 9), .inl (k_4, 12, .inl (fun _ => 0))), ((r_2 10), .inl (k_4, 12, .inl (fun _ => 0))), ((r_2 11), .inl (k_4, 12, .inl (fun _ => 0))), (q_5, .inl (k_7, 12, .inr (.inr (.inr (.inr (fun i => if i < 12 then some (r_6 i) else none)))))), ((r_6 0), .inl (k_4, 12, .inl (fun _ => 0))), ((r_6 1), .inl (k_4, 12, .inl (fun _ => 0))), ((r_6 2), .inl (k_4, 12, .inl (fun _ => 0))), ((r_6 3), .inl (k_4, 12, .inl (fun _ => 0))), ((r_6 4), .inl (k_4, 12, .inl (fun _ => 0))), ((r_6 5), .inl (k_4, 12, .inl (fun _ => 0))), ((r_6 6), .inl (k_4, 12, .inl (fun _ => 0))), ((r_6 7), .inl (k_4, 12, .inl (fun _ => 0))), ((r_6 8), .inl (k_4, 12, .inl (fun _ => 0))), ((r_6 9), .inl (k_4, 12, .inl (fun _ => 0))), ((r_6 10), .inl (k_4, 12, .inl (fun _ => 0))), ((r_6 11), .inl (k_4, 12, .inl (fun _ => 0))), (q_8, .inl (k_9, 12, .inl (fun _ => 0))), (q_10, .inl (k_11, 12, .inl (fun _ => 0)))] H := hP
  have hD : va_D A [(h0, .inr (3, [.ref q_1, .ref q_5, .ref q_8, .ref q_10, .null])), (q_1, .inl (k_3, 12, .inr (.inr (.inr (.inr (fun i => if i < 12 then some (r_2 i) else none)))))), ((r_2 0), .inl (k_4, 12, .inl (fun _ => 0))), ((r_2 1), .inl (k_4, 12, .inl (fun _ => 0))), ((r_2 2), .inl (k_4, 12, .inl (fun _ => 0))), ((r_2 3), .inl (k_4, 12, .inl (fun _ => 0))), ((r_2 4), .inl (k_4, 12, .inl (fun _ => 0))), ((r_2 5), .inl (k_4, 12, .inl (fun _ => 0))), ((r_2 6), .inl (k_4, 12, .inl (fun _ => 0))), ((r_2 7), .inl (k_4, 12, .inl (fun _ => 0))), ((r_2 8), .inl (k_4, 12, .inl (fun _ => 0))), ((r_2 9), .inl (k_4, 12, .inl (fun _ => 0))), ((r_2 10), .inl (k_4, 12, .inl (fun _ => 0))), ((r_2 11), .inl (k_4, 12, .inl (fun _ => 0))), (q_5, .inl (k_7, 12, .inr (.inr (.inr (.inr (fun i => if i < 12 then some (r_6 i) else none)))))), ((r_6 0), .inl (k_4, 12, .inl (fun _ => 0))), ((r_6 1), .inl (k_4, 12, .inl (fun _ => 0))), ((r_6 2), .inl (k_4, 12, .inl (fun _ => 0))), ((r_6 3), .inl (k_4, 12, .inl (fun _ => 0))), ((r_6 4), .inl (k_4, 12, .inl (fun _ => 0))), ((r_6 5), .inl (k_4, 12, .inl (fun _ => 0))), ((r_6 6), .inl (k_4, 12, .inl (fun _ => 0))), ((r_6 7), .inl (k_4, 12, .inl (fun _ => 0))), ((r_6 8), .inl (k_4, 12, .inl (fun _ => 0))), ((r_6 9), .inl (k_4, 12, .inl (fun _ => 0))), ((r_6 10), .inl (k_4, 12, .inl (fun _ => 0))), ((r_6 11), .inl (k_4, 12, .inl (fun _ => 0))), (q_8, .inl (k_9, 12, .inl (fun _ => 0))), (q_10, .inl (k_11, 12, .inl (fun _ => 0)))] := hD
  refine lv_aload_n hx hb dX3_init_44 rfl (lv_at hl 0 rfl) ?_
  refine lv_bipush (v := 12) hx hb dX3_init_45 (by decide) ?_
  refine va_newa (atype := .int) (ty := .int) (a0 := (12, .inl (fun _ => 0))) (N' := 12) hx hb (hts (.arrayClass .int) (by decide +kernel)) rfl hK hP hD hS hA (fun _ => rfl) (by decide) (by decide) (by decide) (Nat.le_of_ble_eq_true rfl) (Nat.le_of_ble_eq_true rfl) dX3_init_47 (fun q_12 k_13 H hK hP hD hS => ?_)
  refine W.widen (k := 29) (n := 348) (Nat.le_of_ble_eq_true rfl) (Nat.le_of_ble_eq_true rfl) ?_
  have hK : va_K (dC, dI) vwCl [(k_4, .int), (k_3, .array .int), (k_7, .array .int), (k_9, .int), (k_11, .boolean), (k_13, .int)] s := hK
  have hP : va_P (dC, dI) vwCl [(h0, .inr (3, [.ref q_1, .ref q_5, .ref q_8, .ref q_10, .null])), (q_1, .inl (k_3, 12, .inr (.inr (.inr (.inr (fun i => if i < 12 then some (r_2 i) else none)))))), ((r_2 0), .inl (k_4, 12, .inl (fun _ => 0))), ((r_2 1), .inl (k_4, 12, .inl (fun _ => 0))), ((r_2 2), .inl (k_4, 12, .inl (fun _ => 0))), ((r_2 3), .inl (k_4, 12, .inl (fun _ => 0))), ((r_2 4), .inl (k_4, 12, .inl (fun _ => 0))), ((r_2 5), .inl (k_4, 12, .inl (fun _ => 0))), ((r_2 6), .inl (k_4, 12, .inl (fun _ => 0))), ((r_2 7), .inl (k_4, 12, .inl (fun _ => 0))), ((r_2 8), .inl (k_4, 12, .inl (fun _ => 0))), ((r_2 9), .inl (k_4, 12, .inl (fun _ => 0))), ((r_2 10), .inl (k_4, 12, .inl (fun _ => 0))), ((r_2 11), .inl (k_4, 12, .inl (fun _ => 0))), (q_5, .inl (k_7, 12, .inr (.inr (.inr (.inr (fun i => if i < 12 then some (r_6 i) else none)))))), ((r_6 0), .inl (k_4, 12, .inl (fun _ => 0))), ((r_6 1), .inl (k_4, 12, .inl (fun _ => 0))), ((r_6 2), .inl (k_4, 12, .inl (fun _ => 0))), ((r_6 3), .inl (k_4, 12, .inl (fun _ => 0))), ((r_6 4), .inl (k_4, 12, .inl (fun _ => 0))), ((r_6 5), .inl (k_4, 12, .inl (fun _ => 0))), ((r_6 6), .inl (k_4, 12, .inl (fun _ => 0))), ((r_6 7), .inl (k_4, 12, .inl (fun _ => 0))), ((r_6 8), .inl (k_4, 12, .inl (fun _ => 0))), ((r_6 9), .inl (k_4, 12, .inl (fun _ => 0))), ((r_6 10), .inl (k_4, 12, .inl (fun _ => 0))), ((r_6 11), .inl (k_4, 12, .inl (fun _ => 0))), (q_8, .inl (k_9, 12, .inl (fun _ => 0))), (q_10, .inl (k_11, 12, .inl (fun _ => 0))), (q_12, .inl (k_13, 12, .inl (fun _ => 0)))] H := hP
  have hD : va_D A [(h0, .inr (3, [.ref q_1, .ref q_5, .ref q_8, .ref q_10, .null])), (q_1, .inl (k_3, 12, .inr (.inr (.inr (.inr (fun i => if i < 12 then some (r_2 i) else none)))))), ((r_2 0), .inl (k_4, 12, .inl (fun _ => 0))), ((r_2 1), .inl (k_4, 12, .inl (fun _ => 0))), ((r_2 2), .inl (k_4, 12, .inl (fun _ => 0))), ((r_2 3), .inl (k_4, 12, .inl (fun _ => 0))), ((r_2 4), .inl (k_4, 12, .inl (fun _ => 0))), ((r_2 5), .inl (k_4, 12, .inl (fun _ => 0))), ((r_2 6), .inl (k_4, 12, .inl (fun _ => 0))), ((r_2 7), .inl (k_4, 12, .inl (fun _ => 0))), ((r_2 8), .inl (k_4, 12, .inl (fun _ => 0))), ((r_2 9), .inl (k_4, 12, .inl (fun _ => 0))), ((r_2 10), .inl (k_4, 12, .inl (fun _ => 0))), ((r_2 11), .inl (k_4, 12, .inl (fun _ => 0))), (q_5, .inl (k_7, 12, .inr (.inr (.inr (.inr (fun i => if i < 12 then some (r_6 i) else none)))))), ((r_6 0), .inl (k_4, 12, .inl (fun _ => 0))), ((r_6 1), .inl (k_4, 12, .inl (fun _ => 0))), ((r_6 2), .inl (k_4, 12, .inl (fun _ => 0))), ((r_6 3), .inl (k_4, 12, .inl (fun _ => 0))), ((r_6 4), .inl (k_4, 12, .inl (fun _ => 0))), ((r_6 5), .inl (k_4, 12, .inl (fun _ => 0))), ((r_6 6), .inl (k_4, 12, .inl (fun _ => 0))), ((r_6 7), .inl (k_4, 12, .inl (fun _ => 0))), ((r_6 8), .inl (k_4, 12, .inl (fun _ => 0))), ((r_6 9), .inl (k_4, 12, .inl (fun _ => 0))), ((r_6 10), .inl (k_4, 12, .inl (fun _ => 0))), ((r_6 11), .inl (k_4, 12, .inl (fun _ => 0))), (q_8, .inl (k_9, 12, .inl (fun _ => 0))), (q_10, .inl (k_11, 12, .inl (fun _ => 0))), (q_12, .inl (k_13, 12, .inl (fun _ => 0)))] := hD
  refine va_putF (D := (dC, dI)) (ci := 3) (v := .ref q_12) (ty := (tyX3 4)) (C := RX3) (T := TX3) (N := 5) hx hb hts hin3 tyX3 tyX3_ok nmX3 hown hK hP hD hS 0 rfl rfl 4 (by decide) (hts (.fieldLink RX3 27 "YamRiders$Roads" "row" "[I") (by decide +kernel)) (fun _ h9 => h9) rfl hin rfl (by decide +kernel) rfl rfl (Nat.le_of_ble_eq_true rfl) dX3_init_49 (fun H locs hP hD hS => ?_)
  have hP : va_P (dC, dI) vwCl [(h0, .inr (3, [.ref q_1, .ref q_5, .ref q_8, .ref q_10, .ref q_12])), (q_1, .inl (k_3, 12, .inr (.inr (.inr (.inr (fun i => if i < 12 then some (r_2 i) else none)))))), ((r_2 0), .inl (k_4, 12, .inl (fun _ => 0))), ((r_2 1), .inl (k_4, 12, .inl (fun _ => 0))), ((r_2 2), .inl (k_4, 12, .inl (fun _ => 0))), ((r_2 3), .inl (k_4, 12, .inl (fun _ => 0))), ((r_2 4), .inl (k_4, 12, .inl (fun _ => 0))), ((r_2 5), .inl (k_4, 12, .inl (fun _ => 0))), ((r_2 6), .inl (k_4, 12, .inl (fun _ => 0))), ((r_2 7), .inl (k_4, 12, .inl (fun _ => 0))), ((r_2 8), .inl (k_4, 12, .inl (fun _ => 0))), ((r_2 9), .inl (k_4, 12, .inl (fun _ => 0))), ((r_2 10), .inl (k_4, 12, .inl (fun _ => 0))), ((r_2 11), .inl (k_4, 12, .inl (fun _ => 0))), (q_5, .inl (k_7, 12, .inr (.inr (.inr (.inr (fun i => if i < 12 then some (r_6 i) else none)))))), ((r_6 0), .inl (k_4, 12, .inl (fun _ => 0))), ((r_6 1), .inl (k_4, 12, .inl (fun _ => 0))), ((r_6 2), .inl (k_4, 12, .inl (fun _ => 0))), ((r_6 3), .inl (k_4, 12, .inl (fun _ => 0))), ((r_6 4), .inl (k_4, 12, .inl (fun _ => 0))), ((r_6 5), .inl (k_4, 12, .inl (fun _ => 0))), ((r_6 6), .inl (k_4, 12, .inl (fun _ => 0))), ((r_6 7), .inl (k_4, 12, .inl (fun _ => 0))), ((r_6 8), .inl (k_4, 12, .inl (fun _ => 0))), ((r_6 9), .inl (k_4, 12, .inl (fun _ => 0))), ((r_6 10), .inl (k_4, 12, .inl (fun _ => 0))), ((r_6 11), .inl (k_4, 12, .inl (fun _ => 0))), (q_8, .inl (k_9, 12, .inl (fun _ => 0))), (q_10, .inl (k_11, 12, .inl (fun _ => 0))), (q_12, .inl (k_13, 12, .inl (fun _ => 0)))] H := hP
  have hD : va_D A [(h0, .inr (3, [.ref q_1, .ref q_5, .ref q_8, .ref q_10, .ref q_12])), (q_1, .inl (k_3, 12, .inr (.inr (.inr (.inr (fun i => if i < 12 then some (r_2 i) else none)))))), ((r_2 0), .inl (k_4, 12, .inl (fun _ => 0))), ((r_2 1), .inl (k_4, 12, .inl (fun _ => 0))), ((r_2 2), .inl (k_4, 12, .inl (fun _ => 0))), ((r_2 3), .inl (k_4, 12, .inl (fun _ => 0))), ((r_2 4), .inl (k_4, 12, .inl (fun _ => 0))), ((r_2 5), .inl (k_4, 12, .inl (fun _ => 0))), ((r_2 6), .inl (k_4, 12, .inl (fun _ => 0))), ((r_2 7), .inl (k_4, 12, .inl (fun _ => 0))), ((r_2 8), .inl (k_4, 12, .inl (fun _ => 0))), ((r_2 9), .inl (k_4, 12, .inl (fun _ => 0))), ((r_2 10), .inl (k_4, 12, .inl (fun _ => 0))), ((r_2 11), .inl (k_4, 12, .inl (fun _ => 0))), (q_5, .inl (k_7, 12, .inr (.inr (.inr (.inr (fun i => if i < 12 then some (r_6 i) else none)))))), ((r_6 0), .inl (k_4, 12, .inl (fun _ => 0))), ((r_6 1), .inl (k_4, 12, .inl (fun _ => 0))), ((r_6 2), .inl (k_4, 12, .inl (fun _ => 0))), ((r_6 3), .inl (k_4, 12, .inl (fun _ => 0))), ((r_6 4), .inl (k_4, 12, .inl (fun _ => 0))), ((r_6 5), .inl (k_4, 12, .inl (fun _ => 0))), ((r_6 6), .inl (k_4, 12, .inl (fun _ => 0))), ((r_6 7), .inl (k_4, 12, .inl (fun _ => 0))), ((r_6 8), .inl (k_4, 12, .inl (fun _ => 0))), ((r_6 9), .inl (k_4, 12, .inl (fun _ => 0))), ((r_6 10), .inl (k_4, 12, .inl (fun _ => 0))), ((r_6 11), .inl (k_4, 12, .inl (fun _ => 0))), (q_8, .inl (k_9, 12, .inl (fun _ => 0))), (q_10, .inl (k_11, 12, .inl (fun _ => 0))), (q_12, .inl (k_13, 12, .inl (fun _ => 0)))] := hD
  have hP9 := hP.sub (ws' := [(h0, .inr (3, [.ref q_1, .ref q_5, .ref q_8, .ref q_10, .ref q_12])), (q_1, .inl (k_3, 12, .inr (.inr (.inr (.inr (fun i => if i < 12 then some (r_2 i) else none)))))), (q_5, .inl (k_7, 12, .inr (.inr (.inr (.inr (fun i => if i < 12 then some (r_6 i) else none)))))), (q_8, .inl (k_9, 12, .inl (fun _ => 0))), (q_10, .inl (k_11, 12, .inl (fun _ => 0))), (q_12, .inl (k_13, 12, .inl (fun _ => 0))), ((r_2 0), .inl (k_4, 12, .inl (fun _ => 0))), ((r_2 1), .inl (k_4, 12, .inl (fun _ => 0))), ((r_2 2), .inl (k_4, 12, .inl (fun _ => 0))), ((r_2 3), .inl (k_4, 12, .inl (fun _ => 0))), ((r_2 4), .inl (k_4, 12, .inl (fun _ => 0))), ((r_2 5), .inl (k_4, 12, .inl (fun _ => 0))), ((r_2 6), .inl (k_4, 12, .inl (fun _ => 0))), ((r_2 7), .inl (k_4, 12, .inl (fun _ => 0))), ((r_2 8), .inl (k_4, 12, .inl (fun _ => 0))), ((r_2 9), .inl (k_4, 12, .inl (fun _ => 0))), ((r_2 10), .inl (k_4, 12, .inl (fun _ => 0))), ((r_2 11), .inl (k_4, 12, .inl (fun _ => 0))), ((r_6 0), .inl (k_4, 12, .inl (fun _ => 0))), ((r_6 1), .inl (k_4, 12, .inl (fun _ => 0))), ((r_6 2), .inl (k_4, 12, .inl (fun _ => 0))), ((r_6 3), .inl (k_4, 12, .inl (fun _ => 0))), ((r_6 4), .inl (k_4, 12, .inl (fun _ => 0))), ((r_6 5), .inl (k_4, 12, .inl (fun _ => 0))), ((r_6 6), .inl (k_4, 12, .inl (fun _ => 0))), ((r_6 7), .inl (k_4, 12, .inl (fun _ => 0))), ((r_6 8), .inl (k_4, 12, .inl (fun _ => 0))), ((r_6 9), .inl (k_4, 12, .inl (fun _ => 0))), ((r_6 10), .inl (k_4, 12, .inl (fun _ => 0))), ((r_6 11), .inl (k_4, 12, .inl (fun _ => 0)))]) [0, 1, 14, 27, 28, 29, 2, 3, 4, 5, 6, 7, 8, 9, 10, 11, 12, 13, 15, 16, 17, 18, 19, 20, 21, 22, 23, 24, 25, 26] rfl
  have hD9 := hD.sub (ws' := [(h0, .inr (3, [.ref q_1, .ref q_5, .ref q_8, .ref q_10, .ref q_12])), (q_1, .inl (k_3, 12, .inr (.inr (.inr (.inr (fun i => if i < 12 then some (r_2 i) else none)))))), (q_5, .inl (k_7, 12, .inr (.inr (.inr (.inr (fun i => if i < 12 then some (r_6 i) else none)))))), (q_8, .inl (k_9, 12, .inl (fun _ => 0))), (q_10, .inl (k_11, 12, .inl (fun _ => 0))), (q_12, .inl (k_13, 12, .inl (fun _ => 0))), ((r_2 0), .inl (k_4, 12, .inl (fun _ => 0))), ((r_2 1), .inl (k_4, 12, .inl (fun _ => 0))), ((r_2 2), .inl (k_4, 12, .inl (fun _ => 0))), ((r_2 3), .inl (k_4, 12, .inl (fun _ => 0))), ((r_2 4), .inl (k_4, 12, .inl (fun _ => 0))), ((r_2 5), .inl (k_4, 12, .inl (fun _ => 0))), ((r_2 6), .inl (k_4, 12, .inl (fun _ => 0))), ((r_2 7), .inl (k_4, 12, .inl (fun _ => 0))), ((r_2 8), .inl (k_4, 12, .inl (fun _ => 0))), ((r_2 9), .inl (k_4, 12, .inl (fun _ => 0))), ((r_2 10), .inl (k_4, 12, .inl (fun _ => 0))), ((r_2 11), .inl (k_4, 12, .inl (fun _ => 0))), ((r_6 0), .inl (k_4, 12, .inl (fun _ => 0))), ((r_6 1), .inl (k_4, 12, .inl (fun _ => 0))), ((r_6 2), .inl (k_4, 12, .inl (fun _ => 0))), ((r_6 3), .inl (k_4, 12, .inl (fun _ => 0))), ((r_6 4), .inl (k_4, 12, .inl (fun _ => 0))), ((r_6 5), .inl (k_4, 12, .inl (fun _ => 0))), ((r_6 6), .inl (k_4, 12, .inl (fun _ => 0))), ((r_6 7), .inl (k_4, 12, .inl (fun _ => 0))), ((r_6 8), .inl (k_4, 12, .inl (fun _ => 0))), ((r_6 9), .inl (k_4, 12, .inl (fun _ => 0))), ((r_6 10), .inl (k_4, 12, .inl (fun _ => 0))), ((r_6 11), .inl (k_4, 12, .inl (fun _ => 0)))]) [0, 1, 14, 27, 28, 29, 2, 3, 4, 5, 6, 7, 8, 9, 10, 11, 12, 13, 15, 16, 17, 18, 19, 20, 21, 22, 23, 24, 25, 26] (by decide) rfl
  have hK9 := hK.sub (tys' := [(k_3, .array .int), (k_7, .array .int), (k_4, .int), (k_9, .int), (k_11, .boolean), (k_13, .int)]) [1, 2, 0, 3, 4, 5] rfl
  refine W.widen (k := 29) (n := 348) (Nat.le_of_ble_eq_true rfl) (Nat.le_of_ble_eq_true rfl) ?_
  exact W.vret hx hb hr (fun t9 ht hW => ⟨⟨(), rfl, trivial, q_1, q_5, q_8, q_10, q_12, k_3, k_7, k_4, k_9, k_11, k_13, r_2, r_6, by rw [ht]; exact hP9, va_K.moved hW.alike hK9, hD9⟩, hS.F ht⟩) hS.2.2 dX3_init_52

set_option maxHeartbeats 4000000 in
set_option maxRecDepth 100000 in
theorem c_X1_init (l : Launch) (dC : Nat → ClassId) (dI : Nat → Nat → Nat) (h0 : Nat) (sz : Nat) : Met l yX1_init wsX1_init ({ frames := 1, cells := 16, slots := 192, locals := 20 }) (va_Pc [.ref h0] (cP dC dI [(h0, .inr (1, [.null, .null, .null, .null]))] [] sz)) (va_Qv (fun (_ : Unit) => True) (fun (_ : Unit) t9 => cQ dC dI [] [] (va_A [(h0, .inr (1, [.null, .null, .null, .null]))] sz) t9) (va_A [(h0, .inr (1, [.null, .null, .null, .null]))] sz)) 16 192 (va_A [(h0, .inr (1, [.null, .null, .null, .null]))] sz) := by
  refine Met.ofW (cc := cX1_init) (maxL := 1) (ret := none) (by decide) rfl ?_
  intro p e s m args below meth c s₁ B hml hv
  obtain ⟨rfl, hsz, hP, hK, hD0, hN⟩ := hv
  have hx := B.exec
  have hb := B.bytes
  have hr := B.returns
  have hts := atoms_spec (ws := wsX1_init) B.pre
  have hown : s.vm.findClass RX1 = some m.cls := findClass_of_methodNamed B.named
  have hlocks := B.notSynchronized
  have hin : meth.name = "<init>" := (name_of_methodNamed B.named B.method).1
  subst hsz
  have hin1 : ∀ w ∈ u_ws RX1 TX1 4, w ∈ wsX1_init := by decide +kernel
  have hD := hD0.self (sz := s.heap.size)
  generalize hAe : va_A [(h0, .inr (1, [.null, .null, .null, .null]))] s.heap.size = A at hD ⊢
  have hA : ∀ q : Nat, s.heap.size ≤ q → A q := fun q h => by rw [← hAe]; exact Or.inr h
  have hS : va_S A s.heap s.heap [] := va_S.rf
  have hP : va_P (dC, dI) vwCl [(h0, .inr (1, [.null, .null, .null, .null]))] s.heap := hP
  have hl := lv_entry ([.ref h0]) (n := 1) (Nat.le_of_ble_eq_true rfl)
  rw [lg_entry_eq]
  generalize (lg_sl ([.ref h0]) ++ List.replicate (1 - (lg_sl ([.ref h0])).length) Slot.unset).toArray = ls at hl ⊢
  have hl : lv_has ls 1 [(0, .ref h0)] := hl
  refine lv_aload_n hx hb dX1_init_0 rfl (lv_at hl 0 rfl) ?_
  refine W.objInit hx hb hown (hts (.methodLink RX1 3 objectInit) (by decide +kernel)) (hts (.instanceMethod objectInit) (by decide +kernel)) (hts (.code objectInit ⟨#[0xb1]⟩ 1 none) (by decide +kernel)) rfl (by rw [hml]; exact hl.1) rfl dX1_init_1 (Nat.le_of_ble_eq_true rfl) (Nat.le_of_ble_eq_true rfl) ?_
  refine W.eq (g2 := F0 m 4 ls []) rfl ?_
  refine lv_aload_n hx hb dX1_init_4 rfl (lv_at hl 0 rfl) ?_
  refine lv_bipush (v := 12) hx hb dX1_init_5 (by decide) ?_
  refine va_newa (atype := .int) (ty := .int) (a0 := (12, .inl (fun _ => 0))) (N' := 12) hx hb (hts (.arrayClass .int) (by decide +kernel)) rfl hK hP hD hS hA (fun _ => rfl) (by decide) (by decide) (by decide) (Nat.le_of_ble_eq_true rfl) (Nat.le_of_ble_eq_true rfl) dX1_init_7 (fun q_1 k_2 H hK hP hD hS => ?_)
  refine W.widen (k := 1) (n := 12) (Nat.le_of_ble_eq_true rfl) (Nat.le_of_ble_eq_true rfl) ?_
  have hK : va_K (dC, dI) vwCl [(k_2, .int)] s := hK
  have hP : va_P (dC, dI) vwCl [(h0, .inr (1, [.null, .null, .null, .null])), (q_1, .inl (k_2, 12, .inl (fun _ => 0)))] H := hP
  have hD : va_D A [(h0, .inr (1, [.null, .null, .null, .null])), (q_1, .inl (k_2, 12, .inl (fun _ => 0)))] := hD
  refine va_putF (D := (dC, dI)) (ci := 1) (v := .ref q_1) (ty := (tyX1 0)) (C := RX1) (T := TX1) (N := 4) hx hb hts hin1 tyX1 tyX1_ok nmX1 hown hK hP hD hS 0 rfl rfl 0 (by decide) (hts (.fieldLink RX1 9 "YamRiders$Leader" "spare" "[I") (by decide +kernel)) (fun _ h9 => h9) rfl hin rfl (by decide +kernel) rfl rfl (Nat.le_of_ble_eq_true rfl) dX1_init_9 (fun H locs hP hD hS => ?_)
  have hP : va_P (dC, dI) vwCl [(h0, .inr (1, [.ref q_1, .null, .null, .null])), (q_1, .inl (k_2, 12, .inl (fun _ => 0)))] H := hP
  have hD : va_D A [(h0, .inr (1, [.ref q_1, .null, .null, .null])), (q_1, .inl (k_2, 12, .inl (fun _ => 0)))] := hD
  refine lv_aload_n hx hb dX1_init_12 rfl (lv_at hl 0 rfl) ?_
  refine lv_bipush (v := 12) hx hb dX1_init_13 (by decide) ?_
  refine lv_bipush (v := 12) hx hb dX1_init_15 (by decide) ?_
  obtain ⟨k_6, hcy, hK⟩ := ka_int (hts (.arrayClass .int) (by decide +kernel)) hK
  have hK : va_K (dC, dI) vwCl [(k_2, .int), (k_6, .int)] s := hK
  refine mna12 hx hb hown (hts (.classLink RX1 15 "[[I") (by decide +kernel)) hN.2.2.2.2 (hts (.arrayClass .int) (by decide +kernel)) hcy hK hP hD hS hA (Nat.le_of_ble_eq_true rfl) (Nat.le_of_ble_eq_true rfl) dX1_init_17 (fun q_3 r_4 k_5 H hK hP hD hS => ?_)
  refine W.widen (k := 14) (n := 168) (Nat.le_of_ble_eq_true rfl) (Nat.le_of_ble_eq_true rfl) ?_
  have hK : va_K (dC, dI) vwCl [(k_2, .int), (k_6, .int), (k_5, .array .int)] s := hK
  have hP : va_P (dC, dI) vwCl [(h0, .inr (1, [.ref q_1, .null, .null, .null])), (q_1, .inl (k_2, 12, .inl (fun _ => 0))), (q_3, .inl (k_5, 12, .inr (.inr (.inr (.inr (fun i => if i < 12 then some (r_4 i) else none)))))), ((r_4 0), .inl (k_6, 12, .inl (fun _ => 0))), ((r_4 1), .inl (k_6, 12, .inl (fun _ => 0))), ((r_4 2), .inl (k_6, 12, .inl (fun _ => 0))), ((r_4 3), .inl (k_6, 12, .inl (fun _ => 0))), ((r_4 4), .inl (k_6, 12, .inl (fun _ => 0))), ((r_4 5), .inl (k_6, 12, .inl (fun _ => 0))), ((r_4 6), .inl (k_6, 12, .inl (fun _ => 0))), ((r_4 7), .inl (k_6, 12, .inl (fun _ => 0))), ((r_4 8), .inl (k_6, 12, .inl (fun _ => 0))), ((r_4 9), .inl (k_6, 12, .inl (fun _ => 0))), ((r_4 10), .inl (k_6, 12, .inl (fun _ => 0))), ((r_4 11), .inl (k_6, 12, .inl (fun _ => 0)))] H := hP
  have hD : va_D A [(h0, .inr (1, [.ref q_1, .null, .null, .null])), (q_1, .inl (k_2, 12, .inl (fun _ => 0))), (q_3, .inl (k_5, 12, .inr (.inr (.inr (.inr (fun i => if i < 12 then some (r_4 i) else none)))))), ((r_4 0), .inl (k_6, 12, .inl (fun _ => 0))), ((r_4 1), .inl (k_6, 12, .inl (fun _ => 0))), ((r_4 2), .inl (k_6, 12, .inl (fun _ => 0))), ((r_4 3), .inl (k_6, 12, .inl (fun _ => 0))), ((r_4 4), .inl (k_6, 12, .inl (fun _ => 0))), ((r_4 5), .inl (k_6, 12, .inl (fun _ => 0))), ((r_4 6), .inl (k_6, 12, .inl (fun _ => 0))), ((r_4 7), .inl (k_6, 12, .inl (fun _ => 0))), ((r_4 8), .inl (k_6, 12, .inl (fun _ => 0))), ((r_4 9), .inl (k_6, 12, .inl (fun _ => 0))), ((r_4 10), .inl (k_6, 12, .inl (fun _ => 0))), ((r_4 11), .inl (k_6, 12, .inl (fun _ => 0)))] := hD
  refine va_putF (D := (dC, dI)) (ci := 1) (v := .ref q_3) (ty := (tyX1 1)) (C := RX1) (T := TX1) (N := 4) hx hb hts hin1 tyX1 tyX1_ok nmX1 hown hK hP hD hS 0 rfl rfl 1 (by decide) (hts (.fieldLink RX1 17 "YamRiders$Leader" "led" "[[I") (by decide +kernel)) (fun _ h9 => h9) rfl hin rfl (by decide +kernel) rfl rfl (Nat.le_of_ble_eq_true rfl) dX1_init_21 (fun H locs hP hD hS => ?_)
  have hP : va_P (dC, dI) vwCl [(h0, .inr (1, [.ref q_1, .ref q_3, .null, .null])), (q_1, .inl (k_2, 12, .inl (fun _ => 0))), (q_3, .inl (k_5, 12, .inr (.inr (.inr (.inr (fun i => if i < 12 then some (r_4 i) else none)))))), ((r_4 0), .inl (k_6, 12, .inl (fun _ => 0))), ((r_4 1), .inl (k_6, 12, .inl (fun _ => 0))), ((r_4 2), .inl (k_6, 12, .inl (fun _ => 0))), ((r_4 3), .inl (k_6, 12, .inl (fun _ => 0))), ((r_4 4), .inl (k_6, 12, .inl (fun _ => 0))), ((r_4 5), .inl (k_6, 12, .inl (fun _ => 0))), ((r_4 6), .inl (k_6, 12, .inl (fun _ => 0))), ((r_4 7), .inl (k_6, 12, .inl (fun _ => 0))), ((r_4 8), .inl (k_6, 12, .inl (fun _ => 0))), ((r_4 9), .inl (k_6, 12, .inl (fun _ => 0))), ((r_4 10), .inl (k_6, 12, .inl (fun _ => 0))), ((r_4 11), .inl (k_6, 12, .inl (fun _ => 0)))] H := hP
  have hD : va_D A [(h0, .inr (1, [.ref q_1, .ref q_3, .null, .null])), (q_1, .inl (k_2, 12, .inl (fun _ => 0))), (q_3, .inl (k_5, 12, .inr (.inr (.inr (.inr (fun i => if i < 12 then some (r_4 i) else none)))))), ((r_4 0), .inl (k_6, 12, .inl (fun _ => 0))), ((r_4 1), .inl (k_6, 12, .inl (fun _ => 0))), ((r_4 2), .inl (k_6, 12, .inl (fun _ => 0))), ((r_4 3), .inl (k_6, 12, .inl (fun _ => 0))), ((r_4 4), .inl (k_6, 12, .inl (fun _ => 0))), ((r_4 5), .inl (k_6, 12, .inl (fun _ => 0))), ((r_4 6), .inl (k_6, 12, .inl (fun _ => 0))), ((r_4 7), .inl (k_6, 12, .inl (fun _ => 0))), ((r_4 8), .inl (k_6, 12, .inl (fun _ => 0))), ((r_4 9), .inl (k_6, 12, .inl (fun _ => 0))), ((r_4 10), .inl (k_6, 12, .inl (fun _ => 0))), ((r_4 11), .inl (k_6, 12, .inl (fun _ => 0)))] := hD
  refine lv_aload_n hx hb dX1_init_24 rfl (lv_at hl 0 rfl) ?_
  refine lv_bipush (v := 12) hx hb dX1_init_25 (by decide) ?_
  refine va_newa (atype := .int) (ty := .int) (a0 := (12, .inl (fun _ => 0))) (N' := 12) hx hb (hts (.arrayClass .int) (by decide +kernel)) rfl hK hP hD hS hA (fun _ => rfl) (by decide) (by decide) (by decide) (Nat.le_of_ble_eq_true rfl) (Nat.le_of_ble_eq_true rfl) dX1_init_27 (fun q_7 k_8 H hK hP hD hS => ?_)
  refine W.widen (k := 15) (n := 180) (Nat.le_of_ble_eq_true rfl) (Nat.le_of_ble_eq_true rfl) ?_
  have hK : va_K (dC, dI) vwCl [(k_2, .int), (k_6, .int), (k_5, .array .int), (k_8, .int)] s := hK
  have hP : va_P (dC, dI) vwCl [(h0, .inr (1, [.ref q_1, .ref q_3, .null, .null])), (q_1, .inl (k_2, 12, .inl (fun _ => 0))), (q_3, .inl (k_5, 12, .inr (.inr (.inr (.inr (fun i => if i < 12 then some (r_4 i) else none)))))), ((r_4 0), .inl (k_6, 12, .inl (fun _ => 0))), ((r_4 1), .inl (k_6, 12, .inl (fun _ => 0))), ((r_4 2), .inl (k_6, 12, .inl (fun _ => 0))), ((r_4 3), .inl (k_6, 12, .inl (fun _ => 0))), ((r_4 4), .inl (k_6, 12, .inl (fun _ => 0))), ((r_4 5), .inl (k_6, 12, .inl (fun _ => 0))), ((r_4 6), .inl (k_6, 12, .inl (fun _ => 0))), ((r_4 7), .inl (k_6, 12, .inl (fun _ => 0))), ((r_4 8), .inl (k_6, 12, .inl (fun _ => 0))), ((r_4 9), .inl (k_6, 12, .inl (fun _ => 0))), ((r_4 10), .inl (k_6, 12, .inl (fun _ => 0))), ((r_4 11), .inl (k_6, 12, .inl (fun _ => 0))), (q_7, .inl (k_8, 12, .inl (fun _ => 0)))] H := hP
  have hD : va_D A [(h0, .inr (1, [.ref q_1, .ref q_3, .null, .null])), (q_1, .inl (k_2, 12, .inl (fun _ => 0))), (q_3, .inl (k_5, 12, .inr (.inr (.inr (.inr (fun i => if i < 12 then some (r_4 i) else none)))))), ((r_4 0), .inl (k_6, 12, .inl (fun _ => 0))), ((r_4 1), .inl (k_6, 12, .inl (fun _ => 0))), ((r_4 2), .inl (k_6, 12, .inl (fun _ => 0))), ((r_4 3), .inl (k_6, 12, .inl (fun _ => 0))), ((r_4 4), .inl (k_6, 12, .inl (fun _ => 0))), ((r_4 5), .inl (k_6, 12, .inl (fun _ => 0))), ((r_4 6), .inl (k_6, 12, .inl (fun _ => 0))), ((r_4 7), .inl (k_6, 12, .inl (fun _ => 0))), ((r_4 8), .inl (k_6, 12, .inl (fun _ => 0))), ((r_4 9), .inl (k_6, 12, .inl (fun _ => 0))), ((r_4 10), .inl (k_6, 12, .inl (fun _ => 0))), ((r_4 11), .inl (k_6, 12, .inl (fun _ => 0))), (q_7, .inl (k_8, 12, .inl (fun _ => 0)))] := hD
  refine va_putF (D := (dC, dI)) (ci := 1) (v := .ref q_7) (ty := (tyX1 2)) (C := RX1) (T := TX1) (N := 4) hx hb hts hin1 tyX1 tyX1_ok nmX1 hown hK hP hD hS 0 rfl rfl 2 (by decide) (hts (.fieldLink RX1 20 "YamRiders$Leader" "pains" "[I") (by decide +kernel)) (fun _ h9 => h9) rfl hin rfl (by decide +kernel) rfl rfl (Nat.le_of_ble_eq_true rfl) dX1_init_29 (fun H locs hP hD hS => ?_)
  have hP : va_P (dC, dI) vwCl [(h0, .inr (1, [.ref q_1, .ref q_3, .ref q_7, .null])), (q_1, .inl (k_2, 12, .inl (fun _ => 0))), (q_3, .inl (k_5, 12, .inr (.inr (.inr (.inr (fun i => if i < 12 then some (r_4 i) else none)))))), ((r_4 0), .inl (k_6, 12, .inl (fun _ => 0))), ((r_4 1), .inl (k_6, 12, .inl (fun _ => 0))), ((r_4 2), .inl (k_6, 12, .inl (fun _ => 0))), ((r_4 3), .inl (k_6, 12, .inl (fun _ => 0))), ((r_4 4), .inl (k_6, 12, .inl (fun _ => 0))), ((r_4 5), .inl (k_6, 12, .inl (fun _ => 0))), ((r_4 6), .inl (k_6, 12, .inl (fun _ => 0))), ((r_4 7), .inl (k_6, 12, .inl (fun _ => 0))), ((r_4 8), .inl (k_6, 12, .inl (fun _ => 0))), ((r_4 9), .inl (k_6, 12, .inl (fun _ => 0))), ((r_4 10), .inl (k_6, 12, .inl (fun _ => 0))), ((r_4 11), .inl (k_6, 12, .inl (fun _ => 0))), (q_7, .inl (k_8, 12, .inl (fun _ => 0)))] H := hP
  have hD : va_D A [(h0, .inr (1, [.ref q_1, .ref q_3, .ref q_7, .null])), (q_1, .inl (k_2, 12, .inl (fun _ => 0))), (q_3, .inl (k_5, 12, .inr (.inr (.inr (.inr (fun i => if i < 12 then some (r_4 i) else none)))))), ((r_4 0), .inl (k_6, 12, .inl (fun _ => 0))), ((r_4 1), .inl (k_6, 12, .inl (fun _ => 0))), ((r_4 2), .inl (k_6, 12, .inl (fun _ => 0))), ((r_4 3), .inl (k_6, 12, .inl (fun _ => 0))), ((r_4 4), .inl (k_6, 12, .inl (fun _ => 0))), ((r_4 5), .inl (k_6, 12, .inl (fun _ => 0))), ((r_4 6), .inl (k_6, 12, .inl (fun _ => 0))), ((r_4 7), .inl (k_6, 12, .inl (fun _ => 0))), ((r_4 8), .inl (k_6, 12, .inl (fun _ => 0))), ((r_4 9), .inl (k_6, 12, .inl (fun _ => 0))), ((r_4 10), .inl (k_6, 12, .inl (fun _ => 0))), ((r_4 11), .inl (k_6, 12, .inl (fun _ => 0))), (q_7, .inl (k_8, 12, .inl (fun _ => 0)))] := hD
  refine lv_aload_n hx hb dX1_init_32 rfl (lv_at hl 0 rfl) ?_
  refine lv_bipush (v := 12) hx hb dX1_init_33 (by decide) ?_
  refine va_newa (atype := .int) (ty := .int) (a0 := (12, .inl (fun _ => 0))) (N' := 12) hx hb (hts (.arrayClass .int) (by decide +kernel)) rfl hK hP hD hS hA (fun _ => rfl) (by decide) (by decide) (by decide) (Nat.le_of_ble_eq_true rfl) (Nat.le_of_ble_eq_true rfl) dX1_init_35 (fun q_9 k_10 H hK hP hD hS => ?_)
  refine W.widen (k := 16) (n := 192) (Nat.le_of_ble_eq_true rfl) (Nat.le_of_ble_eq_true rfl) ?_
  have hK : va_K (dC, dI) vwCl [(k_2, .int), (k_6, .int), (k_5, .array .int), (k_8, .int), (k_10, .int)] s := hK
  have hP : va_P (dC, dI) vwCl [(h0, .inr (1, [.ref q_1, .ref q_3, .ref q_7, .null])), (q_1, .inl (k_2, 12, .inl (fun _ => 0))), (q_3, .inl (k_5, 12, .inr (.inr (.inr (.inr (fun i => if i < 12 then some (r_4 i) else none)))))), ((r_4 0), .inl (k_6, 12, .inl (fun _ => 0))), ((r_4 1), .inl (k_6, 12, .inl (fun _ => 0))), ((r_4 2), .inl (k_6, 12, .inl (fun _ => 0))), ((r_4 3), .inl (k_6, 12, .inl (fun _ => 0))), ((r_4 4), .inl (k_6, 12, .inl (fun _ => 0))), ((r_4 5), .inl (k_6, 12, .inl (fun _ => 0))), ((r_4 6), .inl (k_6, 12, .inl (fun _ => 0))), ((r_4 7), .inl (k_6, 12, .inl (fun _ => 0))), ((r_4 8), .inl (k_6, 12, .inl (fun _ => 0))), ((r_4 9), .inl (k_6, 12, .inl (fun _ => 0))), ((r_4 10), .inl (k_6, 12, .inl (fun _ => 0))), ((r_4 11), .inl (k_6, 12, .inl (fun _ => 0))), (q_7, .inl (k_8, 12, .inl (fun _ => 0))), (q_9, .inl (k_10, 12, .inl (fun _ => 0)))] H := hP
  have hD : va_D A [(h0, .inr (1, [.ref q_1, .ref q_3, .ref q_7, .null])), (q_1, .inl (k_2, 12, .inl (fun _ => 0))), (q_3, .inl (k_5, 12, .inr (.inr (.inr (.inr (fun i => if i < 12 then some (r_4 i) else none)))))), ((r_4 0), .inl (k_6, 12, .inl (fun _ => 0))), ((r_4 1), .inl (k_6, 12, .inl (fun _ => 0))), ((r_4 2), .inl (k_6, 12, .inl (fun _ => 0))), ((r_4 3), .inl (k_6, 12, .inl (fun _ => 0))), ((r_4 4), .inl (k_6, 12, .inl (fun _ => 0))), ((r_4 5), .inl (k_6, 12, .inl (fun _ => 0))), ((r_4 6), .inl (k_6, 12, .inl (fun _ => 0))), ((r_4 7), .inl (k_6, 12, .inl (fun _ => 0))), ((r_4 8), .inl (k_6, 12, .inl (fun _ => 0))), ((r_4 9), .inl (k_6, 12, .inl (fun _ => 0))), ((r_4 10), .inl (k_6, 12, .inl (fun _ => 0))), ((r_4 11), .inl (k_6, 12, .inl (fun _ => 0))), (q_7, .inl (k_8, 12, .inl (fun _ => 0))), (q_9, .inl (k_10, 12, .inl (fun _ => 0)))] := hD
  refine va_putF (D := (dC, dI)) (ci := 1) (v := .ref q_9) (ty := (tyX1 3)) (C := RX1) (T := TX1) (N := 4) hx hb hts hin1 tyX1 tyX1_ok nmX1 hown hK hP hD hS 0 rfl rfl 3 (by decide) (hts (.fieldLink RX1 23 "YamRiders$Leader" "from" "[I") (by decide +kernel)) (fun _ h9 => h9) rfl hin rfl (by decide +kernel) rfl rfl (Nat.le_of_ble_eq_true rfl) dX1_init_37 (fun H locs hP hD hS => ?_)
  have hP : va_P (dC, dI) vwCl [(h0, .inr (1, [.ref q_1, .ref q_3, .ref q_7, .ref q_9])), (q_1, .inl (k_2, 12, .inl (fun _ => 0))), (q_3, .inl (k_5, 12, .inr (.inr (.inr (.inr (fun i => if i < 12 then some (r_4 i) else none)))))), ((r_4 0), .inl (k_6, 12, .inl (fun _ => 0))), ((r_4 1), .inl (k_6, 12, .inl (fun _ => 0))), ((r_4 2), .inl (k_6, 12, .inl (fun _ => 0))), ((r_4 3), .inl (k_6, 12, .inl (fun _ => 0))), ((r_4 4), .inl (k_6, 12, .inl (fun _ => 0))), ((r_4 5), .inl (k_6, 12, .inl (fun _ => 0))), ((r_4 6), .inl (k_6, 12, .inl (fun _ => 0))), ((r_4 7), .inl (k_6, 12, .inl (fun _ => 0))), ((r_4 8), .inl (k_6, 12, .inl (fun _ => 0))), ((r_4 9), .inl (k_6, 12, .inl (fun _ => 0))), ((r_4 10), .inl (k_6, 12, .inl (fun _ => 0))), ((r_4 11), .inl (k_6, 12, .inl (fun _ => 0))), (q_7, .inl (k_8, 12, .inl (fun _ => 0))), (q_9, .inl (k_10, 12, .inl (fun _ => 0)))] H := hP
  have hD : va_D A [(h0, .inr (1, [.ref q_1, .ref q_3, .ref q_7, .ref q_9])), (q_1, .inl (k_2, 12, .inl (fun _ => 0))), (q_3, .inl (k_5, 12, .inr (.inr (.inr (.inr (fun i => if i < 12 then some (r_4 i) else none)))))), ((r_4 0), .inl (k_6, 12, .inl (fun _ => 0))), ((r_4 1), .inl (k_6, 12, .inl (fun _ => 0))), ((r_4 2), .inl (k_6, 12, .inl (fun _ => 0))), ((r_4 3), .inl (k_6, 12, .inl (fun _ => 0))), ((r_4 4), .inl (k_6, 12, .inl (fun _ => 0))), ((r_4 5), .inl (k_6, 12, .inl (fun _ => 0))), ((r_4 6), .inl (k_6, 12, .inl (fun _ => 0))), ((r_4 7), .inl (k_6, 12, .inl (fun _ => 0))), ((r_4 8), .inl (k_6, 12, .inl (fun _ => 0))), ((r_4 9), .inl (k_6, 12, .inl (fun _ => 0))), ((r_4 10), .inl (k_6, 12, .inl (fun _ => 0))), ((r_4 11), .inl (k_6, 12, .inl (fun _ => 0))), (q_7, .inl (k_8, 12, .inl (fun _ => 0))), (q_9, .inl (k_10, 12, .inl (fun _ => 0)))] := hD
  have hP9 := hP.sub (ws' := []) [] rfl
  have hD9 := hD.sub (ws' := []) [] (by decide) rfl
  have hK9 := hK.sub (tys' := []) [] rfl
  refine W.widen (k := 16) (n := 192) (Nat.le_of_ble_eq_true rfl) (Nat.le_of_ble_eq_true rfl) ?_
  exact W.vret hx hb hr (fun t9 ht hW => ⟨⟨(), rfl, trivial, by rw [ht]; exact hP9, va_K.moved hW.alike hK9, hD9⟩, hS.F ht⟩) hS.2.2 dX1_init_40

set_option maxHeartbeats 4000000 in
set_option maxRecDepth 100000 in
theorem c_X0_init (l : Launch) (dC : Nat → ClassId) (dI : Nat → Nat → Nat) (h0 : Nat) (p1 : Int32) (p2 : Int32) (sz : Nat) : Met l yX0_init wsX0_init ({ frames := 1, cells := 0, slots := 0, locals := 20 }) (va_Pc [.ref h0, .int 0, .int p1, .int p2] (cP dC dI [(h0, .inr (0, [.int 0, .int 0, .int 0]))] [] sz)) (va_Qv (fun (_ : Unit) => True) (fun (_ : Unit) t9 => cQ dC dI [(h0, .inr (0, [.int 0, .int p1, .int p2]))] [] (va_A [(h0, .inr (0, [.int 0, .int 0, .int 0]))] sz) t9) (va_A [(h0, .inr (0, [.int 0, .int 0, .int 0]))] sz)) 0 0 (va_A [(h0, .inr (0, [.int 0, .int 0, .int 0]))] sz) := by
  refine Met.ofW (cc := cX0_init) (maxL := 4) (ret := none) (by decide) rfl ?_
  intro p e s m args below meth c s₁ B hml hv
  obtain ⟨rfl, hsz, hP, hK, hD0, hN⟩ := hv
  have hx := B.exec
  have hb := B.bytes
  have hr := B.returns
  have hts := atoms_spec (ws := wsX0_init) B.pre
  have hown : s.vm.findClass RX0 = some m.cls := findClass_of_methodNamed B.named
  have hlocks := B.notSynchronized
  have hin : meth.name = "<init>" := (name_of_methodNamed B.named B.method).1
  subst hsz
  have hin0 : ∀ w ∈ u_ws RX0 TX0 3, w ∈ wsX0_init := by decide +kernel
  have hD := hD0.self (sz := s.heap.size)
  generalize hAe : va_A [(h0, .inr (0, [.int 0, .int 0, .int 0]))] s.heap.size = A at hD ⊢
  have hA : ∀ q : Nat, s.heap.size ≤ q → A q := fun q h => by rw [← hAe]; exact Or.inr h
  have hS : va_S A s.heap s.heap [] := va_S.rf
  have hP : va_P (dC, dI) vwCl [(h0, .inr (0, [.int 0, .int 0, .int 0]))] s.heap := hP
  have hl := lv_entry ([.ref h0, .int 0, .int p1, .int p2]) (n := 4) (Nat.le_of_ble_eq_true rfl)
  rw [lg_entry_eq]
  generalize (lg_sl ([.ref h0, .int 0, .int p1, .int p2]) ++ List.replicate (4 - (lg_sl ([.ref h0, .int 0, .int p1, .int p2])).length) Slot.unset).toArray = ls at hl ⊢
  have hl : lv_has ls 4 [(0, .ref h0), (1, .int 0), (2, .int p1), (3, .int p2)] := hl
  refine lv_aload_n hx hb dX0_init_0 rfl (lv_at hl 0 rfl) ?_
  refine W.objInit hx hb hown (hts (.methodLink RX0 1 objectInit) (by decide +kernel)) (hts (.instanceMethod objectInit) (by decide +kernel)) (hts (.code objectInit ⟨#[0xb1]⟩ 1 none) (by decide +kernel)) rfl (by rw [hml]; exact hl.1) rfl dX0_init_1 (Nat.le_of_ble_eq_true rfl) (Nat.le_of_ble_eq_true rfl) ?_
  refine W.eq (g2 := F0 m 4 ls []) rfl ?_
  refine lv_aload_n hx hb dX0_init_4 rfl (lv_at hl 0 rfl) ?_
  refine lv_iload_n hx hb dX0_init_5 rfl (lv_at hl 1 rfl) ?_
  refine va_putF (D := (dC, dI)) (ci := 0) (v := .int 0) (ty := (tyX0 0)) (C := RX0) (T := TX0) (N := 3) hx hb hts hin0 tyX0 tyX0_ok nmX0 hown hK hP hD hS 0 rfl rfl 0 (by decide) (hts (.fieldLink RX0 7 "YamRiders$Horse" "number" "I") (by decide +kernel)) (fun _ h9 => h9) rfl hin rfl (by decide +kernel) rfl rfl (Nat.le_of_ble_eq_true rfl) dX0_init_6 (fun H locs hP hD hS => ?_)
  have hP : va_P (dC, dI) vwCl [(h0, .inr (0, [.int 0, .int 0, .int 0]))] H := hP
  have hD : va_D A [(h0, .inr (0, [.int 0, .int 0, .int 0]))] := hD
  refine lv_aload_n hx hb dX0_init_9 rfl (lv_at hl 0 rfl) ?_
  refine lv_iload_n hx hb dX0_init_10 rfl (lv_at hl 2 rfl) ?_
  refine va_put (D := (dC, dI)) (ci := 0) (v := .int p1) (ty := (tyX0 1)) (C := RX0) (T := TX0) (N := 3) hx hb hts hin0 tyX0 tyX0_ok nmX0 hown hK hP hD hS 0 rfl rfl 1 (by decide) (hts (.fieldLink RX0 13 "YamRiders$Horse" "station" "I") (by decide +kernel)) (fun _ h9 => h9) rfl (by decide +kernel) rfl rfl (Nat.le_of_ble_eq_true rfl) dX0_init_11 (fun H locs hP hD hS => ?_)
  have hP : va_P (dC, dI) vwCl [(h0, .inr (0, [.int 0, .int p1, .int 0]))] H := hP
  have hD : va_D A [(h0, .inr (0, [.int 0, .int p1, .int 0]))] := hD
  refine lv_aload_n hx hb dX0_init_14 rfl (lv_at hl 0 rfl) ?_
  refine lv_iload_n hx hb dX0_init_15 rfl (lv_at hl 3 rfl) ?_
  refine va_put (D := (dC, dI)) (ci := 0) (v := .int p2) (ty := (tyX0 2)) (C := RX0) (T := TX0) (N := 3) hx hb hts hin0 tyX0 tyX0_ok nmX0 hown hK hP hD hS 0 rfl rfl 2 (by decide) (hts (.fieldLink RX0 16 "YamRiders$Horse" "strength" "I") (by decide +kernel)) (fun _ h9 => h9) rfl (by decide +kernel) rfl rfl (Nat.le_of_ble_eq_true rfl) dX0_init_16 (fun H locs hP hD hS => ?_)
  have hP : va_P (dC, dI) vwCl [(h0, .inr (0, [.int 0, .int p1, .int p2]))] H := hP
  have hD : va_D A [(h0, .inr (0, [.int 0, .int p1, .int p2]))] := hD
  have hP9 := hP.sub (ws' := [(h0, .inr (0, [.int 0, .int p1, .int p2]))]) [0] rfl
  have hD9 := hD.sub (ws' := [(h0, .inr (0, [.int 0, .int p1, .int p2]))]) [0] (by decide) rfl
  have hK9 := hK.sub (tys' := []) [] rfl
  refine W.widen (k := 0) (n := 0) (Nat.le_of_ble_eq_true rfl) (Nat.le_of_ble_eq_true rfl) ?_
  exact W.vret hx hb hr (fun t9 ht hW => ⟨⟨(), rfl, trivial, by rw [ht]; exact hP9, va_K.moved hW.alike hK9, hD9⟩, hS.F ht⟩) hS.2.2 dX0_init_19

set_option maxHeartbeats 4000000 in
set_option maxRecDepth 100000 in
theorem c_X8_horse (l : Launch) (dC : Nat → ClassId) (dI : Nat → Nat → Nat) (h0 : Nat) (a1 : Nat) (a2 : Nat) (a3 : Nat) (a4 : Nat) (a5 : Nat) (a6 : Nat) (a7 : Nat) (a8 : Nat) (a9 : Nat) (k5 : ClassId) (p0 : Int32) (p1 : Int32) (sz : Nat) : Met l yX8_horse wsX8_horse ({ frames := 2, cells := 1, slots := 3, locals := 43 }) (va_Pc [.ref h0, .int p0, .int p1] (cP dC dI [(h0, .inr (8, [.ref a1, .ref a2, .ref a3, .ref a4, .ref a5, .ref a6, .ref a7, .ref a8, .ref a9, .int 0, .int 0, .int 0, .int 0, .int 0, .int 0])), (a5, .inl (k5, 60, .inr (.inr (.inr (.inr (fun _ => none))))))] [(k5, .object "YamRiders$Horse")] sz)) (va_Qi (fun (r : Int32) (_ : Unit) => r = (if (sp_st p0) = 0 then (-1) else (if p1 < 0 then (-1) else (if p1 ≤ 100 then 0 else (-1))))) (fun (_ : Unit) t9 => cQ dC dI [] [] (va_A [(h0, .inr (8, [.ref a1, .ref a2, .ref a3, .ref a4, .ref a5, .ref a6, .ref a7, .ref a8, .ref a9, .int 0, .int 0, .int 0, .int 0, .int 0, .int 0])), (a5, .inl (k5, 60, .inr (.inr (.inr (.inr (fun _ => none))))))] sz) t9) (va_A [(h0, .inr (8, [.ref a1, .ref a2, .ref a3, .ref a4, .ref a5, .ref a6, .ref a7, .ref a8, .ref a9, .int 0, .int 0, .int 0, .int 0, .int 0, .int 0])), (a5, .inl (k5, 60, .inr (.inr (.inr (.inr (fun _ => none))))))] sz)) 1 3 (va_A [(h0, .inr (8, [.ref a1, .ref a2, .ref a3, .ref a4, .ref a5, .ref a6, .ref a7, .ref a8, .ref a9, .int 0, .int 0, .int 0, .int 0, .int 0, .int 0])), (a5, .inl (k5, 60, .inr (.inr (.inr (.inr (fun _ => none))))))] sz) := by
  refine Met.ofW (cc := cX8_horse) (maxL := 3) (ret := (some .int)) (by decide) rfl ?_
  intro p e s m args below meth c s₁ B hml hv
  obtain ⟨rfl, hsz, hP, hK, hD0, hN⟩ := hv
  have hx := B.exec
  have hb := B.bytes
  have hr := B.returns
  have hts := atoms_spec (ws := wsX8_horse) B.pre
  have hown : s.vm.findClass RX8 = some m.cls := findClass_of_methodNamed B.named
  have hlocks := B.notSynchronized
  subst hsz
  have hin0 : ∀ w ∈ u_ws RX0 TX0 3, w ∈ wsX8_horse := by decide +kernel
  have hin8 : ∀ w ∈ u_ws RX8 TX8 15, w ∈ wsX8_horse := by decide +kernel
  have hD := hD0.self (sz := s.heap.size)
  generalize hAe : va_A [(h0, .inr (8, [.ref a1, .ref a2, .ref a3, .ref a4, .ref a5, .ref a6, .ref a7, .ref a8, .ref a9, .int 0, .int 0, .int 0, .int 0, .int 0, .int 0])), (a5, .inl (k5, 60, .inr (.inr (.inr (.inr (fun _ => none))))))] s.heap.size = A at hD ⊢
  have hA : ∀ q : Nat, s.heap.size ≤ q → A q := fun q h => by rw [← hAe]; exact Or.inr h
  have hS : va_S A s.heap s.heap [] := va_S.rf
  have hP : va_P (dC, dI) vwCl [(h0, .inr (8, [.ref a1, .ref a2, .ref a3, .ref a4, .ref a5, .ref a6, .ref a7, .ref a8, .ref a9, .int 0, .int 0, .int 0, .int 0, .int 0, .int 0])), (a5, .inl (k5, 60, .inr (.inr (.inr (.inr (fun _ => none))))))] s.heap := hP
  have hl := lv_entry ([.ref h0, .int p0, .int p1]) (n := 3) (Nat.le_of_ble_eq_true rfl)
  rw [lg_entry_eq]
  generalize (lg_sl ([.ref h0, .int p0, .int p1]) ++ List.replicate (3 - (lg_sl ([.ref h0, .int p0, .int p1])).length) Slot.unset).toArray = ls at hl ⊢
  have hl : lv_has ls 3 [(0, .ref h0), (1, .int p0), (2, .int p1)] := hl
  refine lv_aload_n hx hb dX8_horse_0 rfl (lv_at hl 0 rfl) ?_
  refine va_get (D := (dC, dI)) (ci := 8) (v := .int 0) (C := RX8) (T := TX8) (N := 15) hx hb hts hin8 hown hK hP 0 rfl rfl 10 (by decide) (hts (.fieldLink RX8 110 "YamRiders" "horseCount" "I") (by decide +kernel)) (fun _ h9 => h9) rfl dX8_horse_1 ?_
  refine lv_bipush (v := 60) hx hb dX8_horse_4 (by decide) ?_
  refine lv_icmp_ge (tgt := 26) hx hb dX8_horse_6 (by decide) (fun c_1 => by first | exact absurd c_1 (by decide) | exact absurd (by decide) c_1) (fun _ => ?_)
  refine lv_iload_n hx hb dX8_horse_9 rfl (lv_at hl 1 rfl) ?_
  have hPc := hP.sub (ws' := []) [] rfl
  have hDc := hD.sub (ws' := []) [] (by decide) rfl
  have hKc := hK.sub (tys' := []) [] rfl
  refine cs_i (va_runS (As := [.int p0]) (rest := []) ⟨hx, hb, hml, hown, hts⟩ (c_X8_isStation l dC dI p0 s.heap.size) (va_cwS 1 hts gX8_horse_X8_isStation rfl rfl rfl (by decide +kernel) ⟨Nat.le_of_ble_eq_true rfl, Nat.le_of_ble_eq_true rfl⟩) ⟨c_blind, c_pre hPc hKc hDc hN⟩ rfl rfl hl.1 rfl (lv_room (Nat.le_of_ble_eq_true rfl)) dX8_horse_10 ⟨Nat.le_of_ble_eq_true rfl, Nat.le_of_ble_eq_true rfl⟩) (fun r_2 hr_2 => ?_)
  subst hr_2
  refine lv_if_eq (tgt := 26) hx hb dX8_horse_13 (by decide) (fun c_3 => ?_) (fun c_3 => ?_)
  · refine lv_iconst (v := (-1)) hx hb dX8_horse_26 (by decide) ?_
    have hP9 := hP.sub (ws' := []) [] rfl
    have hD9 := hD.sub (ws' := []) [] (by decide) rfl
    have hK9 := hK.sub (tys' := []) [] rfl
    refine W.widen (k := 1) (n := 3) (Nat.le_of_ble_eq_true rfl) (Nat.le_of_ble_eq_true rfl) ?_
    exact W.iret (v := (-1)) hx hb hr (fun t9 ht hW => ⟨⟨_, (), rfl, (by rw [if_pos c_3]), by rw [ht]; exact hP9, va_K.moved hW.alike hK9, hD9⟩, hS.F ht⟩) hS.2.2 dX8_horse_27
  · refine lv_iload_n hx hb dX8_horse_16 rfl (lv_at hl 2 rfl) ?_
    refine lv_if_lt (tgt := 26) hx hb dX8_horse_17 (by decide) (fun c_4 => ?_) (fun c_4 => ?_)
    · refine lv_iconst (v := (-1)) hx hb dX8_horse_26 (by decide) ?_
      have hP9 := hP.sub (ws' := []) [] rfl
      have hD9 := hD.sub (ws' := []) [] (by decide) rfl
      have hK9 := hK.sub (tys' := []) [] rfl
      refine W.widen (k := 1) (n := 3) (Nat.le_of_ble_eq_true rfl) (Nat.le_of_ble_eq_true rfl) ?_
      exact W.iret (v := (-1)) hx hb hr (fun t9 ht hW => ⟨⟨_, (), rfl, (by rw [if_neg c_3, if_pos c_4]), by rw [ht]; exact hP9, va_K.moved hW.alike hK9, hD9⟩, hS.F ht⟩) hS.2.2 dX8_horse_27
    · refine lv_iload_n hx hb dX8_horse_20 rfl (lv_at hl 2 rfl) ?_
      refine lv_bipush (v := 100) hx hb dX8_horse_21 (by decide) ?_
      refine lv_icmp_le (tgt := 28) hx hb dX8_horse_23 (by decide) (fun c_5 => ?_) (fun c_5 => ?_)
      · refine lv_aload_n hx hb dX8_horse_28 rfl (lv_at hl 0 rfl) ?_
        refine va_get (D := (dC, dI)) (ci := 8) (v := .ref a5) (C := RX8) (T := TX8) (N := 15) hx hb hts hin8 hown hK hP 0 rfl rfl 4 (by decide) (hts (.fieldLink RX8 36 "YamRiders" "horses" "[LYamRiders$Horse;") (by decide +kernel)) (fun _ h9 => h9) rfl dX8_horse_29 ?_
        refine lv_aload_n hx hb dX8_horse_32 rfl (lv_at hl 0 rfl) ?_
        refine va_get (D := (dC, dI)) (ci := 8) (v := .int 0) (C := RX8) (T := TX8) (N := 15) hx hb hts hin8 hown hK hP 0 rfl rfl 10 (by decide) (hts (.fieldLink RX8 110 "YamRiders" "horseCount" "I") (by decide +kernel)) (fun _ h9 => h9) rfl dX8_horse_33 ?_
        refine va_new (ci := 0) (fs := [.int 0, .int 0, .int 0]) (C := RX0) (T := TX0) (N := 3) hx hb hts hin0 tyX0 tyX0_ok hown (hts (.classLink RX8 34 RX0) (by decide +kernel)) (hts (.instantiable RX0 3) (by decide +kernel)) (hts (.initialized RX0) (by decide +kernel)) hK hP hD hS hA rfl (by decide +kernel) (Nat.le_of_ble_eq_true rfl) (Nat.le_of_ble_eq_true rfl) dX8_horse_36 (fun q_6 H hP hD hS => ?_)
        refine W.widen (k := 1) (n := 3) (Nat.le_of_ble_eq_true rfl) (Nat.le_of_ble_eq_true rfl) ?_
        have hP : va_P (dC, dI) vwCl [(h0, .inr (8, [.ref a1, .ref a2, .ref a3, .ref a4, .ref a5, .ref a6, .ref a7, .ref a8, .ref a9, .int 0, .int 0, .int 0, .int 0, .int 0, .int 0])), (a5, .inl (k5, 60, .inr (.inr (.inr (.inr (fun _ => none)))))), (q_6, .inr (0, [.int 0, .int 0, .int 0]))] H := hP
        have hD : va_D A [(h0, .inr (8, [.ref a1, .ref a2, .ref a3, .ref a4, .ref a5, .ref a6, .ref a7, .ref a8, .ref a9, .int 0, .int 0, .int 0, .int 0, .int 0, .int 0])), (a5, .inl (k5, 60, .inr (.inr (.inr (.inr (fun _ => none)))))), (q_6, .inr (0, [.int 0, .int 0, .int 0]))] := hD
        refine lv_dup hx hb dX8_horse_39 rfl ?_
        refine lv_aload_n hx hb dX8_horse_40 rfl (lv_at hl 0 rfl) ?_
        refine va_get (D := (dC, dI)) (ci := 8) (v := .int 0) (C := RX8) (T := TX8) (N := 15) hx hb hts hin8 hown hK hP 0 rfl rfl 10 (by decide) (hts (.fieldLink RX8 110 "YamRiders" "horseCount" "I") (by decide +kernel)) (fun _ h9 => h9) rfl dX8_horse_41 ?_
        refine lv_iload_n hx hb dX8_horse_44 rfl (lv_at hl 1 rfl) ?_
        refine lv_iload_n hx hb dX8_horse_45 rfl (lv_at hl 2 rfl) ?_
        have hPc := hP.sub (ws' := [(q_6, .inr (0, [.int 0, .int 0, .int 0]))]) [2] rfl
        have hDc := hD.sub (ws' := [(q_6, .inr (0, [.int 0, .int 0, .int 0]))]) [2] (by decide) rfl
        have hKc := hK.sub (tys' := []) [] rfl
        have hFc := va_free (wc := [(q_6, .inr (0, [.int 0, .int 0, .int 0]))]) hD hS hA [2] rfl
        refine va_callv (va_runI (As := [.int 0, .int p0, .int p1]) (rest := [.ref q_6, .int 0, .ref a5]) ⟨hx, hb, hml, hown, hts⟩ (c_X0_init l dC dI q_6 p0 p1 H.size) (cwI 3 hts gX8_horse_X0_init rfl rfl rfl (hts (.initialized RX0) (by decide +kernel)) (hts (.methodLink RX8 113 yX0_init) (by decide +kernel)) (hts (.instanceMethod yX0_init) (by decide +kernel)) rfl (by decide +kernel) ⟨Nat.le_of_ble_eq_true rfl, Nat.le_of_ble_eq_true rfl⟩) ⟨c_blind, c_pre hPc hKc hDc hN⟩ rfl rfl hl.1 rfl (lv_room (Nat.le_of_ble_eq_true rfl)) dX8_horse_46 ⟨Nat.le_of_ble_eq_true rfl, Nat.le_of_ble_eq_true rfl⟩) hS (fun q _ h => hFc q h) hFc (fun u9 t9 H1 locs ht hvm hw hB hz1 hk1 hS => ?_)
        obtain ⟨hP1, hK1, hD1⟩ := hB
        rw [ht] at hP1
        have hK1 := va_K.moved hvm.symm hK1
        obtain ⟨hP, hD⟩ := va_join (wr := [(h0, .inr (8, [.ref a1, .ref a2, .ref a3, .ref a4, .ref a5, .ref a6, .ref a7, .ref a8, .ref a9, .int 0, .int 0, .int 0, .int 0, .int 0, .int 0])), (a5, .inl (k5, 60, .inr (.inr (.inr (.inr (fun _ => none))))))]) (w1 := [(q_6, .inr (0, [.int 0, .int p0, .int p1]))]) hP hD [2] [0, 1] rfl rfl (by decide) (by decide) hk1 hFc hP1 hD1
        have hK := (hK.sub (tys' := [(k5, .object "YamRiders$Horse")]) [0] rfl).app hK1
        generalize H1 = H at hP hS ⊢
        have hK : va_K (dC, dI) vwCl [(k5, .object "YamRiders$Horse")] s := hK
        have hP : va_P (dC, dI) vwCl [(h0, .inr (8, [.ref a1, .ref a2, .ref a3, .ref a4, .ref a5, .ref a6, .ref a7, .ref a8, .ref a9, .int 0, .int 0, .int 0, .int 0, .int 0, .int 0])), (a5, .inl (k5, 60, .inr (.inr (.inr (.inr (fun _ => none)))))), (q_6, .inr (0, [.int 0, .int p0, .int p1]))] H := hP
        have hD : va_D A [(h0, .inr (8, [.ref a1, .ref a2, .ref a3, .ref a4, .ref a5, .ref a6, .ref a7, .ref a8, .ref a9, .int 0, .int 0, .int 0, .int 0, .int 0, .int 0])), (a5, .inl (k5, 60, .inr (.inr (.inr (.inr (fun _ => none)))))), (q_6, .inr (0, [.int 0, .int p0, .int p1]))] := hD
        refine W.widen (k := 1) (n := 3) (Nat.le_of_ble_eq_true rfl) (Nat.le_of_ble_eq_true rfl) ?_
        refine va_astq hx hb hK hP hD hS 1 0 2 0 rfl rfl rfl rfl (by unfold vp_in; decide) dX8_horse_49 (fun H locs hP hD hS => ?_)
        have hP : va_P (dC, dI) vwCl [(h0, .inr (8, [.ref a1, .ref a2, .ref a3, .ref a4, .ref a5, .ref a6, .ref a7, .ref a8, .ref a9, .int 0, .int 0, .int 0, .int 0, .int 0, .int 0])), (a5, .inl (k5, 60, .inr (.inr (.inr (.inr (va_up (fun _ => none) (0 : Int32).toNatClampNeg (some q_6))))))), (q_6, .inr (0, [.int 0, .int p0, .int p1]))] H := hP
        have hD : va_D A [(h0, .inr (8, [.ref a1, .ref a2, .ref a3, .ref a4, .ref a5, .ref a6, .ref a7, .ref a8, .ref a9, .int 0, .int 0, .int 0, .int 0, .int 0, .int 0])), (a5, .inl (k5, 60, .inr (.inr (.inr (.inr (va_up (fun _ => none) (0 : Int32).toNatClampNeg (some q_6))))))), (q_6, .inr (0, [.int 0, .int p0, .int p1]))] := hD
        obtain ⟨f_8, ef_8⟩ : ∃ w9 : Nat → Option Nat, w9 = va_up (fun _ => none) (0 : Int32).toNatClampNeg (some q_6) := ⟨_, rfl⟩
        rw [← ef_8] at hP hD
        refine lv_aload_n hx hb dX8_horse_50 rfl (lv_at hl 0 rfl) ?_
        refine lv_dup hx hb dX8_horse_51 rfl ?_
        refine va_get (D := (dC, dI)) (ci := 8) (v := .int 0) (C := RX8) (T := TX8) (N := 15) hx hb hts hin8 hown hK hP 0 rfl rfl 10 (by decide) (hts (.fieldLink RX8 110 "YamRiders" "horseCount" "I") (by decide +kernel)) (fun _ h9 => h9) rfl dX8_horse_52 ?_
        refine lv_iconst (v := 1) hx hb dX8_horse_55 (by decide) ?_
        refine lv_iadd hx hb dX8_horse_56 ?_
        refine lv_topi (fun y_9 ey_9 => ?_)
        obtain rfl : y_9 = 1 := ey_9.trans (by decide)
        refine va_put (D := (dC, dI)) (ci := 8) (v := .int 1) (ty := (tyX8 10)) (C := RX8) (T := TX8) (N := 15) hx hb hts hin8 tyX8 tyX8_ok nmX8 hown hK hP hD hS 0 rfl rfl 10 (by decide) (hts (.fieldLink RX8 110 "YamRiders" "horseCount" "I") (by decide +kernel)) (fun _ h9 => h9) rfl (by decide +kernel) rfl rfl (Nat.le_of_ble_eq_true rfl) dX8_horse_57 (fun H locs hP hD hS => ?_)
        have hP : va_P (dC, dI) vwCl [(h0, .inr (8, [.ref a1, .ref a2, .ref a3, .ref a4, .ref a5, .ref a6, .ref a7, .ref a8, .ref a9, .int 0, .int 1, .int 0, .int 0, .int 0, .int 0])), (a5, .inl (k5, 60, .inr (.inr (.inr (.inr f_8))))), (q_6, .inr (0, [.int 0, .int p0, .int p1]))] H := hP
        have hD : va_D A [(h0, .inr (8, [.ref a1, .ref a2, .ref a3, .ref a4, .ref a5, .ref a6, .ref a7, .ref a8, .ref a9, .int 0, .int 1, .int 0, .int 0, .int 0, .int 0])), (a5, .inl (k5, 60, .inr (.inr (.inr (.inr f_8))))), (q_6, .inr (0, [.int 0, .int p0, .int p1]))] := hD
        refine lv_aload_n hx hb dX8_horse_60 rfl (lv_at hl 0 rfl) ?_
        refine va_get (D := (dC, dI)) (ci := 8) (v := .int 1) (C := RX8) (T := TX8) (N := 15) hx hb hts hin8 hown hK hP 0 rfl rfl 10 (by decide) (hts (.fieldLink RX8 110 "YamRiders" "horseCount" "I") (by decide +kernel)) (fun _ h9 => h9) rfl dX8_horse_61 ?_
        refine lv_iconst (v := 1) hx hb dX8_horse_64 (by decide) ?_
        refine lv_isub hx hb dX8_horse_65 ?_
        refine lv_topi (fun y_10 ey_10 => ?_)
        obtain rfl : y_10 = 0 := ey_10.trans (by decide)
        have hP9 := hP.sub (ws' := []) [] rfl
        have hD9 := hD.sub (ws' := []) [] (by decide) rfl
        have hK9 := hK.sub (tys' := []) [] rfl
        refine W.widen (k := 1) (n := 3) (Nat.le_of_ble_eq_true rfl) (Nat.le_of_ble_eq_true rfl) ?_
        exact W.iret (v := 0) hx hb hr (fun t9 ht hW => ⟨⟨_, (), rfl, (by rw [if_neg c_3, if_neg c_4, if_pos c_5]), by rw [ht]; exact hP9, va_K.moved hW.alike hK9, hD9⟩, hS.F ht⟩) hS.2.2 dX8_horse_66
      · refine lv_iconst (v := (-1)) hx hb dX8_horse_26 (by decide) ?_
        have hP9 := hP.sub (ws' := []) [] rfl
        have hD9 := hD.sub (ws' := []) [] (by decide) rfl
        have hK9 := hK.sub (tys' := []) [] rfl
        refine W.widen (k := 1) (n := 3) (Nat.le_of_ble_eq_true rfl) (Nat.le_of_ble_eq_true rfl) ?_
        exact W.iret (v := (-1)) hx hb hr (fun t9 ht hW => ⟨⟨_, (), rfl, (by rw [if_neg c_3, if_neg c_4, if_neg c_5]), by rw [ht]; exact hP9, va_K.moved hW.alike hK9, hD9⟩, hS.F ht⟩) hS.2.2 dX8_horse_27

set_option maxHeartbeats 4000000 in
set_option maxRecDepth 100000 in
theorem c_J7_fill (l : Launch) (dC : Nat → ClassId) (dI : Nat → Nat → Nat) (b1 : Nat) (k1 : ClassId) (f1 : Nat → Int32) (p0 : Int32) (sz : Nat) : Met l yJ7_fill_53178 wsJ7_fill_53178 ({ frames := 0, cells := 0, slots := 0, locals := 0 }) (va_Pc [.ref b1, .int p0] (cP dC dI [(b1, .inl (k1, 12, .inl f1))] [(k1, .int)] sz)) (va_Qv (fun (_ : Unit) => True) (fun (_ : Unit) t9 => ∃ (f2 : Nat → Int32), cQ dC dI [(b1, .inl (k1, 12, .inl f2))] [] (va_A [(b1, .inl (k1, 12, .inl f1))] sz) t9) (va_A [(b1, .inl (k1, 12, .inl f1))] sz)) 0 0 (va_A [(b1, .inl (k1, 12, .inl f1))] sz) := by
  refine Met.ofW (cc := cJ7_fill_53178) (maxL := 4) (ret := none) (by decide) rfl ?_
  intro p e s m args below meth c s₁ B hml hv
  obtain ⟨rfl, hsz, hP, hK, hD0, hN⟩ := hv
  have hx := B.exec
  have hb := B.bytes
  have hr := B.returns
  have hts := atoms_spec (ws := wsJ7_fill_53178) B.pre
  have hown : s.vm.findClass RJ7 = some m.cls := findClass_of_methodNamed B.named
  have hlocks := B.notSynchronized
  subst hsz
  have hD := hD0.self (sz := s.heap.size)
  generalize hAe : va_A [(b1, .inl (k1, 12, .inl f1))] s.heap.size = A at hD ⊢
  have hA : ∀ q : Nat, s.heap.size ≤ q → A q := fun q h => by rw [← hAe]; exact Or.inr h
  have hS : va_S A s.heap s.heap [] := va_S.rf
  have hP : va_P (dC, dI) vwCl [(b1, .inl (k1, 12, .inl f1))] s.heap := hP
  have hl := lv_entry ([.ref b1, .int p0]) (n := 4) (Nat.le_of_ble_eq_true rfl)
  rw [lg_entry_eq]
  generalize (lg_sl ([.ref b1, .int p0]) ++ List.replicate (4 - (lg_sl ([.ref b1, .int p0])).length) Slot.unset).toArray = ls at hl ⊢
  have hl : lv_has ls 4 [(0, .ref b1), (1, .int p0)] := hl
  refine lv_iconst (v := 0) hx hb dJ7_fill_53178_0 (by decide) ?_
  refine lv_istore_n (lv' := [(2, .int 0), (0, .ref b1), (1, .int p0)]) hx hb dJ7_fill_53178_1 rfl hl (by decide) rfl (fun ls hl => ?_)
  refine lv_aload_n hx hb dJ7_fill_53178_2 rfl (lv_at hl 1 rfl) ?_
  refine va_alen (v := 12) hx hb hK hP 0 0 rfl rfl rfl dJ7_fill_53178_3 ?_
  refine lv_istore_n (lv' := [(3, .int 12), (2, .int 0), (0, .ref b1), (1, .int p0)]) hx hb dJ7_fill_53178_4 rfl hl (by decide) rfl (fun ls hl => ?_)
  have HL : ∀ (n k : Nat) (f : Nat → Int32), k ≤ 12 → 12 + 1 ≤ k + n → ∀ (H : Heap) (locs : List Loc), va_P (dC, dI) vwCl [(b1, .inl (k1, 12, .inl f))] H → va_D A [(b1, .inl (k1, 12, .inl f))] → va_S A s.heap H locs → ∀ ls : Array Slot, lv_has ls 4 [(0, .ref b1), (1, .int p0), (2, .int (nI k)), (3, .int 12)] → W p l e (headSpec wsJ7_fill_53178 ({ frames := 0, cells := 0, slots := 0, locals := 0 })).room s m ([.ref b1, .int p0]).toArray below meth c H locs 0 0 (MQ below (va_Qv (fun (_ : Unit) => True) (fun (_ : Unit) t9 => ∃ (f2 : Nat → Int32), cQ dC dI [(b1, .inl (k1, 12, .inl f2))] [] A t9) A) ([.ref b1, .int p0]).toArray s 0 0 A) (F0 m 5 ls []) := by
    intro n
    induction n with
    | zero => intro k f h1 h2; exact absurd h2 (by omega)
    | succ n ih =>
      intro k f hk hn H locs hP hD hS ls hl
      refine lv_iload_n hx hb dJ7_fill_53178_5 rfl (lv_at hl 2 rfl) ?_
      refine lv_iload_n hx hb dJ7_fill_53178_6 rfl (lv_at hl 3 rfl) ?_
      refine lv_icmp_ge (tgt := 20) hx hb dJ7_fill_53178_7 (by decide) (fun c_1 => ?_) (fun c_1 => ?_)
      · have hke : k = 12 := by
          rcases Nat.lt_or_ge k 12 with q | q
          · exact absurd c_1 (nI_ge q (by decide))
          · omega
        have hP9 := hP.sub (ws' := [(b1, .inl (k1, 12, .inl f))]) [0] rfl
        have hD9 := hD.sub (ws' := [(b1, .inl (k1, 12, .inl f))]) [0] (by decide) rfl
        have hK9 := hK.sub (tys' := []) [] rfl
        refine W.widen (k := 0) (n := 0) (Nat.le_of_ble_eq_true rfl) (Nat.le_of_ble_eq_true rfl) ?_
        exact W.vret hx hb hr (fun t9 ht hW => ⟨⟨(), rfl, trivial, f, by rw [ht]; exact hP9, va_K.moved hW.alike hK9, hD9⟩, hS.F ht⟩) hS.2.2 dJ7_fill_53178_20
      · have hlt : k < 12 := by
          rcases Nat.lt_or_ge k 12 with q | q
          · exact q
          · exact absurd (show nI 12 ≤ nI k from nI_le q (by omega)) c_1
        refine lv_aload_n hx hb dJ7_fill_53178_10 rfl (lv_at hl 0 rfl) ?_
        refine lv_iload_n hx hb dJ7_fill_53178_11 rfl (lv_at hl 2 rfl) ?_
        refine lv_iload_n hx hb dJ7_fill_53178_12 rfl (lv_at hl 1 rfl) ?_
        refine va_iast hx hb hK hP hD hS 0 0 rfl rfl (vp_in_nI hlt (by decide)) dJ7_fill_53178_13 (fun H locs hP hD hS => ?_)
        have hP : va_P (dC, dI) vwCl [(b1, .inl (k1, 12, .inl (upd f (nI k).toNatClampNeg p0)))] H := hP
        have hD : va_D A [(b1, .inl (k1, 12, .inl (upd f (nI k).toNatClampNeg p0)))] := hD
        obtain ⟨f_2, ef_2⟩ : ∃ w9 : Nat → Int32, w9 = upd f (nI k).toNatClampNeg p0 := ⟨_, rfl⟩
        rw [← ef_2] at hP hD
        refine lv_iinc (v := nI (k + 1)) (lv' := [(2, .int (nI (k + 1))), (0, .ref b1), (1, .int p0), (3, .int 12)]) hx hb dJ7_fill_53178_14 hl (k := 2) rfl (by exact (nI_1 k)) (by decide) rfl (fun ls hl => ?_)
        refine lv_goto (tgt := 5) hx hb dJ7_fill_53178_17 (by decide) ?_
        exact ih (k + 1) f_2 (by omega) (by omega) _ _ (hP.sub [0] rfl) (hD.sub [0] (by decide) rfl) hS ls (lv_sub hl [1, 2, 0, 3] rfl)
  exact HL 13 0 f1 (by omega) (by omega) _ _ (hP.sub [0] rfl) (hD.sub [0] (by decide) rfl) hS ls (lv_sub hl [2, 3, 1, 0] rfl)

set_option maxHeartbeats 4000000 in
set_option maxRecDepth 100000 in
theorem c_X6_init (l : Launch) (dC : Nat → ClassId) (dI : Nat → Nat → Nat) (h0 : Nat) (p0 : Int32) (sz : Nat) : Met l yX6_init wsX6_init ({ frames := 1, cells := 1, slots := 12, locals := 23 }) (va_Pc [.ref h0, .int p0] (cP dC dI [(h0, .inr (6, [.int 0, .null]))] [] sz)) (va_Qv (fun (_ : Unit) => True) (fun (_ : Unit) t9 => ∃ (q1 : Nat), cQ dC dI [(h0, .inr (6, [.int p0, .ref q1]))] [] (va_A [(h0, .inr (6, [.int 0, .null]))] sz) t9) (va_A [(h0, .inr (6, [.int 0, .null]))] sz)) 1 12 (va_A [(h0, .inr (6, [.int 0, .null]))] sz) := by
  refine Met.ofW (cc := cX6_init) (maxL := 2) (ret := none) (by decide) rfl ?_
  intro p e s m args below meth c s₁ B hml hv
  obtain ⟨rfl, hsz, hP, hK, hD0, hN⟩ := hv
  have hx := B.exec
  have hb := B.bytes
  have hr := B.returns
  have hts := atoms_spec (ws := wsX6_init) B.pre
  have hown : s.vm.findClass RX6 = some m.cls := findClass_of_methodNamed B.named
  have hlocks := B.notSynchronized
  have hin : meth.name = "<init>" := (name_of_methodNamed B.named B.method).1
  subst hsz
  have hin6 : ∀ w ∈ u_ws RX6 TX6 2, w ∈ wsX6_init := by decide +kernel
  have hD := hD0.self (sz := s.heap.size)
  generalize hAe : va_A [(h0, .inr (6, [.int 0, .null]))] s.heap.size = A at hD ⊢
  have hA : ∀ q : Nat, s.heap.size ≤ q → A q := fun q h => by rw [← hAe]; exact Or.inr h
  have hS : va_S A s.heap s.heap [] := va_S.rf
  have hP : va_P (dC, dI) vwCl [(h0, .inr (6, [.int 0, .null]))] s.heap := hP
  have hl := lv_entry ([.ref h0, .int p0]) (n := 2) (Nat.le_of_ble_eq_true rfl)
  rw [lg_entry_eq]
  generalize (lg_sl ([.ref h0, .int p0]) ++ List.replicate (2 - (lg_sl ([.ref h0, .int p0])).length) Slot.unset).toArray = ls at hl ⊢
  have hl : lv_has ls 2 [(0, .ref h0), (1, .int p0)] := hl
  refine lv_aload_n hx hb dX6_init_0 rfl (lv_at hl 0 rfl) ?_
  refine W.objInit hx hb hown (hts (.methodLink RX6 3 objectInit) (by decide +kernel)) (hts (.instanceMethod objectInit) (by decide +kernel)) (hts (.code objectInit ⟨#[0xb1]⟩ 1 none) (by decide +kernel)) rfl (by rw [hml]; exact hl.1) rfl dX6_init_1 (Nat.le_of_ble_eq_true rfl) (Nat.le_of_ble_eq_true rfl) ?_
  refine W.eq (g2 := F0 m 4 ls []) rfl ?_
  refine lv_aload_n hx hb dX6_init_4 rfl (lv_at hl 0 rfl) ?_
  refine lv_bipush (v := 12) hx hb dX6_init_5 (by decide) ?_
  refine va_newa (atype := .int) (ty := .int) (a0 := (12, .inl (fun _ => 0))) (N' := 12) hx hb (hts (.arrayClass .int) (by decide +kernel)) rfl hK hP hD hS hA (fun _ => rfl) (by decide) (by decide) (by decide) (Nat.le_of_ble_eq_true rfl) (Nat.le_of_ble_eq_true rfl) dX6_init_7 (fun q_1 k_2 H hK hP hD hS => ?_)
  refine W.widen (k := 1) (n := 12) (Nat.le_of_ble_eq_true rfl) (Nat.le_of_ble_eq_true rfl) ?_
  have hK : va_K (dC, dI) vwCl [(k_2, .int)] s := hK
  have hP : va_P (dC, dI) vwCl [(h0, .inr (6, [.int 0, .null])), (q_1, .inl (k_2, 12, .inl (fun _ => 0)))] H := hP
  have hD : va_D A [(h0, .inr (6, [.int 0, .null])), (q_1, .inl (k_2, 12, .inl (fun _ => 0)))] := hD
  refine va_putF (D := (dC, dI)) (ci := 6) (v := .ref q_1) (ty := (tyX6 1)) (C := RX6) (T := TX6) (N := 2) hx hb hts hin6 tyX6 tyX6_ok nmX6 hown hK hP hD hS 0 rfl rfl 1 (by decide) (hts (.fieldLink RX6 9 "YamRiders$Tablet" "since" "[I") (by decide +kernel)) (fun _ h9 => h9) rfl hin rfl (by decide +kernel) rfl rfl (Nat.le_of_ble_eq_true rfl) dX6_init_9 (fun H locs hP hD hS => ?_)
  have hP : va_P (dC, dI) vwCl [(h0, .inr (6, [.int 0, .ref q_1])), (q_1, .inl (k_2, 12, .inl (fun _ => 0)))] H := hP
  have hD : va_D A [(h0, .inr (6, [.int 0, .ref q_1])), (q_1, .inl (k_2, 12, .inl (fun _ => 0)))] := hD
  refine lv_aload_n hx hb dX6_init_12 rfl (lv_at hl 0 rfl) ?_
  refine lv_iload_n hx hb dX6_init_13 rfl (lv_at hl 1 rfl) ?_
  refine va_putF (D := (dC, dI)) (ci := 6) (v := .int p0) (ty := (tyX6 0)) (C := RX6) (T := TX6) (N := 2) hx hb hts hin6 tyX6 tyX6_ok nmX6 hown hK hP hD hS 0 rfl rfl 0 (by decide) (hts (.fieldLink RX6 15 "YamRiders$Tablet" "rank" "I") (by decide +kernel)) (fun _ h9 => h9) rfl hin rfl (by decide +kernel) rfl rfl (Nat.le_of_ble_eq_true rfl) dX6_init_14 (fun H locs hP hD hS => ?_)
  have hP : va_P (dC, dI) vwCl [(h0, .inr (6, [.int p0, .ref q_1])), (q_1, .inl (k_2, 12, .inl (fun _ => 0)))] H := hP
  have hD : va_D A [(h0, .inr (6, [.int p0, .ref q_1])), (q_1, .inl (k_2, 12, .inl (fun _ => 0)))] := hD
  refine lv_aload_n hx hb dX6_init_17 rfl (lv_at hl 0 rfl) ?_
  refine va_get (D := (dC, dI)) (ci := 6) (v := .ref q_1) (C := RX6) (T := TX6) (N := 2) hx hb hts hin6 hown hK hP 0 rfl rfl 1 (by decide) (hts (.fieldLink RX6 9 "YamRiders$Tablet" "since" "[I") (by decide +kernel)) (fun _ h9 => h9) rfl dX6_init_18 ?_
  refine lv_iconst (v := (-1)) hx hb dX6_init_21 (by decide) ?_
  have hPc := hP.sub (ws' := [(q_1, .inl (k_2, 12, .inl (fun _ => 0)))]) [1] rfl
  have hDc := hD.sub (ws' := [(q_1, .inl (k_2, 12, .inl (fun _ => 0)))]) [1] (by decide) rfl
  have hKc := hK.sub (tys' := [(k_2, .int)]) [0] rfl
  have hFc := va_free (wc := [(q_1, .inl (k_2, 12, .inl (fun _ => 0)))]) hD hS hA [1] rfl
  refine va_callv (va_runS (As := [.ref q_1, .int (-1)]) (rest := []) ⟨hx, hb, hml, hown, hts⟩ (c_J7_fill l dC dI q_1 k_2 (fun _ => 0) (-1) H.size) (va_cwS 2 hts gX6_init_J7_fill_53178 rfl rfl rfl (by decide +kernel) ⟨Nat.le_of_ble_eq_true rfl, Nat.le_of_ble_eq_true rfl⟩) ⟨c_blind, c_pre hPc hKc hDc hN⟩ rfl rfl hl.1 rfl (lv_room (Nat.le_of_ble_eq_true rfl)) dX6_init_22 ⟨Nat.le_of_ble_eq_true rfl, Nat.le_of_ble_eq_true rfl⟩) hS (fun q _ h => hFc q h) hFc (fun u9 t9 H1 locs ht hvm hw hB hz1 hk1 hS => ?_)
  obtain ⟨f_4, hP1, hK1, hD1⟩ := hB
  rw [ht] at hP1
  have hK1 := va_K.moved hvm.symm hK1
  obtain ⟨hP, hD⟩ := va_join (wr := [(h0, .inr (6, [.int p0, .ref q_1]))]) (w1 := [(q_1, .inl (k_2, 12, .inl f_4))]) hP hD [1] [0] rfl rfl (by decide) (by decide) hk1 hFc hP1 hD1
  have hK := (hK.sub (tys' := [(k_2, .int)]) [0] rfl).app hK1
  generalize H1 = H at hP hS ⊢
  have hK : va_K (dC, dI) vwCl [(k_2, .int)] s := hK
  have hP : va_P (dC, dI) vwCl [(h0, .inr (6, [.int p0, .ref q_1])), (q_1, .inl (k_2, 12, .inl f_4))] H := hP
  have hD : va_D A [(h0, .inr (6, [.int p0, .ref q_1])), (q_1, .inl (k_2, 12, .inl f_4))] := hD
  refine W.widen (k := 1) (n := 12) (Nat.le_of_ble_eq_true rfl) (Nat.le_of_ble_eq_true rfl) ?_
  have hP9 := hP.sub (ws' := [(h0, .inr (6, [.int p0, .ref q_1]))]) [0] rfl
  have hD9 := hD.sub (ws' := [(h0, .inr (6, [.int p0, .ref q_1]))]) [0] (by decide) rfl
  have hK9 := hK.sub (tys' := []) [] rfl
  refine W.widen (k := 1) (n := 12) (Nat.le_of_ble_eq_true rfl) (Nat.le_of_ble_eq_true rfl) ?_
  exact W.vret hx hb hr (fun t9 ht hW => ⟨⟨(), rfl, trivial, q_1, by rw [ht]; exact hP9, va_K.moved hW.alike hK9, hD9⟩, hS.F ht⟩) hS.2.2 dX6_init_25

set_option maxHeartbeats 4000000 in
set_option maxRecDepth 100000 in
theorem c_X8_tablet (l : Launch) (dC : Nat → ClassId) (dI : Nat → Nat → Nat) (h0 : Nat) (a1 : Nat) (a2 : Nat) (a3 : Nat) (a4 : Nat) (a5 : Nat) (a6 : Nat) (a7 : Nat) (a8 : Nat) (a9 : Nat) (k6 : ClassId) (p0 : Int32) (sz : Nat) : Met l yX8_tablet wsX8_tablet ({ frames := 2, cells := 2, slots := 14, locals := 44 }) (va_Pc [.ref h0, .int p0] (cP dC dI [(h0, .inr (8, [.ref a1, .ref a2, .ref a3, .ref a4, .ref a5, .ref a6, .ref a7, .ref a8, .ref a9, .int 0, .int 0, .int 0, .int 0, .int 0, .int 0])), (a6, .inl (k6, 20, .inr (.inr (.inr (.inr (fun _ => none))))))] [(k6, .object "YamRiders$Tablet")] sz)) (va_Qi (fun (r : Int32) (_ : Unit) => r = (if p0 < 1 then (-1) else (if p0 ≤ 3 then 0 else (-1)))) (fun (_ : Unit) t9 => cQ dC dI [] [] (va_A [(h0, .inr (8, [.ref a1, .ref a2, .ref a3, .ref a4, .ref a5, .ref a6, .ref a7, .ref a8, .ref a9, .int 0, .int 0, .int 0, .int 0, .int 0, .int 0])), (a6, .inl (k6, 20, .inr (.inr (.inr (.inr (fun _ => none))))))] sz) t9) (va_A [(h0, .inr (8, [.ref a1, .ref a2, .ref a3, .ref a4, .ref a5, .ref a6, .ref a7, .ref a8, .ref a9, .int 0, .int 0, .int 0, .int 0, .int 0, .int 0])), (a6, .inl (k6, 20, .inr (.inr (.inr (.inr (fun _ => none))))))] sz)) 2 14 (va_A [(h0, .inr (8, [.ref a1, .ref a2, .ref a3, .ref a4, .ref a5, .ref a6, .ref a7, .ref a8, .ref a9, .int 0, .int 0, .int 0, .int 0, .int 0, .int 0])), (a6, .inl (k6, 20, .inr (.inr (.inr (.inr (fun _ => none))))))] sz) := by
  refine Met.ofW (cc := cX8_tablet) (maxL := 2) (ret := (some .int)) (by decide) rfl ?_
  intro p e s m args below meth c s₁ B hml hv
  obtain ⟨rfl, hsz, hP, hK, hD0, hN⟩ := hv
  have hx := B.exec
  have hb := B.bytes
  have hr := B.returns
  have hts := atoms_spec (ws := wsX8_tablet) B.pre
  have hown : s.vm.findClass RX8 = some m.cls := findClass_of_methodNamed B.named
  have hlocks := B.notSynchronized
  subst hsz
  have hin6 : ∀ w ∈ u_ws RX6 TX6 2, w ∈ wsX8_tablet := by decide +kernel
  have hin8 : ∀ w ∈ u_ws RX8 TX8 15, w ∈ wsX8_tablet := by decide +kernel
  have hD := hD0.self (sz := s.heap.size)
  generalize hAe : va_A [(h0, .inr (8, [.ref a1, .ref a2, .ref a3, .ref a4, .ref a5, .ref a6, .ref a7, .ref a8, .ref a9, .int 0, .int 0, .int 0, .int 0, .int 0, .int 0])), (a6, .inl (k6, 20, .inr (.inr (.inr (.inr (fun _ => none))))))] s.heap.size = A at hD ⊢
  have hA : ∀ q : Nat, s.heap.size ≤ q → A q := fun q h => by rw [← hAe]; exact Or.inr h
  have hS : va_S A s.heap s.heap [] := va_S.rf
  have hP : va_P (dC, dI) vwCl [(h0, .inr (8, [.ref a1, .ref a2, .ref a3, .ref a4, .ref a5, .ref a6, .ref a7, .ref a8, .ref a9, .int 0, .int 0, .int 0, .int 0, .int 0, .int 0])), (a6, .inl (k6, 20, .inr (.inr (.inr (.inr (fun _ => none))))))] s.heap := hP
  have hl := lv_entry ([.ref h0, .int p0]) (n := 2) (Nat.le_of_ble_eq_true rfl)
  rw [lg_entry_eq]
  generalize (lg_sl ([.ref h0, .int p0]) ++ List.replicate (2 - (lg_sl ([.ref h0, .int p0])).length) Slot.unset).toArray = ls at hl ⊢
  have hl : lv_has ls 2 [(0, .ref h0), (1, .int p0)] := hl
  refine lv_aload_n hx hb dX8_tablet_0 rfl (lv_at hl 0 rfl) ?_
  refine va_get (D := (dC, dI)) (ci := 8) (v := .int 0) (C := RX8) (T := TX8) (N := 15) hx hb hts hin8 hown hK hP 0 rfl rfl 11 (by decide) (hts (.fieldLink RX8 115 "YamRiders" "tabletCount" "I") (by decide +kernel)) (fun _ h9 => h9) rfl dX8_tablet_1 ?_
  refine lv_bipush (v := 20) hx hb dX8_tablet_4 (by decide) ?_
  refine lv_icmp_ge (tgt := 19) hx hb dX8_tablet_6 (by decide) (fun c_1 => by first | exact absurd c_1 (by decide) | exact absurd (by decide) c_1) (fun _ => ?_)
  refine lv_iload_n hx hb dX8_tablet_9 rfl (lv_at hl 1 rfl) ?_
  refine lv_iconst (v := 1) hx hb dX8_tablet_10 (by decide) ?_
  refine lv_icmp_lt (tgt := 19) hx hb dX8_tablet_11 (by decide) (fun c_2 => ?_) (fun c_2 => ?_)
  · refine lv_iconst (v := (-1)) hx hb dX8_tablet_19 (by decide) ?_
    have hP9 := hP.sub (ws' := []) [] rfl
    have hD9 := hD.sub (ws' := []) [] (by decide) rfl
    have hK9 := hK.sub (tys' := []) [] rfl
    refine W.widen (k := 2) (n := 14) (Nat.le_of_ble_eq_true rfl) (Nat.le_of_ble_eq_true rfl) ?_
    exact W.iret (v := (-1)) hx hb hr (fun t9 ht hW => ⟨⟨_, (), rfl, (by rw [if_pos c_2]), by rw [ht]; exact hP9, va_K.moved hW.alike hK9, hD9⟩, hS.F ht⟩) hS.2.2 dX8_tablet_20
  · refine lv_iload_n hx hb dX8_tablet_14 rfl (lv_at hl 1 rfl) ?_
    refine lv_iconst (v := 3) hx hb dX8_tablet_15 (by decide) ?_
    refine lv_icmp_le (tgt := 21) hx hb dX8_tablet_16 (by decide) (fun c_3 => ?_) (fun c_3 => ?_)
    · refine lv_aload_n hx hb dX8_tablet_21 rfl (lv_at hl 0 rfl) ?_
      refine va_get (D := (dC, dI)) (ci := 8) (v := .ref a6) (C := RX8) (T := TX8) (N := 15) hx hb hts hin8 hown hK hP 0 rfl rfl 5 (by decide) (hts (.fieldLink RX8 42 "YamRiders" "tablets" "[LYamRiders$Tablet;") (by decide +kernel)) (fun _ h9 => h9) rfl dX8_tablet_22 ?_
      refine lv_aload_n hx hb dX8_tablet_25 rfl (lv_at hl 0 rfl) ?_
      refine va_get (D := (dC, dI)) (ci := 8) (v := .int 0) (C := RX8) (T := TX8) (N := 15) hx hb hts hin8 hown hK hP 0 rfl rfl 11 (by decide) (hts (.fieldLink RX8 115 "YamRiders" "tabletCount" "I") (by decide +kernel)) (fun _ h9 => h9) rfl dX8_tablet_26 ?_
      refine va_new (ci := 6) (fs := [.int 0, .null]) (C := RX6) (T := TX6) (N := 2) hx hb hts hin6 tyX6 tyX6_ok hown (hts (.classLink RX8 40 RX6) (by decide +kernel)) (hts (.instantiable RX6 2) (by decide +kernel)) (hts (.initialized RX6) (by decide +kernel)) hK hP hD hS hA rfl (by decide +kernel) (Nat.le_of_ble_eq_true rfl) (Nat.le_of_ble_eq_true rfl) dX8_tablet_29 (fun q_4 H hP hD hS => ?_)
      refine W.widen (k := 1) (n := 2) (Nat.le_of_ble_eq_true rfl) (Nat.le_of_ble_eq_true rfl) ?_
      have hP : va_P (dC, dI) vwCl [(h0, .inr (8, [.ref a1, .ref a2, .ref a3, .ref a4, .ref a5, .ref a6, .ref a7, .ref a8, .ref a9, .int 0, .int 0, .int 0, .int 0, .int 0, .int 0])), (a6, .inl (k6, 20, .inr (.inr (.inr (.inr (fun _ => none)))))), (q_4, .inr (6, [.int 0, .null]))] H := hP
      have hD : va_D A [(h0, .inr (8, [.ref a1, .ref a2, .ref a3, .ref a4, .ref a5, .ref a6, .ref a7, .ref a8, .ref a9, .int 0, .int 0, .int 0, .int 0, .int 0, .int 0])), (a6, .inl (k6, 20, .inr (.inr (.inr (.inr (fun _ => none)))))), (q_4, .inr (6, [.int 0, .null]))] := hD
      refine lv_dup hx hb dX8_tablet_32 rfl ?_
      refine lv_iload_n hx hb dX8_tablet_33 rfl (lv_at hl 1 rfl) ?_
      have hPc := hP.sub (ws' := [(q_4, .inr (6, [.int 0, .null]))]) [2] rfl
      have hDc := hD.sub (ws' := [(q_4, .inr (6, [.int 0, .null]))]) [2] (by decide) rfl
      have hKc := hK.sub (tys' := []) [] rfl
      have hFc := va_free (wc := [(q_4, .inr (6, [.int 0, .null]))]) hD hS hA [2] rfl
      refine va_callv (va_runI (As := [.int p0]) (rest := [.ref q_4, .int 0, .ref a6]) ⟨hx, hb, hml, hown, hts⟩ (c_X6_init l dC dI q_4 p0 H.size) (cwI 1 hts gX8_tablet_X6_init rfl rfl rfl (hts (.initialized RX6) (by decide +kernel)) (hts (.methodLink RX8 118 yX6_init) (by decide +kernel)) (hts (.instanceMethod yX6_init) (by decide +kernel)) rfl (by decide +kernel) ⟨Nat.le_of_ble_eq_true rfl, Nat.le_of_ble_eq_true rfl⟩) ⟨c_blind, c_pre hPc hKc hDc hN⟩ rfl rfl hl.1 rfl (lv_room (Nat.le_of_ble_eq_true rfl)) dX8_tablet_34 ⟨Nat.le_of_ble_eq_true rfl, Nat.le_of_ble_eq_true rfl⟩) hS (fun q _ h => hFc q h) hFc (fun u9 t9 H1 locs ht hvm hw hB hz1 hk1 hS => ?_)
      obtain ⟨q_6, hP1, hK1, hD1⟩ := hB
      rw [ht] at hP1
      have hK1 := va_K.moved hvm.symm hK1
      obtain ⟨hP, hD⟩ := va_join (wr := [(h0, .inr (8, [.ref a1, .ref a2, .ref a3, .ref a4, .ref a5, .ref a6, .ref a7, .ref a8, .ref a9, .int 0, .int 0, .int 0, .int 0, .int 0, .int 0])), (a6, .inl (k6, 20, .inr (.inr (.inr (.inr (fun _ => none))))))]) (w1 := [(q_4, .inr (6, [.int p0, .ref q_6]))]) hP hD [2] [0, 1] rfl rfl (by decide) (by decide) hk1 hFc hP1 hD1
      have hK := (hK.sub (tys' := [(k6, .object "YamRiders$Tablet")]) [0] rfl).app hK1
      generalize H1 = H at hP hS ⊢
      have hK : va_K (dC, dI) vwCl [(k6, .object "YamRiders$Tablet")] s := hK
      have hP : va_P (dC, dI) vwCl [(h0, .inr (8, [.ref a1, .ref a2, .ref a3, .ref a4, .ref a5, .ref a6, .ref a7, .ref a8, .ref a9, .int 0, .int 0, .int 0, .int 0, .int 0, .int 0])), (a6, .inl (k6, 20, .inr (.inr (.inr (.inr (fun _ => none)))))), (q_4, .inr (6, [.int p0, .ref q_6]))] H := hP
      have hD : va_D A [(h0, .inr (8, [.ref a1, .ref a2, .ref a3, .ref a4, .ref a5, .ref a6, .ref a7, .ref a8, .ref a9, .int 0, .int 0, .int 0, .int 0, .int 0, .int 0])), (a6, .inl (k6, 20, .inr (.inr (.inr (.inr (fun _ => none)))))), (q_4, .inr (6, [.int p0, .ref q_6]))] := hD
      refine W.widen (k := 2) (n := 14) (Nat.le_of_ble_eq_true rfl) (Nat.le_of_ble_eq_true rfl) ?_
      refine va_astq hx hb hK hP hD hS 1 0 2 6 rfl rfl rfl rfl (by unfold vp_in; decide) dX8_tablet_37 (fun H locs hP hD hS => ?_)
      have hP : va_P (dC, dI) vwCl [(h0, .inr (8, [.ref a1, .ref a2, .ref a3, .ref a4, .ref a5, .ref a6, .ref a7, .ref a8, .ref a9, .int 0, .int 0, .int 0, .int 0, .int 0, .int 0])), (a6, .inl (k6, 20, .inr (.inr (.inr (.inr (va_up (fun _ => none) (0 : Int32).toNatClampNeg (some q_4))))))), (q_4, .inr (6, [.int p0, .ref q_6]))] H := hP
      have hD : va_D A [(h0, .inr (8, [.ref a1, .ref a2, .ref a3, .ref a4, .ref a5, .ref a6, .ref a7, .ref a8, .ref a9, .int 0, .int 0, .int 0, .int 0, .int 0, .int 0])), (a6, .inl (k6, 20, .inr (.inr (.inr (.inr (va_up (fun _ => none) (0 : Int32).toNatClampNeg (some q_4))))))), (q_4, .inr (6, [.int p0, .ref q_6]))] := hD
      obtain ⟨f_7, ef_7⟩ : ∃ w9 : Nat → Option Nat, w9 = va_up (fun _ => none) (0 : Int32).toNatClampNeg (some q_4) := ⟨_, rfl⟩
      rw [← ef_7] at hP hD
      refine lv_aload_n hx hb dX8_tablet_38 rfl (lv_at hl 0 rfl) ?_
      refine lv_dup hx hb dX8_tablet_39 rfl ?_
      refine va_get (D := (dC, dI)) (ci := 8) (v := .int 0) (C := RX8) (T := TX8) (N := 15) hx hb hts hin8 hown hK hP 0 rfl rfl 11 (by decide) (hts (.fieldLink RX8 115 "YamRiders" "tabletCount" "I") (by decide +kernel)) (fun _ h9 => h9) rfl dX8_tablet_40 ?_
      refine lv_iconst (v := 1) hx hb dX8_tablet_43 (by decide) ?_
      refine lv_iadd hx hb dX8_tablet_44 ?_
      refine lv_topi (fun y_8 ey_8 => ?_)
      obtain rfl : y_8 = 1 := ey_8.trans (by decide)
      refine va_put (D := (dC, dI)) (ci := 8) (v := .int 1) (ty := (tyX8 11)) (C := RX8) (T := TX8) (N := 15) hx hb hts hin8 tyX8 tyX8_ok nmX8 hown hK hP hD hS 0 rfl rfl 11 (by decide) (hts (.fieldLink RX8 115 "YamRiders" "tabletCount" "I") (by decide +kernel)) (fun _ h9 => h9) rfl (by decide +kernel) rfl rfl (Nat.le_of_ble_eq_true rfl) dX8_tablet_45 (fun H locs hP hD hS => ?_)
      have hP : va_P (dC, dI) vwCl [(h0, .inr (8, [.ref a1, .ref a2, .ref a3, .ref a4, .ref a5, .ref a6, .ref a7, .ref a8, .ref a9, .int 0, .int 0, .int 1, .int 0, .int 0, .int 0])), (a6, .inl (k6, 20, .inr (.inr (.inr (.inr f_7))))), (q_4, .inr (6, [.int p0, .ref q_6]))] H := hP
      have hD : va_D A [(h0, .inr (8, [.ref a1, .ref a2, .ref a3, .ref a4, .ref a5, .ref a6, .ref a7, .ref a8, .ref a9, .int 0, .int 0, .int 1, .int 0, .int 0, .int 0])), (a6, .inl (k6, 20, .inr (.inr (.inr (.inr f_7))))), (q_4, .inr (6, [.int p0, .ref q_6]))] := hD
      refine lv_aload_n hx hb dX8_tablet_48 rfl (lv_at hl 0 rfl) ?_
      refine va_get (D := (dC, dI)) (ci := 8) (v := .int 1) (C := RX8) (T := TX8) (N := 15) hx hb hts hin8 hown hK hP 0 rfl rfl 11 (by decide) (hts (.fieldLink RX8 115 "YamRiders" "tabletCount" "I") (by decide +kernel)) (fun _ h9 => h9) rfl dX8_tablet_49 ?_
      refine lv_iconst (v := 1) hx hb dX8_tablet_52 (by decide) ?_
      refine lv_isub hx hb dX8_tablet_53 ?_
      refine lv_topi (fun y_9 ey_9 => ?_)
      obtain rfl : y_9 = 0 := ey_9.trans (by decide)
      have hP9 := hP.sub (ws' := []) [] rfl
      have hD9 := hD.sub (ws' := []) [] (by decide) rfl
      have hK9 := hK.sub (tys' := []) [] rfl
      refine W.widen (k := 2) (n := 14) (Nat.le_of_ble_eq_true rfl) (Nat.le_of_ble_eq_true rfl) ?_
      exact W.iret (v := 0) hx hb hr (fun t9 ht hW => ⟨⟨_, (), rfl, (by rw [if_neg c_2, if_pos c_3]), by rw [ht]; exact hP9, va_K.moved hW.alike hK9, hD9⟩, hS.F ht⟩) hS.2.2 dX8_tablet_54
    · refine lv_iconst (v := (-1)) hx hb dX8_tablet_19 (by decide) ?_
      have hP9 := hP.sub (ws' := []) [] rfl
      have hD9 := hD.sub (ws' := []) [] (by decide) rfl
      have hK9 := hK.sub (tys' := []) [] rfl
      refine W.widen (k := 2) (n := 14) (Nat.le_of_ble_eq_true rfl) (Nat.le_of_ble_eq_true rfl) ?_
      exact W.iret (v := (-1)) hx hb hr (fun t9 ht hW => ⟨⟨_, (), rfl, (by rw [if_neg c_2, if_neg c_3]), by rw [ht]; exact hP9, va_K.moved hW.alike hK9, hD9⟩, hS.F ht⟩) hS.2.2 dX8_tablet_20

set_option maxHeartbeats 4000000 in
set_option maxRecDepth 100000 in
theorem c_X4_init (l : Launch) (dC : Nat → ClassId) (dI : Nat → Nat → Nat) (h0 : Nat) (t1 : Nat) (sz : Nat) : Met l yX4_init wsX4_init ({ frames := 2, cells := 3, slots := 13, locals := 40 }) (va_Pc [.ref h0, .ref t1] (cP dC dI [(h0, .inr (4, [.null, .null, .null, .int 0, .int 0, .int 0, .int 0, .int 0, .int 0, .int 0]))] [] sz)) (va_Qv (fun (_ : Unit) => True) (fun (_ : Unit) t9 => ∃ (t2 : Nat) (t3 : Nat), cQ dC dI [(h0, .inr (4, [.ref t1, .ref t2, .ref t3, .int 0, .int 0, .int 0, .int 0, .int 0, .int 0, .int 0]))] [] (va_A [(h0, .inr (4, [.null, .null, .null, .int 0, .int 0, .int 0, .int 0, .int 0, .int 0, .int 0]))] sz) t9) (va_A [(h0, .inr (4, [.null, .null, .null, .int 0, .int 0, .int 0, .int 0, .int 0, .int 0, .int 0]))] sz)) 3 13 (va_A [(h0, .inr (4, [.null, .null, .null, .int 0, .int 0, .int 0, .int 0, .int 0, .int 0, .int 0]))] sz) := by
  refine Met.ofW (cc := cX4_init) (maxL := 2) (ret := none) (by decide) rfl ?_
  intro p e s m args below meth c s₁ B hml hv
  obtain ⟨rfl, hsz, hP, hK, hD0, hN⟩ := hv
  have hx := B.exec
  have hb := B.bytes
  have hr := B.returns
  have hts := atoms_spec (ws := wsX4_init) B.pre
  have hown : s.vm.findClass RX4 = some m.cls := findClass_of_methodNamed B.named
  have hlocks := B.notSynchronized
  have hin : meth.name = "<init>" := (name_of_methodNamed B.named B.method).1
  subst hsz
  have hin4 : ∀ w ∈ u_ws RX4 TX4 10, w ∈ wsX4_init := by decide +kernel
  have hin5 : ∀ w ∈ u_ws RX5 TX5 1, w ∈ wsX4_init := by decide +kernel
  have hD := hD0.self (sz := s.heap.size)
  generalize hAe : va_A [(h0, .inr (4, [.null, .null, .null, .int 0, .int 0, .int 0, .int 0, .int 0, .int 0, .int 0]))] s.heap.size = A at hD ⊢
  have hA : ∀ q : Nat, s.heap.size ≤ q → A q := fun q h => by rw [← hAe]; exact Or.inr h
  have hS : va_S A s.heap s.heap [] := va_S.rf
  have hP : va_P (dC, dI) vwCl [(h0, .inr (4, [.null, .null, .null, .int 0, .int 0, .int 0, .int 0, .int 0, .int 0, .int 0]))] s.heap := hP
  have hl := lv_entry ([.ref h0, .ref t1]) (n := 2) (Nat.le_of_ble_eq_true rfl)
  rw [lg_entry_eq]
  generalize (lg_sl ([.ref h0, .ref t1]) ++ List.replicate (2 - (lg_sl ([.ref h0, .ref t1])).length) Slot.unset).toArray = ls at hl ⊢
  have hl : lv_has ls 2 [(0, .ref h0), (1, .ref t1)] := hl
  refine lv_aload_n hx hb dX4_init_0 rfl (lv_at hl 0 rfl) ?_
  refine W.objInit hx hb hown (hts (.methodLink RX4 3 objectInit) (by decide +kernel)) (hts (.instanceMethod objectInit) (by decide +kernel)) (hts (.code objectInit ⟨#[0xb1]⟩ 1 none) (by decide +kernel)) rfl (by rw [hml]; exact hl.1) rfl dX4_init_1 (Nat.le_of_ble_eq_true rfl) (Nat.le_of_ble_eq_true rfl) ?_
  refine W.eq (g2 := F0 m 4 ls []) rfl ?_
  refine lv_aload_n hx hb dX4_init_4 rfl (lv_at hl 0 rfl) ?_
  refine va_new (ci := 5) (fs := [.null]) (C := RX5) (T := TX5) (N := 1) hx hb hts hin5 tyX5 tyX5_ok hown (hts (.classLink RX4 9 RX5) (by decide +kernel)) (hts (.instantiable RX5 1) (by decide +kernel)) (hts (.initialized RX5) (by decide +kernel)) hK hP hD hS hA rfl (by decide +kernel) (Nat.le_of_ble_eq_true rfl) (Nat.le_of_ble_eq_true rfl) dX4_init_5 (fun q_1 H hP hD hS => ?_)
  refine W.widen (k := 1) (n := 1) (Nat.le_of_ble_eq_true rfl) (Nat.le_of_ble_eq_true rfl) ?_
  have hP : va_P (dC, dI) vwCl [(h0, .inr (4, [.null, .null, .null, .int 0, .int 0, .int 0, .int 0, .int 0, .int 0, .int 0])), (q_1, .inr (5, [.null]))] H := hP
  have hD : va_D A [(h0, .inr (4, [.null, .null, .null, .int 0, .int 0, .int 0, .int 0, .int 0, .int 0, .int 0])), (q_1, .inr (5, [.null]))] := hD
  refine lv_dup hx hb dX4_init_8 rfl ?_
  have hPc := hP.sub (ws' := [(q_1, .inr (5, [.null]))]) [1] rfl
  have hDc := hD.sub (ws' := [(q_1, .inr (5, [.null]))]) [1] (by decide) rfl
  have hKc := hK.sub (tys' := []) [] rfl
  have hFc := va_free (wc := [(q_1, .inr (5, [.null]))]) hD hS hA [1] rfl
  refine va_callv (va_runIN (As := []) (rest := [.ref q_1, .ref h0]) ⟨hx, hb, hml, hown, hts⟩ (c_X5_init l dC dI q_1 H.size) ⟨va_cnB 0 hts ggX4_init_X5_init rfl rfl rfl (hN.1 (.methodLinkNest RX4 11 yX5_init "YamRiders") (by decide +kernel)) (hts (.initialized RX5) (by decide +kernel)) (by decide +kernel) ⟨Nat.le_of_ble_eq_true rfl, Nat.le_of_ble_eq_true rfl⟩, rfl, hts (.instanceMethod yX5_init) (by decide +kernel)⟩ ⟨c_blind, c_pre hPc hKc hDc hN⟩ rfl rfl hl.1 rfl (lv_room (Nat.le_of_ble_eq_true rfl)) dX4_init_9 ⟨Nat.le_of_ble_eq_true rfl, Nat.le_of_ble_eq_true rfl⟩) hS (fun q _ h => hFc q h) hFc (fun u9 t9 H1 locs ht hvm hw hB hz1 hk1 hS => ?_)
  obtain ⟨b_3, k_4, f_5, hP1, hK1, hD1⟩ := hB
  rw [ht] at hP1
  have hK1 := va_K.moved hvm.symm hK1
  obtain ⟨hP, hD⟩ := va_join (wr := [(h0, .inr (4, [.null, .null, .null, .int 0, .int 0, .int 0, .int 0, .int 0, .int 0, .int 0]))]) (w1 := [(q_1, .inr (5, [.ref b_3])), (b_3, .inl (k_4, 6, .inl f_5))]) hP hD [1] [0] rfl rfl (by decide) (by decide) hk1 hFc hP1 hD1
  have hK := (hK.sub (tys' := []) [] rfl).app hK1
  generalize H1 = H at hP hS ⊢
  have hK : va_K (dC, dI) vwCl [(k_4, .int)] s := hK
  have hP : va_P (dC, dI) vwCl [(h0, .inr (4, [.null, .null, .null, .int 0, .int 0, .int 0, .int 0, .int 0, .int 0, .int 0])), (q_1, .inr (5, [.ref b_3])), (b_3, .inl (k_4, 6, .inl f_5))] H := hP
  have hD : va_D A [(h0, .inr (4, [.null, .null, .null, .int 0, .int 0, .int 0, .int 0, .int 0, .int 0, .int 0])), (q_1, .inr (5, [.ref b_3])), (b_3, .inl (k_4, 6, .inl f_5))] := hD
  refine W.widen (k := 2) (n := 7) (Nat.le_of_ble_eq_true rfl) (Nat.le_of_ble_eq_true rfl) ?_
  refine va_putF (D := (dC, dI)) (ci := 4) (v := .ref q_1) (ty := (tyX4 1)) (C := RX4) (T := TX4) (N := 10) hx hb hts hin4 tyX4 tyX4_ok nmX4 hown hK hP hD hS 0 rfl rfl 1 (by decide) (hts (.fieldLink RX4 12 "YamRiders$StatuteReader" "told" "LYamRiders$Statutes;") (by decide +kernel)) (fun _ h9 => h9) rfl hin rfl (by decide +kernel) rfl rfl (Nat.le_of_ble_eq_true rfl) dX4_init_12 (fun H locs hP hD hS => ?_)
  have hP : va_P (dC, dI) vwCl [(h0, .inr (4, [.null, .ref q_1, .null, .int 0, .int 0, .int 0, .int 0, .int 0, .int 0, .int 0])), (q_1, .inr (5, [.ref b_3])), (b_3, .inl (k_4, 6, .inl f_5))] H := hP
  have hD : va_D A [(h0, .inr (4, [.null, .ref q_1, .null, .int 0, .int 0, .int 0, .int 0, .int 0, .int 0, .int 0])), (q_1, .inr (5, [.ref b_3])), (b_3, .inl (k_4, 6, .inl f_5))] := hD
  refine lv_aload_n hx hb dX4_init_15 rfl (lv_at hl 0 rfl) ?_
  refine lv_bipush (v := 6) hx hb dX4_init_16 (by decide) ?_
  refine va_newa (atype := .boolean) (ty := .boolean) (a0 := (6, .inl (fun _ => 0))) (N' := 6) hx hb (hts (.arrayClass .boolean) (by decide +kernel)) rfl hK hP hD hS hA (fun _ => rfl) (by decide) (by decide) (by decide) (Nat.le_of_ble_eq_true rfl) (Nat.le_of_ble_eq_true rfl) dX4_init_18 (fun q_6 k_7 H hK hP hD hS => ?_)
  refine W.widen (k := 3) (n := 13) (Nat.le_of_ble_eq_true rfl) (Nat.le_of_ble_eq_true rfl) ?_
  have hK : va_K (dC, dI) vwCl [(k_4, .int), (k_7, .boolean)] s := hK
  have hP : va_P (dC, dI) vwCl [(h0, .inr (4, [.null, .ref q_1, .null, .int 0, .int 0, .int 0, .int 0, .int 0, .int 0, .int 0])), (q_1, .inr (5, [.ref b_3])), (b_3, .inl (k_4, 6, .inl f_5)), (q_6, .inl (k_7, 6, .inl (fun _ => 0)))] H := hP
  have hD : va_D A [(h0, .inr (4, [.null, .ref q_1, .null, .int 0, .int 0, .int 0, .int 0, .int 0, .int 0, .int 0])), (q_1, .inr (5, [.ref b_3])), (b_3, .inl (k_4, 6, .inl f_5)), (q_6, .inl (k_7, 6, .inl (fun _ => 0)))] := hD
  refine va_putF (D := (dC, dI)) (ci := 4) (v := .ref q_6) (ty := (tyX4 2)) (C := RX4) (T := TX4) (N := 10) hx hb hts hin4 tyX4 tyX4_ok nmX4 hown hK hP hD hS 0 rfl rfl 2 (by decide) (hts (.fieldLink RX4 18 "YamRiders$StatuteReader" "isTold" "[Z") (by decide +kernel)) (fun _ h9 => h9) rfl hin rfl (by decide +kernel) rfl rfl (Nat.le_of_ble_eq_true rfl) dX4_init_20 (fun H locs hP hD hS => ?_)
  have hP : va_P (dC, dI) vwCl [(h0, .inr (4, [.null, .ref q_1, .ref q_6, .int 0, .int 0, .int 0, .int 0, .int 0, .int 0, .int 0])), (q_1, .inr (5, [.ref b_3])), (b_3, .inl (k_4, 6, .inl f_5)), (q_6, .inl (k_7, 6, .inl (fun _ => 0)))] H := hP
  have hD : va_D A [(h0, .inr (4, [.null, .ref q_1, .ref q_6, .int 0, .int 0, .int 0, .int 0, .int 0, .int 0, .int 0])), (q_1, .inr (5, [.ref b_3])), (b_3, .inl (k_4, 6, .inl f_5)), (q_6, .inl (k_7, 6, .inl (fun _ => 0)))] := hD
  refine lv_aload_n hx hb dX4_init_23 rfl (lv_at hl 0 rfl) ?_
  refine lv_aload_n hx hb dX4_init_24 rfl (lv_at hl 1 rfl) ?_
  refine va_putF (D := (dC, dI)) (ci := 4) (v := .ref t1) (ty := (tyX4 0)) (C := RX4) (T := TX4) (N := 10) hx hb hts hin4 tyX4 tyX4_ok nmX4 hown hK hP hD hS 0 rfl rfl 0 (by decide) (hts (.fieldLink RX4 22 "YamRiders$StatuteReader" "tape" "LYamRiders$Tape;") (by decide +kernel)) (fun _ h9 => h9) rfl hin rfl (by decide +kernel) rfl rfl (Nat.le_of_ble_eq_true rfl) dX4_init_25 (fun H locs hP hD hS => ?_)
  have hP : va_P (dC, dI) vwCl [(h0, .inr (4, [.ref t1, .ref q_1, .ref q_6, .int 0, .int 0, .int 0, .int 0, .int 0, .int 0, .int 0])), (q_1, .inr (5, [.ref b_3])), (b_3, .inl (k_4, 6, .inl f_5)), (q_6, .inl (k_7, 6, .inl (fun _ => 0)))] H := hP
  have hD : va_D A [(h0, .inr (4, [.ref t1, .ref q_1, .ref q_6, .int 0, .int 0, .int 0, .int 0, .int 0, .int 0, .int 0])), (q_1, .inr (5, [.ref b_3])), (b_3, .inl (k_4, 6, .inl f_5)), (q_6, .inl (k_7, 6, .inl (fun _ => 0)))] := hD
  have hP9 := hP.sub (ws' := [(h0, .inr (4, [.ref t1, .ref q_1, .ref q_6, .int 0, .int 0, .int 0, .int 0, .int 0, .int 0, .int 0]))]) [0] rfl
  have hD9 := hD.sub (ws' := [(h0, .inr (4, [.ref t1, .ref q_1, .ref q_6, .int 0, .int 0, .int 0, .int 0, .int 0, .int 0, .int 0]))]) [0] (by decide) rfl
  have hK9 := hK.sub (tys' := []) [] rfl
  refine W.widen (k := 3) (n := 13) (Nat.le_of_ble_eq_true rfl) (Nat.le_of_ble_eq_true rfl) ?_
  exact W.vret hx hb hr (fun t9 ht hW => ⟨⟨(), rfl, trivial, q_1, q_6, by rw [ht]; exact hP9, va_K.moved hW.alike hK9, hD9⟩, hS.F ht⟩) hS.2.2 dX4_init_28

set_option maxHeartbeats 4000000 in
set_option maxRecDepth 100000 in
theorem c_X4_readToken (l : Launch) (dC : Nat → ClassId) (dI : Nat → Nat → Nat) (h0 : Nat) (t1 : Nat) (t2 : Nat) (t3 : Nat) (u1 : Nat) (sz : Nat) : Met l yX4_readToken wsX4_readToken ({ frames := 0, cells := 0, slots := 0, locals := 0 }) (va_Pc [.ref h0] (cP dC dI [(h0, .inr (4, [.ref t1, .ref t2, .ref t3, .int 0, .int 0, .int 0, .int 0, .int 0, .int 0, .int 0])), (t1, .inr (7, [.ref u1, .int 0]))] [] sz)) (va_Qv (fun (_ : Unit) => True) (fun (_ : Unit) t9 => cQ dC dI [(h0, .inr (4, [.ref t1, .ref t2, .ref t3, .int 0, .int 0, .int 0, .int 0, .int 0, .int 0, .int 0])), (t1, .inr (7, [.ref u1, .int 0]))] [] (va_A [(h0, .inr (4, [.ref t1, .ref t2, .ref t3, .int 0, .int 0, .int 0, .int 0, .int 0, .int 0, .int 0])), (t1, .inr (7, [.ref u1, .int 0]))] sz) t9) (va_A [(h0, .inr (4, [.ref t1, .ref t2, .ref t3, .int 0, .int 0, .int 0, .int 0, .int 0, .int 0, .int 0])), (t1, .inr (7, [.ref u1, .int 0]))] sz)) 0 0 (va_A [(h0, .inr (4, [.ref t1, .ref t2, .ref t3, .int 0, .int 0, .int 0, .int 0, .int 0, .int 0, .int 0])), (t1, .inr (7, [.ref u1, .int 0]))] sz) := by
  refine Met.ofW (cc := cX4_readToken) (maxL := 1) (ret := none) (by decide) rfl ?_
  intro p e s m args below meth c s₁ B hml hv
  obtain ⟨rfl, hsz, hP, hK, hD0, hN⟩ := hv
  have hx := B.exec
  have hb := B.bytes
  have hr := B.returns
  have hts := atoms_spec (ws := wsX4_readToken) B.pre
  have hown : s.vm.findClass RX4 = some m.cls := findClass_of_methodNamed B.named
  have hlocks := B.notSynchronized
  subst hsz
  have hin4 : ∀ w ∈ u_ws RX4 TX4 10, w ∈ wsX4_readToken := by decide +kernel
  have hin7 : ∀ w ∈ u_ws RX7 TX7 2, w ∈ wsX4_readToken := by decide +kernel
  have hD := hD0.self (sz := s.heap.size)
  generalize hAe : va_A [(h0, .inr (4, [.ref t1, .ref t2, .ref t3, .int 0, .int 0, .int 0, .int 0, .int 0, .int 0, .int 0])), (t1, .inr (7, [.ref u1, .int 0]))] s.heap.size = A at hD ⊢
  have hA : ∀ q : Nat, s.heap.size ≤ q → A q := fun q h => by rw [← hAe]; exact Or.inr h
  have hS : va_S A s.heap s.heap [] := va_S.rf
  have hP : va_P (dC, dI) vwCl [(h0, .inr (4, [.ref t1, .ref t2, .ref t3, .int 0, .int 0, .int 0, .int 0, .int 0, .int 0, .int 0])), (t1, .inr (7, [.ref u1, .int 0]))] s.heap := hP
  have hl := lv_entry ([.ref h0]) (n := 1) (Nat.le_of_ble_eq_true rfl)
  rw [lg_entry_eq]
  generalize (lg_sl ([.ref h0]) ++ List.replicate (1 - (lg_sl ([.ref h0])).length) Slot.unset).toArray = ls at hl ⊢
  have hl : lv_has ls 1 [(0, .ref h0)] := hl
  refine lv_aload_n hx hb dX4_readToken_0 rfl (lv_at hl 0 rfl) ?_
  refine va_get (D := (dC, dI)) (ci := 4) (v := .int 0) (C := RX4) (T := TX4) (N := 10) hx hb hts hin4 hown hK hP 0 rfl rfl 6 (by decide) (hts (.fieldLink RX4 96 "YamRiders$StatuteReader" "place" "I") (by decide +kernel)) (fun _ h9 => h9) rfl dX4_readToken_1 ?_
  refine lv_aload_n hx hb dX4_readToken_4 rfl (lv_at hl 0 rfl) ?_
  refine va_get (D := (dC, dI)) (ci := 4) (v := .ref t1) (C := RX4) (T := TX4) (N := 10) hx hb hts hin4 hown hK hP 0 rfl rfl 0 (by decide) (hts (.fieldLink RX4 22 "YamRiders$StatuteReader" "tape" "LYamRiders$Tape;") (by decide +kernel)) (fun _ h9 => h9) rfl dX4_readToken_5 ?_
  refine va_getN (D := (dC, dI)) (ci := 7) (v := .int 0) (C := RX7) (T := TX7) (N := 2) hx hb hts hin7 hown hK hP 1 rfl rfl 1 (by decide) (hN.nx (.fieldLinkNest RX4 99 "YamRiders$Tape" "length" "I" "YamRiders") (by decide +kernel)) (fun _ h9 => h9) rfl dX4_readToken_8 ?_
  refine lv_icmp_ge (tgt := 44) hx hb dX4_readToken_11 (by decide) (fun _ => ?_) (fun c_1 => by first | exact absurd c_1 (by decide) | exact absurd (by decide) c_1)
  refine lv_aload_n hx hb dX4_readToken_44 rfl (lv_at hl 0 rfl) ?_
  refine lv_aload_n hx hb dX4_readToken_45 rfl (lv_at hl 0 rfl) ?_
  refine va_get (D := (dC, dI)) (ci := 4) (v := .int 0) (C := RX4) (T := TX4) (N := 10) hx hb hts hin4 hown hK hP 0 rfl rfl 6 (by decide) (hts (.fieldLink RX4 96 "YamRiders$StatuteReader" "place" "I") (by decide +kernel)) (fun _ h9 => h9) rfl dX4_readToken_46 ?_
  refine va_put (D := (dC, dI)) (ci := 4) (v := .int 0) (ty := (tyX4 8)) (C := RX4) (T := TX4) (N := 10) hx hb hts hin4 tyX4 tyX4_ok nmX4 hown hK hP hD hS 0 rfl rfl 8 (by decide) (hts (.fieldLink RX4 90 "YamRiders$StatuteReader" "tokenPlace" "I") (by decide +kernel)) (fun _ h9 => h9) rfl (by decide +kernel) rfl rfl (Nat.le_of_ble_eq_true rfl) dX4_readToken_49 (fun H locs hP hD hS => ?_)
  have hP : va_P (dC, dI) vwCl [(h0, .inr (4, [.ref t1, .ref t2, .ref t3, .int 0, .int 0, .int 0, .int 0, .int 0, .int 0, .int 0])), (t1, .inr (7, [.ref u1, .int 0]))] H := hP
  have hD : va_D A [(h0, .inr (4, [.ref t1, .ref t2, .ref t3, .int 0, .int 0, .int 0, .int 0, .int 0, .int 0, .int 0])), (t1, .inr (7, [.ref u1, .int 0]))] := hD
  refine lv_aload_n hx hb dX4_readToken_52 rfl (lv_at hl 0 rfl) ?_
  refine va_get (D := (dC, dI)) (ci := 4) (v := .int 0) (C := RX4) (T := TX4) (N := 10) hx hb hts hin4 hown hK hP 0 rfl rfl 6 (by decide) (hts (.fieldLink RX4 96 "YamRiders$StatuteReader" "place" "I") (by decide +kernel)) (fun _ h9 => h9) rfl dX4_readToken_53 ?_
  refine lv_aload_n hx hb dX4_readToken_56 rfl (lv_at hl 0 rfl) ?_
  refine va_get (D := (dC, dI)) (ci := 4) (v := .ref t1) (C := RX4) (T := TX4) (N := 10) hx hb hts hin4 hown hK hP 0 rfl rfl 0 (by decide) (hts (.fieldLink RX4 22 "YamRiders$StatuteReader" "tape" "LYamRiders$Tape;") (by decide +kernel)) (fun _ h9 => h9) rfl dX4_readToken_57 ?_
  refine va_getN (D := (dC, dI)) (ci := 7) (v := .int 0) (C := RX7) (T := TX7) (N := 2) hx hb hts hin7 hown hK hP 1 rfl rfl 1 (by decide) (hN.nx (.fieldLinkNest RX4 99 "YamRiders$Tape" "length" "I" "YamRiders") (by decide +kernel)) (fun _ h9 => h9) rfl dX4_readToken_60 ?_
  refine lv_icmp_lt (tgt := 74) hx hb dX4_readToken_63 (by decide) (fun c_2 => by first | exact absurd c_2 (by decide) | exact absurd (by decide) c_2) (fun _ => ?_)
  refine lv_aload_n hx hb dX4_readToken_66 rfl (lv_at hl 0 rfl) ?_
  refine lv_iconst (v := 0) hx hb dX4_readToken_67 (by decide) ?_
  refine va_put (D := (dC, dI)) (ci := 4) (v := .int 0) (ty := (tyX4 7)) (C := RX4) (T := TX4) (N := 10) hx hb hts hin4 tyX4 tyX4_ok nmX4 hown hK hP hD hS 0 rfl rfl 7 (by decide) (hts (.fieldLink RX4 29 "YamRiders$StatuteReader" "token" "I") (by decide +kernel)) (fun _ h9 => h9) rfl (by decide +kernel) rfl rfl (Nat.le_of_ble_eq_true rfl) dX4_readToken_68 (fun H locs hP hD hS => ?_)
  have hP : va_P (dC, dI) vwCl [(h0, .inr (4, [.ref t1, .ref t2, .ref t3, .int 0, .int 0, .int 0, .int 0, .int 0, .int 0, .int 0])), (t1, .inr (7, [.ref u1, .int 0]))] H := hP
  have hD : va_D A [(h0, .inr (4, [.ref t1, .ref t2, .ref t3, .int 0, .int 0, .int 0, .int 0, .int 0, .int 0, .int 0])), (t1, .inr (7, [.ref u1, .int 0]))] := hD
  refine lv_goto (tgt := 112) hx hb dX4_readToken_71 (by decide) ?_
  have hP9 := hP.sub (ws' := [(h0, .inr (4, [.ref t1, .ref t2, .ref t3, .int 0, .int 0, .int 0, .int 0, .int 0, .int 0, .int 0])), (t1, .inr (7, [.ref u1, .int 0]))]) [0, 1] rfl
  have hD9 := hD.sub (ws' := [(h0, .inr (4, [.ref t1, .ref t2, .ref t3, .int 0, .int 0, .int 0, .int 0, .int 0, .int 0, .int 0])), (t1, .inr (7, [.ref u1, .int 0]))]) [0, 1] (by decide) rfl
  have hK9 := hK.sub (tys' := []) [] rfl
  refine W.widen (k := 0) (n := 0) (Nat.le_of_ble_eq_true rfl) (Nat.le_of_ble_eq_true rfl) ?_
  exact W.vret hx hb hr (fun t9 ht hW => ⟨⟨(), rfl, trivial, by rw [ht]; exact hP9, va_K.moved hW.alike hK9, hD9⟩, hS.F ht⟩) hS.2.2 dX4_readToken_112

set_option maxHeartbeats 4000000 in
set_option maxRecDepth 100000 in
theorem c_X4_readText (l : Launch) (dC : Nat → ClassId) (dI : Nat → Nat → Nat) (h0 : Nat) (t1 : Nat) (t2 : Nat) (t3 : Nat) (u1 : Nat) (sz : Nat) : Met l yX4_readText wsX4_readText ({ frames := 1, cells := 0, slots := 0, locals := 20 }) (va_Pc [.ref h0] (cP dC dI [(h0, .inr (4, [.ref t1, .ref t2, .ref t3, .int 0, .int 0, .int 0, .int 0, .int 0, .int 0, .int 0])), (t1, .inr (7, [.ref u1, .int 0]))] [] sz)) (va_Qv (fun (_ : Unit) => True) (fun (_ : Unit) t9 => cQ dC dI [(h0, .inr (4, [.ref t1, .ref t2, .ref t3, .int 0, .int 0, .int 0, .int 0, .int 0, .int 0, .int 0])), (t1, .inr (7, [.ref u1, .int 0]))] [] (va_A [(h0, .inr (4, [.ref t1, .ref t2, .ref t3, .int 0, .int 0, .int 0, .int 0, .int 0, .int 0, .int 0])), (t1, .inr (7, [.ref u1, .int 0]))] sz) t9) (va_A [(h0, .inr (4, [.ref t1, .ref t2, .ref t3, .int 0, .int 0, .int 0, .int 0, .int 0, .int 0, .int 0])), (t1, .inr (7, [.ref u1, .int 0]))] sz)) 0 0 (va_A [(h0, .inr (4, [.ref t1, .ref t2, .ref t3, .int 0, .int 0, .int 0, .int 0, .int 0, .int 0, .int 0])), (t1, .inr (7, [.ref u1, .int 0]))] sz) := by
  refine Met.ofW (cc := cX4_readText) (maxL := 2) (ret := none) (by decide) rfl ?_
  intro p e s m args below meth c s₁ B hml hv
  obtain ⟨rfl, hsz, hP, hK, hD0, hN⟩ := hv
  have hx := B.exec
  have hb := B.bytes
  have hr := B.returns
  have hts := atoms_spec (ws := wsX4_readText) B.pre
  have hown : s.vm.findClass RX4 = some m.cls := findClass_of_methodNamed B.named
  have hlocks := B.notSynchronized
  subst hsz
  have hin4 : ∀ w ∈ u_ws RX4 TX4 10, w ∈ wsX4_readText := by decide +kernel
  have hD := hD0.self (sz := s.heap.size)
  generalize hAe : va_A [(h0, .inr (4, [.ref t1, .ref t2, .ref t3, .int 0, .int 0, .int 0, .int 0, .int 0, .int 0, .int 0])), (t1, .inr (7, [.ref u1, .int 0]))] s.heap.size = A at hD ⊢
  have hA : ∀ q : Nat, s.heap.size ≤ q → A q := fun q h => by rw [← hAe]; exact Or.inr h
  have hS : va_S A s.heap s.heap [] := va_S.rf
  have hP : va_P (dC, dI) vwCl [(h0, .inr (4, [.ref t1, .ref t2, .ref t3, .int 0, .int 0, .int 0, .int 0, .int 0, .int 0, .int 0])), (t1, .inr (7, [.ref u1, .int 0]))] s.heap := hP
  have hl := lv_entry ([.ref h0]) (n := 2) (Nat.le_of_ble_eq_true rfl)
  rw [lg_entry_eq]
  generalize (lg_sl ([.ref h0]) ++ List.replicate (2 - (lg_sl ([.ref h0])).length) Slot.unset).toArray = ls at hl ⊢
  have hl : lv_has ls 2 [(0, .ref h0)] := hl
  refine lv_aload_n hx hb dX4_readText_0 rfl (lv_at hl 0 rfl) ?_
  have hPc := hP.sub (ws' := [(h0, .inr (4, [.ref t1, .ref t2, .ref t3, .int 0, .int 0, .int 0, .int 0, .int 0, .int 0, .int 0])), (t1, .inr (7, [.ref u1, .int 0]))]) [0, 1] rfl
  have hDc := hD.sub (ws' := [(h0, .inr (4, [.ref t1, .ref t2, .ref t3, .int 0, .int 0, .int 0, .int 0, .int 0, .int 0, .int 0])), (t1, .inr (7, [.ref u1, .int 0]))]) [0, 1] (by decide) rfl
  have hKc := hK.sub (tys' := []) [] rfl
  have hFc := va_free (wc := [(h0, .inr (4, [.ref t1, .ref t2, .ref t3, .int 0, .int 0, .int 0, .int 0, .int 0, .int 0, .int 0])), (t1, .inr (7, [.ref u1, .int 0]))]) hD hS hA [0, 1] rfl
  refine va_callv (va_runV (As := []) (rest := []) ⟨hx, hb, hml, hown, hts⟩ (c_X4_readToken l dC dI h0 t1 t2 t3 u1 s.heap.size) (cwV 0 hts gX4_readText_X4_readToken rfl rfl rfl (by decide +kernel) ⟨Nat.le_of_ble_eq_true rfl, Nat.le_of_ble_eq_true rfl⟩) ⟨c_blind, va_recv hKc hPc (ci := 4) (q0 := 0) rfl rfl, c_pre hPc hKc hDc hN⟩ rfl rfl hl.1 rfl (lv_room (Nat.le_of_ble_eq_true rfl)) dX4_readText_1 ⟨Nat.le_of_ble_eq_true rfl, Nat.le_of_ble_eq_true rfl⟩) hS (fun q _ h => hFc q h) hFc (fun u9 t9 H1 locs ht hvm hw hB hz1 hk1 hS => ?_)
  obtain ⟨hP1, hK1, hD1⟩ := hB
  rw [ht] at hP1
  have hK1 := va_K.moved hvm.symm hK1
  obtain ⟨hP, hD⟩ := va_join (wr := []) (w1 := [(h0, .inr (4, [.ref t1, .ref t2, .ref t3, .int 0, .int 0, .int 0, .int 0, .int 0, .int 0, .int 0])), (t1, .inr (7, [.ref u1, .int 0]))]) hP hD [0, 1] [] rfl rfl (by decide) (by decide) hk1 hFc hP1 hD1
  have hK := (hK.sub (tys' := []) [] rfl).app hK1
  generalize H1 = H at hP hS ⊢
  have hK : va_K (dC, dI) vwCl [] s := hK
  have hP : va_P (dC, dI) vwCl [(h0, .inr (4, [.ref t1, .ref t2, .ref t3, .int 0, .int 0, .int 0, .int 0, .int 0, .int 0, .int 0])), (t1, .inr (7, [.ref u1, .int 0]))] H := hP
  have hD : va_D A [(h0, .inr (4, [.ref t1, .ref t2, .ref t3, .int 0, .int 0, .int 0, .int 0, .int 0, .int 0, .int 0])), (t1, .inr (7, [.ref u1, .int 0]))] := hD
  refine W.widen (k := 0) (n := 0) (Nat.le_of_ble_eq_true rfl) (Nat.le_of_ble_eq_true rfl) ?_
  refine lv_iconst (v := 0) hx hb dX4_readText_4 (by decide) ?_
  refine lv_istore_n (lv' := [(1, .int 0), (0, .ref h0)]) hx hb dX4_readText_5 rfl hl (by decide) rfl (fun ls hl => ?_)
  refine lv_iload_n hx hb dX4_readText_6 rfl (lv_at hl 0 rfl) ?_
  refine lv_bipush (v := 6) hx hb dX4_readText_7 (by decide) ?_
  refine lv_icmp_gt (tgt := 43) hx hb dX4_readText_9 (by decide) (fun c_2 => by first | exact absurd c_2 (by decide) | exact absurd (by decide) c_2) (fun _ => ?_)
  refine lv_aload_n hx hb dX4_readText_12 rfl (lv_at hl 1 rfl) ?_
  refine va_get (D := (dC, dI)) (ci := 4) (v := .int 0) (C := RX4) (T := TX4) (N := 10) hx hb hts hin4 hown hK hP 0 rfl rfl 7 (by decide) (hts (.fieldLink RX4 29 "YamRiders$StatuteReader" "token" "I") (by decide +kernel)) (fun _ h9 => h9) rfl dX4_readText_13 ?_
  refine lv_if_eq (tgt := 26) hx hb dX4_readText_16 (by decide) (fun _ => ?_) (fun c_3 => by first | exact absurd c_3 (by decide) | exact absurd (by decide) c_3)
  have hP9 := hP.sub (ws' := [(h0, .inr (4, [.ref t1, .ref t2, .ref t3, .int 0, .int 0, .int 0, .int 0, .int 0, .int 0, .int 0])), (t1, .inr (7, [.ref u1, .int 0]))]) [0, 1] rfl
  have hD9 := hD.sub (ws' := [(h0, .inr (4, [.ref t1, .ref t2, .ref t3, .int 0, .int 0, .int 0, .int 0, .int 0, .int 0, .int 0])), (t1, .inr (7, [.ref u1, .int 0]))]) [0, 1] (by decide) rfl
  have hK9 := hK.sub (tys' := []) [] rfl
  refine W.widen (k := 0) (n := 0) (Nat.le_of_ble_eq_true rfl) (Nat.le_of_ble_eq_true rfl) ?_
  exact W.vret hx hb hr (fun t9 ht hW => ⟨⟨(), rfl, trivial, by rw [ht]; exact hP9, va_K.moved hW.alike hK9, hD9⟩, hS.F ht⟩) hS.2.2 dX4_readText_26

set_option maxHeartbeats 4000000 in
set_option maxRecDepth 100000 in
theorem c_X8_statutes (l : Launch) (dC : Nat → ClassId) (dI : Nat → Nat → Nat) (h0 : Nat) (a1 : Nat) (a2 : Nat) (a3 : Nat) (a4 : Nat) (a5 : Nat) (a6 : Nat) (a7 : Nat) (a8 : Nat) (a9 : Nat) (b1 : Nat) (sz : Nat) : Met l yX8_statutes wsX8_statutes ({ frames := 3, cells := 4, slots := 23, locals := 61 }) (va_Pc [.ref h0] (cP dC dI [(h0, .inr (8, [.ref a1, .ref a2, .ref a3, .ref a4, .ref a5, .ref a6, .ref a7, .ref a8, .ref a9, .int 0, .int 0, .int 0, .int 0, .int 0, .int 0])), (a1, .inr (7, [.ref b1, .int 0]))] [] sz)) (va_Qi (fun (r : Int32) (_ : Unit) => r = 0) (fun (_ : Unit) t9 => cQ dC dI [] [] (va_A [(h0, .inr (8, [.ref a1, .ref a2, .ref a3, .ref a4, .ref a5, .ref a6, .ref a7, .ref a8, .ref a9, .int 0, .int 0, .int 0, .int 0, .int 0, .int 0])), (a1, .inr (7, [.ref b1, .int 0]))] sz) t9) (va_A [(h0, .inr (8, [.ref a1, .ref a2, .ref a3, .ref a4, .ref a5, .ref a6, .ref a7, .ref a8, .ref a9, .int 0, .int 0, .int 0, .int 0, .int 0, .int 0])), (a1, .inr (7, [.ref b1, .int 0]))] sz)) 4 23 (va_A [(h0, .inr (8, [.ref a1, .ref a2, .ref a3, .ref a4, .ref a5, .ref a6, .ref a7, .ref a8, .ref a9, .int 0, .int 0, .int 0, .int 0, .int 0, .int 0])), (a1, .inr (7, [.ref b1, .int 0]))] sz) := by
  refine Met.ofW (cc := cX8_statutes) (maxL := 2) (ret := (some .int)) (by decide) rfl ?_
  intro p e s m args below meth c s₁ B hml hv
  obtain ⟨rfl, hsz, hP, hK, hD0, hN⟩ := hv
  have hx := B.exec
  have hb := B.bytes
  have hr := B.returns
  have hts := atoms_spec (ws := wsX8_statutes) B.pre
  have hown : s.vm.findClass RX8 = some m.cls := findClass_of_methodNamed B.named
  have hlocks := B.notSynchronized
  subst hsz
  have hin4 : ∀ w ∈ u_ws RX4 TX4 10, w ∈ wsX8_statutes := by decide +kernel
  have hin7 : ∀ w ∈ u_ws RX7 TX7 2, w ∈ wsX8_statutes := by decide +kernel
  have hin8 : ∀ w ∈ u_ws RX8 TX8 15, w ∈ wsX8_statutes := by decide +kernel
  have hD := hD0.self (sz := s.heap.size)
  generalize hAe : va_A [(h0, .inr (8, [.ref a1, .ref a2, .ref a3, .ref a4, .ref a5, .ref a6, .ref a7, .ref a8, .ref a9, .int 0, .int 0, .int 0, .int 0, .int 0, .int 0])), (a1, .inr (7, [.ref b1, .int 0]))] s.heap.size = A at hD ⊢
  have hA : ∀ q : Nat, s.heap.size ≤ q → A q := fun q h => by rw [← hAe]; exact Or.inr h
  have hS : va_S A s.heap s.heap [] := va_S.rf
  have hP : va_P (dC, dI) vwCl [(h0, .inr (8, [.ref a1, .ref a2, .ref a3, .ref a4, .ref a5, .ref a6, .ref a7, .ref a8, .ref a9, .int 0, .int 0, .int 0, .int 0, .int 0, .int 0])), (a1, .inr (7, [.ref b1, .int 0]))] s.heap := hP
  have hl := lv_entry ([.ref h0]) (n := 2) (Nat.le_of_ble_eq_true rfl)
  rw [lg_entry_eq]
  generalize (lg_sl ([.ref h0]) ++ List.replicate (2 - (lg_sl ([.ref h0])).length) Slot.unset).toArray = ls at hl ⊢
  have hl : lv_has ls 2 [(0, .ref h0)] := hl
  refine va_new (ci := 4) (fs := [.null, .null, .null, .int 0, .int 0, .int 0, .int 0, .int 0, .int 0, .int 0]) (C := RX4) (T := TX4) (N := 10) hx hb hts hin4 tyX4 tyX4_ok hown (hts (.classLink RX8 74 RX4) (by decide +kernel)) (hts (.instantiable RX4 10) (by decide +kernel)) (hts (.initialized RX4) (by decide +kernel)) hK hP hD hS hA rfl (by decide +kernel) (Nat.le_of_ble_eq_true rfl) (Nat.le_of_ble_eq_true rfl) dX8_statutes_0 (fun q_1 H hP hD hS => ?_)
  refine W.widen (k := 1) (n := 10) (Nat.le_of_ble_eq_true rfl) (Nat.le_of_ble_eq_true rfl) ?_
  have hP : va_P (dC, dI) vwCl [(h0, .inr (8, [.ref a1, .ref a2, .ref a3, .ref a4, .ref a5, .ref a6, .ref a7, .ref a8, .ref a9, .int 0, .int 0, .int 0, .int 0, .int 0, .int 0])), (a1, .inr (7, [.ref b1, .int 0])), (q_1, .inr (4, [.null, .null, .null, .int 0, .int 0, .int 0, .int 0, .int 0, .int 0, .int 0]))] H := hP
  have hD : va_D A [(h0, .inr (8, [.ref a1, .ref a2, .ref a3, .ref a4, .ref a5, .ref a6, .ref a7, .ref a8, .ref a9, .int 0, .int 0, .int 0, .int 0, .int 0, .int 0])), (a1, .inr (7, [.ref b1, .int 0])), (q_1, .inr (4, [.null, .null, .null, .int 0, .int 0, .int 0, .int 0, .int 0, .int 0, .int 0]))] := hD
  refine lv_dup hx hb dX8_statutes_3 rfl ?_
  refine lv_aload_n hx hb dX8_statutes_4 rfl (lv_at hl 0 rfl) ?_
  refine va_get (D := (dC, dI)) (ci := 8) (v := .ref a1) (C := RX8) (T := TX8) (N := 15) hx hb hts hin8 hown hK hP 0 rfl rfl 0 (by decide) (hts (.fieldLink RX8 10 "YamRiders" "tape" "LYamRiders$Tape;") (by decide +kernel)) (fun _ h9 => h9) rfl dX8_statutes_5 ?_
  have hPc := hP.sub (ws' := [(q_1, .inr (4, [.null, .null, .null, .int 0, .int 0, .int 0, .int 0, .int 0, .int 0, .int 0]))]) [2] rfl
  have hDc := hD.sub (ws' := [(q_1, .inr (4, [.null, .null, .null, .int 0, .int 0, .int 0, .int 0, .int 0, .int 0, .int 0]))]) [2] (by decide) rfl
  have hKc := hK.sub (tys' := []) [] rfl
  have hFc := va_free (wc := [(q_1, .inr (4, [.null, .null, .null, .int 0, .int 0, .int 0, .int 0, .int 0, .int 0, .int 0]))]) hD hS hA [2] rfl
  refine va_callv (va_runI (As := [.ref a1]) (rest := [.ref q_1]) ⟨hx, hb, hml, hown, hts⟩ (c_X4_init l dC dI q_1 a1 H.size) (cwI 1 hts gX8_statutes_X4_init rfl rfl rfl (hts (.initialized RX4) (by decide +kernel)) (hts (.methodLink RX8 76 yX4_init) (by decide +kernel)) (hts (.instanceMethod yX4_init) (by decide +kernel)) rfl (by decide +kernel) ⟨Nat.le_of_ble_eq_true rfl, Nat.le_of_ble_eq_true rfl⟩) ⟨c_blind, c_pre hPc hKc hDc hN⟩ rfl rfl hl.1 rfl (lv_room (Nat.le_of_ble_eq_true rfl)) dX8_statutes_8 ⟨Nat.le_of_ble_eq_true rfl, Nat.le_of_ble_eq_true rfl⟩) hS (fun q _ h => hFc q h) hFc (fun u9 t9 H1 locs ht hvm hw hB hz1 hk1 hS => ?_)
  obtain ⟨t_3, t_4, hP1, hK1, hD1⟩ := hB
  rw [ht] at hP1
  have hK1 := va_K.moved hvm.symm hK1
  obtain ⟨hP, hD⟩ := va_join (wr := [(h0, .inr (8, [.ref a1, .ref a2, .ref a3, .ref a4, .ref a5, .ref a6, .ref a7, .ref a8, .ref a9, .int 0, .int 0, .int 0, .int 0, .int 0, .int 0])), (a1, .inr (7, [.ref b1, .int 0]))]) (w1 := [(q_1, .inr (4, [.ref a1, .ref t_3, .ref t_4, .int 0, .int 0, .int 0, .int 0, .int 0, .int 0, .int 0]))]) hP hD [2] [0, 1] rfl rfl (by decide) (by decide) hk1 hFc hP1 hD1
  have hK := (hK.sub (tys' := []) [] rfl).app hK1
  generalize H1 = H at hP hS ⊢
  have hK : va_K (dC, dI) vwCl [] s := hK
  have hP : va_P (dC, dI) vwCl [(h0, .inr (8, [.ref a1, .ref a2, .ref a3, .ref a4, .ref a5, .ref a6, .ref a7, .ref a8, .ref a9, .int 0, .int 0, .int 0, .int 0, .int 0, .int 0])), (a1, .inr (7, [.ref b1, .int 0])), (q_1, .inr (4, [.ref a1, .ref t_3, .ref t_4, .int 0, .int 0, .int 0, .int 0, .int 0, .int 0, .int 0]))] H := hP
  have hD : va_D A [(h0, .inr (8, [.ref a1, .ref a2, .ref a3, .ref a4, .ref a5, .ref a6, .ref a7, .ref a8, .ref a9, .int 0, .int 0, .int 0, .int 0, .int 0, .int 0])), (a1, .inr (7, [.ref b1, .int 0])), (q_1, .inr (4, [.ref a1, .ref t_3, .ref t_4, .int 0, .int 0, .int 0, .int 0, .int 0, .int 0, .int 0]))] := hD
  refine W.widen (k := 4) (n := 23) (Nat.le_of_ble_eq_true rfl) (Nat.le_of_ble_eq_true rfl) ?_
  refine lv_astore_n (lv' := [(1, .ref q_1), (0, .ref h0)]) hx hb dX8_statutes_11 rfl hl (by decide) rfl (fun ls hl => ?_)
  refine lv_aload_n hx hb dX8_statutes_12 rfl (lv_at hl 0 rfl) ?_
  have hPc := hP.sub (ws' := [(q_1, .inr (4, [.ref a1, .ref t_3, .ref t_4, .int 0, .int 0, .int 0, .int 0, .int 0, .int 0, .int 0])), (a1, .inr (7, [.ref b1, .int 0]))]) [2, 1] rfl
  have hDc := hD.sub (ws' := [(q_1, .inr (4, [.ref a1, .ref t_3, .ref t_4, .int 0, .int 0, .int 0, .int 0, .int 0, .int 0, .int 0])), (a1, .inr (7, [.ref b1, .int 0]))]) [2, 1] (by decide) rfl
  have hKc := hK.sub (tys' := []) [] rfl
  have hFc := va_free (wc := [(q_1, .inr (4, [.ref a1, .ref t_3, .ref t_4, .int 0, .int 0, .int 0, .int 0, .int 0, .int 0, .int 0])), (a1, .inr (7, [.ref b1, .int 0]))]) hD hS hA [2, 1] rfl
  refine va_callv (va_runV (As := []) (rest := []) ⟨hx, hb, hml, hown, hts⟩ (c_X4_readText l dC dI q_1 a1 t_3 t_4 b1 H.size) (cwV 0 hts gX8_statutes_X4_readText rfl rfl rfl (by decide +kernel) ⟨Nat.le_of_ble_eq_true rfl, Nat.le_of_ble_eq_true rfl⟩) ⟨c_blind, va_recv hKc hPc (ci := 4) (q0 := 0) rfl rfl, c_pre hPc hKc hDc hN⟩ rfl rfl hl.1 rfl (lv_room (Nat.le_of_ble_eq_true rfl)) dX8_statutes_13 ⟨Nat.le_of_ble_eq_true rfl, Nat.le_of_ble_eq_true rfl⟩) hS (fun q _ h => hFc q h) hFc (fun u9 t9 H1 locs ht hvm hw hB hz1 hk1 hS => ?_)
  obtain ⟨hP1, hK1, hD1⟩ := hB
  rw [ht] at hP1
  have hK1 := va_K.moved hvm.symm hK1
  obtain ⟨hP, hD⟩ := va_join (wr := [(h0, .inr (8, [.ref a1, .ref a2, .ref a3, .ref a4, .ref a5, .ref a6, .ref a7, .ref a8, .ref a9, .int 0, .int 0, .int 0, .int 0, .int 0, .int 0]))]) (w1 := [(q_1, .inr (4, [.ref a1, .ref t_3, .ref t_4, .int 0, .int 0, .int 0, .int 0, .int 0, .int 0, .int 0])), (a1, .inr (7, [.ref b1, .int 0]))]) hP hD [2, 1] [0] rfl rfl (by decide) (by decide) hk1 hFc hP1 hD1
  have hK := (hK.sub (tys' := []) [] rfl).app hK1
  generalize H1 = H at hP hS ⊢
  have hK : va_K (dC, dI) vwCl [] s := hK
  have hP : va_P (dC, dI) vwCl [(h0, .inr (8, [.ref a1, .ref a2, .ref a3, .ref a4, .ref a5, .ref a6, .ref a7, .ref a8, .ref a9, .int 0, .int 0, .int 0, .int 0, .int 0, .int 0])), (q_1, .inr (4, [.ref a1, .ref t_3, .ref t_4, .int 0, .int 0, .int 0, .int 0, .int 0, .int 0, .int 0])), (a1, .inr (7, [.ref b1, .int 0]))] H := hP
  have hD : va_D A [(h0, .inr (8, [.ref a1, .ref a2, .ref a3, .ref a4, .ref a5, .ref a6, .ref a7, .ref a8, .ref a9, .int 0, .int 0, .int 0, .int 0, .int 0, .int 0])), (q_1, .inr (4, [.ref a1, .ref t_3, .ref t_4, .int 0, .int 0, .int 0, .int 0, .int 0, .int 0, .int 0])), (a1, .inr (7, [.ref b1, .int 0]))] := hD
  refine W.widen (k := 4) (n := 23) (Nat.le_of_ble_eq_true rfl) (Nat.le_of_ble_eq_true rfl) ?_
  refine lv_aload_n hx hb dX8_statutes_16 rfl (lv_at hl 1 rfl) ?_
  refine va_get (D := (dC, dI)) (ci := 8) (v := .ref a1) (C := RX8) (T := TX8) (N := 15) hx hb hts hin8 hown hK hP 0 rfl rfl 0 (by decide) (hts (.fieldLink RX8 10 "YamRiders" "tape" "LYamRiders$Tape;") (by decide +kernel)) (fun _ h9 => h9) rfl dX8_statutes_17 ?_
  refine lv_iconst (v := 0) hx hb dX8_statutes_20 (by decide) ?_
  refine va_putN (D := (dC, dI)) (ci := 7) (v := .int 0) (ty := (tyX7 1)) (C := RX7) (T := TX7) (N := 2) hx hb hts hin7 tyX7 tyX7_ok nmX7 hown hK hP hD hS 2 rfl rfl 1 (by decide) (hN.nx (.fieldLinkNest RX8 70 "YamRiders$Tape" "length" "I" "YamRiders") (by decide +kernel)) (fun _ h9 => h9) rfl (by decide +kernel) rfl rfl (Nat.le_of_ble_eq_true rfl) dX8_statutes_21 (fun H locs hP hD hS => ?_)
  have hP : va_P (dC, dI) vwCl [(h0, .inr (8, [.ref a1, .ref a2, .ref a3, .ref a4, .ref a5, .ref a6, .ref a7, .ref a8, .ref a9, .int 0, .int 0, .int 0, .int 0, .int 0, .int 0])), (q_1, .inr (4, [.ref a1, .ref t_3, .ref t_4, .int 0, .int 0, .int 0, .int 0, .int 0, .int 0, .int 0])), (a1, .inr (7, [.ref b1, .int 0]))] H := hP
  have hD : va_D A [(h0, .inr (8, [.ref a1, .ref a2, .ref a3, .ref a4, .ref a5, .ref a6, .ref a7, .ref a8, .ref a9, .int 0, .int 0, .int 0, .int 0, .int 0, .int 0])), (q_1, .inr (4, [.ref a1, .ref t_3, .ref t_4, .int 0, .int 0, .int 0, .int 0, .int 0, .int 0, .int 0])), (a1, .inr (7, [.ref b1, .int 0]))] := hD
  refine lv_aload_n hx hb dX8_statutes_24 rfl (lv_at hl 1 rfl) ?_
  refine lv_aload_n hx hb dX8_statutes_25 rfl (lv_at hl 0 rfl) ?_
  refine va_getN (D := (dC, dI)) (ci := 4) (v := .int 0) (C := RX4) (T := TX4) (N := 10) hx hb hts hin4 hown hK hP 1 rfl rfl 4 (by decide) (hN.nx (.fieldLinkNest RX8 82 "YamRiders$StatuteReader" "faultKind" "I" "YamRiders") (by decide +kernel)) (fun _ h9 => h9) rfl dX8_statutes_26 ?_
  refine va_put (D := (dC, dI)) (ci := 8) (v := .int 0) (ty := (tyX8 9)) (C := RX8) (T := TX8) (N := 15) hx hb hts hin8 tyX8 tyX8_ok nmX8 hown hK hP hD hS 0 rfl rfl 9 (by decide) (hts (.fieldLink RX8 85 "YamRiders" "faultKind" "I") (by decide +kernel)) (fun _ h9 => h9) rfl (by decide +kernel) rfl rfl (Nat.le_of_ble_eq_true rfl) dX8_statutes_29 (fun H locs hP hD hS => ?_)
  have hP : va_P (dC, dI) vwCl [(h0, .inr (8, [.ref a1, .ref a2, .ref a3, .ref a4, .ref a5, .ref a6, .ref a7, .ref a8, .ref a9, .int 0, .int 0, .int 0, .int 0, .int 0, .int 0])), (q_1, .inr (4, [.ref a1, .ref t_3, .ref t_4, .int 0, .int 0, .int 0, .int 0, .int 0, .int 0, .int 0])), (a1, .inr (7, [.ref b1, .int 0]))] H := hP
  have hD : va_D A [(h0, .inr (8, [.ref a1, .ref a2, .ref a3, .ref a4, .ref a5, .ref a6, .ref a7, .ref a8, .ref a9, .int 0, .int 0, .int 0, .int 0, .int 0, .int 0])), (q_1, .inr (4, [.ref a1, .ref t_3, .ref t_4, .int 0, .int 0, .int 0, .int 0, .int 0, .int 0, .int 0])), (a1, .inr (7, [.ref b1, .int 0]))] := hD
  refine lv_aload_n hx hb dX8_statutes_32 rfl (lv_at hl 1 rfl) ?_
  refine va_get (D := (dC, dI)) (ci := 8) (v := .int 0) (C := RX8) (T := TX8) (N := 15) hx hb hts hin8 hown hK hP 0 rfl rfl 9 (by decide) (hts (.fieldLink RX8 85 "YamRiders" "faultKind" "I") (by decide +kernel)) (fun _ h9 => h9) rfl dX8_statutes_33 ?_
  refine lv_if_eq (tgt := 46) hx hb dX8_statutes_36 (by decide) (fun _ => ?_) (fun c_6 => by first | exact absurd c_6 (by decide) | exact absurd (by decide) c_6)
  refine lv_aload_n hx hb dX8_statutes_46 rfl (lv_at hl 1 rfl) ?_
  refine lv_aload_n hx hb dX8_statutes_47 rfl (lv_at hl 0 rfl) ?_
  refine va_getN (D := (dC, dI)) (ci := 4) (v := .ref t_3) (C := RX4) (T := TX4) (N := 10) hx hb hts hin4 hown hK hP 1 rfl rfl 1 (by decide) (hN.nx (.fieldLinkNest RX8 89 "YamRiders$StatuteReader" "told" "LYamRiders$Statutes;" "YamRiders") (by decide +kernel)) (fun _ h9 => h9) rfl dX8_statutes_48 ?_
  refine va_put (D := (dC, dI)) (ci := 8) (v := .ref t_3) (ty := (tyX8 8)) (C := RX8) (T := TX8) (N := 15) hx hb hts hin8 tyX8 tyX8_ok nmX8 hown hK hP hD hS 0 rfl rfl 8 (by decide) (hts (.fieldLink RX8 58 "YamRiders" "law" "LYamRiders$Statutes;") (by decide +kernel)) (fun _ h9 => h9) rfl (by decide +kernel) rfl rfl (Nat.le_of_ble_eq_true rfl) dX8_statutes_51 (fun H locs hP hD hS => ?_)
  have hP : va_P (dC, dI) vwCl [(h0, .inr (8, [.ref a1, .ref a2, .ref a3, .ref a4, .ref a5, .ref a6, .ref a7, .ref a8, .ref t_3, .int 0, .int 0, .int 0, .int 0, .int 0, .int 0])), (q_1, .inr (4, [.ref a1, .ref t_3, .ref t_4, .int 0, .int 0, .int 0, .int 0, .int 0, .int 0, .int 0])), (a1, .inr (7, [.ref b1, .int 0]))] H := hP
  have hD : va_D A [(h0, .inr (8, [.ref a1, .ref a2, .ref a3, .ref a4, .ref a5, .ref a6, .ref a7, .ref a8, .ref t_3, .int 0, .int 0, .int 0, .int 0, .int 0, .int 0])), (q_1, .inr (4, [.ref a1, .ref t_3, .ref t_4, .int 0, .int 0, .int 0, .int 0, .int 0, .int 0, .int 0])), (a1, .inr (7, [.ref b1, .int 0]))] := hD
  refine lv_aload_n hx hb dX8_statutes_54 rfl (lv_at hl 0 rfl) ?_
  refine va_getN (D := (dC, dI)) (ci := 4) (v := .int 0) (C := RX4) (T := TX4) (N := 10) hx hb hts hin4 hown hK hP 1 rfl rfl 3 (by decide) (hN.nx (.fieldLinkNest RX8 92 "YamRiders$StatuteReader" "ruleCount" "I" "YamRiders") (by decide +kernel)) (fun _ h9 => h9) rfl dX8_statutes_55 ?_
  have hP9 := hP.sub (ws' := []) [] rfl
  have hD9 := hD.sub (ws' := []) [] (by decide) rfl
  have hK9 := hK.sub (tys' := []) [] rfl
  refine W.widen (k := 4) (n := 23) (Nat.le_of_ble_eq_true rfl) (Nat.le_of_ble_eq_true rfl) ?_
  exact W.iret (v := 0) hx hb hr (fun t9 ht hW => ⟨⟨_, (), rfl, rfl, by rw [ht]; exact hP9, va_K.moved hW.alike hK9, hD9⟩, hS.F ht⟩) hS.2.2 dX8_statutes_58
