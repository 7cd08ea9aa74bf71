theorem ix144 {u v : Int32} (hu : ¬ sp_st u = 0) (hv : ¬ sp_st v = 0) : vp_in (12 * u + v) 144 := by
  obtain ⟨a, ha, rfl⟩ := st_of hu
  obtain ⟨b, hb, rfl⟩ := st_of hv
  rw [show (12 : Int32) = nI 12 from rfl, pk_mul, nI_add]
  exact vp_in_nI (by omega) (by decide)

set_option maxHeartbeats 4000000 in
set_option maxRecDepth 100000 in
theorem c_X9_four_0 (l : Launch) (dC : Nat → ClassId) (dI : Nat → Nat → Nat) (h0 : Nat) (m1 : Nat) (m5 : Nat) (m6 : Nat) (m7 : Nat) (m15 : Nat) (m16 : Nat) (m17 : Nat) (m18 : Nat) (m19 : Nat) (m20 : Nat) (m22 : Nat) (m23 : Nat) (m24 : Nat) (m25 : Nat) (m26 : Nat) (m27 : Nat) (m28 : Nat) (m29 : Nat) (m30 : Nat) (m31 : Nat) (m32 : Nat) (m33 : Nat) (m34 : Nat) (m37 : Nat) (m38 : Nat) (m39 : Nat) (m40 : Nat) (m41 : Nat) (m42 : Nat) (m43 : Nat) (m44 : Nat) (m45 : Nat) (m46 : Nat) (k_tape : ClassId) (f1 : Nat → Int32) (p0 : Int32) (sz : Nat) : Met l yX9_four wsX9_four ({ frames := 0, cells := 0, slots := 0, locals := 0 }) (va_Pc [.ref h0, .int p0] (cP dC dI [(h0, .inr (9, [.int 0, .ref m1, .int 0, .int 0, .int 0, .ref m5, .ref m6, .ref m7, .int 0, .int 0, .int 0, .int 0, .int 0, .int 0, .long 0, .ref m15, .ref m16, .ref m17, .ref m18, .ref m19, .ref m20, .int 0, .ref m22, .ref m23, .ref m24, .ref m25, .ref m26, .ref m27, .ref m28, .ref m29, .ref m30, .ref m31, .ref m32, .ref m33, .ref m34, .int 0, .int 0, .ref m37, .ref m38, .ref m39, .ref m40, .ref m41, .ref m42, .ref m43, .ref m44, .ref m45, .ref m46])), (m1, .inl (k_tape, 200, .inl f1))] [(k_tape, .byte)] sz)) (va_Qv (fun (_ : Unit) => True) (fun (_ : Unit) t9 => ∃ (f2 : Nat → Int32), cQ dC dI [(h0, .inr (9, [.int 0, .ref m1, .int 4, .int 0, .int 0, .ref m5, .ref m6, .ref m7, .int 0, .int 0, .int 0, .int 0, .int 0, .int 0, .long 0, .ref m15, .ref m16, .ref m17, .ref m18, .ref m19, .ref m20, .int 0, .ref m22, .ref m23, .ref m24, .ref m25, .ref m26, .ref m27, .ref m28, .ref m29, .ref m30, .ref m31, .ref m32, .ref m33, .ref m34, .int 0, .int 0, .ref m37, .ref m38, .ref m39, .ref m40, .ref m41, .ref m42, .ref m43, .ref m44, .ref m45, .ref m46])), (m1, .inl (k_tape, 200, .inl f2))] [] (va_A [(h0, .inr (9, [.int 0, .ref m1, .int 0, .int 0, .int 0, .ref m5, .ref m6, .ref m7, .int 0, .int 0, .int 0, .int 0, .int 0, .int 0, .long 0, .ref m15, .ref m16, .ref m17, .ref m18, .ref m19, .ref m20, .int 0, .ref m22, .ref m23, .ref m24, .ref m25, .ref m26, .ref m27, .ref m28, .ref m29, .ref m30, .ref m31, .ref m32, .ref m33, .ref m34, .int 0, .int 0, .ref m37, .ref m38, .ref m39, .ref m40, .ref m41, .ref m42, .ref m43, .ref m44, .ref m45, .ref m46])), (m1, .inl (k_tape, 200, .inl f1))] sz) t9) (va_A [(h0, .inr (9, [.int 0, .ref m1, .int 0, .int 0, .int 0, .ref m5, .ref m6, .ref m7, .int 0, .int 0, .int 0, .int 0, .int 0, .int 0, .long 0, .ref m15, .ref m16, .ref m17, .ref m18, .ref m19, .ref m20, .int 0, .ref m22, .ref m23, .ref m24, .ref m25, .ref m26, .ref m27, .ref m28, .ref m29, .ref m30, .ref m31, .ref m32, .ref m33, .ref m34, .int 0, .int 0, .ref m37, .ref m38, .ref m39, .ref m40, .ref m41, .ref m42, .ref m43, .ref m44, .ref m45, .ref m46])), (m1, .inl (k_tape, 200, .inl f1))] sz)) 0 0 (va_A [(h0, .inr (9, [.int 0, .ref m1, .int 0, .int 0, .int 0, .ref m5, .ref m6, .ref m7, .int 0, .int 0, .int 0, .int 0, .int 0, .int 0, .long 0, .ref m15, .ref m16, .ref m17, .ref m18, .ref m19, .ref m20, .int 0, .ref m22, .ref m23, .ref m24, .ref m25, .ref m26, .ref m27, .ref m28, .ref m29, .ref m30, .ref m31, .ref m32, .ref m33, .ref m34, .int 0, .int 0, .ref m37, .ref m38, .ref m39, .ref m40, .ref m41, .ref m42, .ref m43, .ref m44, .ref m45, .ref m46])), (m1, .inl (k_tape, 200, .inl f1))] sz) := by
  refine Met.ofW (cc := cX9_four) (maxL := 3) (ret := none) (by decide) rfl ?_
  intro p e s m args below meth c s₁ B hml hv
  obtain ⟨rfl, hsz, hP, hK, hD0, hN⟩ := hv
  have hx := B.exec
  have hb := B.bytes
  have hr := B.returns
  have hts := atoms_spec (ws := wsX9_four) B.pre
  have hown : s.vm.findClass RX9 = some m.cls := findClass_of_methodNamed B.named
  have hlocks := B.notSynchronized
  subst hsz
  have hin9 : ∀ w ∈ u_ws RX9 TX9 47, w ∈ wsX9_four := by decide +kernel
  have hD := hD0.self (sz := s.heap.size)
  generalize hAe : va_A [(h0, .inr (9, [.int 0, .ref m1, .int 0, .int 0, .int 0, .ref m5, .ref m6, .ref m7, .int 0, .int 0, .int 0, .int 0, .int 0, .int 0, .long 0, .ref m15, .ref m16, .ref m17, .ref m18, .ref m19, .ref m20, .int 0, .ref m22, .ref m23, .ref m24, .ref m25, .ref m26, .ref m27, .ref m28, .ref m29, .ref m30, .ref m31, .ref m32, .ref m33, .ref m34, .int 0, .int 0, .ref m37, .ref m38, .ref m39, .ref m40, .ref m41, .ref m42, .ref m43, .ref m44, .ref m45, .ref m46])), (m1, .inl (k_tape, 200, .inl f1))] s.heap.size = A at hD ⊢
  have hA : ∀ q : Nat, s.heap.size ≤ q → A q := fun q h => by rw [← hAe]; exact Or.inr h
  have hS : va_S A s.heap s.heap [] := va_S.rf
  have hP : va_P (dC, dI) vwCl [(h0, .inr (9, [.int 0, .ref m1, .int 0, .int 0, .int 0, .ref m5, .ref m6, .ref m7, .int 0, .int 0, .int 0, .int 0, .int 0, .int 0, .long 0, .ref m15, .ref m16, .ref m17, .ref m18, .ref m19, .ref m20, .int 0, .ref m22, .ref m23, .ref m24, .ref m25, .ref m26, .ref m27, .ref m28, .ref m29, .ref m30, .ref m31, .ref m32, .ref m33, .ref m34, .int 0, .int 0, .ref m37, .ref m38, .ref m39, .ref m40, .ref m41, .ref m42, .ref m43, .ref m44, .ref m45, .ref m46])), (m1, .inl (k_tape, 200, .inl f1))] s.heap := hP
  have hl := lv_entry ([.ref h0, .int p0]) (n := 3) (Nat.le_of_ble_eq_true rfl)
  rw [lg_entry_eq]
  generalize (lg_sl ([.ref h0, .int p0]) ++ List.replicate (3 - (lg_sl ([.ref h0, .int p0])).length) Slot.unset).toArray = ls at hl ⊢
  have hl : lv_has ls 3 [(0, .ref h0), (1, .int p0)] := hl
  refine lv_bipush (v := 24) hx hb dX9_four_0 (by decide) ?_
  refine lv_istore_n (lv' := [(2, .int 24), (0, .ref h0), (1, .int p0)]) hx hb dX9_four_2 rfl hl (by decide) rfl (fun ls hl => ?_)
  refine lv_iload_n hx hb dX9_four_3 rfl (lv_at hl 0 rfl) ?_
  refine lv_if_lt (tgt := 36) hx hb dX9_four_4 (by decide) (fun c_1 => by first | exact absurd c_1 (by decide) | exact absurd (by decide) c_1) (fun _ => ?_)
  refine lv_aload_n hx hb dX9_four_7 rfl (lv_at hl 1 rfl) ?_
  refine va_get (D := (dC, dI)) (ci := 9) (v := .ref m1) (C := RX9) (T := TX9) (N := 47) hx hb hts hin9 hown hK hP 0 rfl rfl 1 (by decide) (hts (.fieldLink RX9 7 "YamRidersModel" "tape" "[B") (by decide +kernel)) (fun _ h9 => h9) rfl dX9_four_8 ?_
  refine lv_aload_n hx hb dX9_four_11 rfl (lv_at hl 1 rfl) ?_
  refine va_get (D := (dC, dI)) (ci := 9) (v := .int 0) (C := RX9) (T := TX9) (N := 47) hx hb hts hin9 hown hK hP 0 rfl rfl 2 (by decide) (hts (.fieldLink RX9 115 "YamRidersModel" "length" "I") (by decide +kernel)) (fun _ h9 => h9) rfl dX9_four_12 ?_
  refine lv_iload_n hx hb dX9_four_15 rfl (lv_at hl 2 rfl) ?_
  refine lv_iload_n hx hb dX9_four_16 rfl (lv_at hl 0 rfl) ?_
  refine lv_ishr hx hb dX9_four_17 ?_
  refine lv_i2b hx hb dX9_four_18 rfl ?_
  refine lv_topi (fun v_2 ev_2 => ?_)
  refine va_bast hx hb hK hP hD hS 1 0 rfl rfl (by unfold vp_in; decide) dX9_four_19 (fun H locs hP hD hS => ?_)
  have hP : va_P (dC, dI) vwCl [(h0, .inr (9, [.int 0, .ref m1, .int 0, .int 0, .int 0, .ref m5, .ref m6, .ref m7, .int 0, .int 0, .int 0, .int 0, .int 0, .int 0, .long 0, .ref m15, .ref m16, .ref m17, .ref m18, .ref m19, .ref m20, .int 0, .ref m22, .ref m23, .ref m24, .ref m25, .ref m26, .ref m27, .ref m28, .ref m29, .ref m30, .ref m31, .ref m32, .ref m33, .ref m34, .int 0, .int 0, .ref m37, .ref m38, .ref m39, .ref m40, .ref m41, .ref m42, .ref m43, .ref m44, .ref m45, .ref m46])), (m1, .inl (k_tape, 200, .inl (upd f1 (0 : Int32).toNatClampNeg (vp_nar .byte v_2))))] H := hP
  have hD : va_D A [(h0, .inr (9, [.int 0, .ref m1, .int 0, .int 0, .int 0, .ref m5, .ref m6, .ref m7, .int 0, .int 0, .int 0, .int 0, .int 0, .int 0, .long 0, .ref m15, .ref m16, .ref m17, .ref m18, .ref m19, .ref m20, .int 0, .ref m22, .ref m23, .ref m24, .ref m25, .ref m26, .ref m27, .ref m28, .ref m29, .ref m30, .ref m31, .ref m32, .ref m33, .ref m34, .int 0, .int 0, .ref m37, .ref m38, .ref m39, .ref m40, .ref m41, .ref m42, .ref m43, .ref m44, .ref m45, .ref m46])), (m1, .inl (k_tape, 200, .inl (upd f1 (0 : Int32).toNatClampNeg (vp_nar .byte v_2))))] := hD
  obtain ⟨f_3, ef_3⟩ : ∃ w9 : Nat → Int32, w9 = upd f1 (0 : Int32).toNatClampNeg (vp_nar .byte v_2) := ⟨_, rfl⟩
  rw [← ef_3] at hP hD
  refine lv_aload_n hx hb dX9_four_20 rfl (lv_at hl 1 rfl) ?_
  refine lv_dup hx hb dX9_four_21 rfl ?_
  refine va_get (D := (dC, dI)) (ci := 9) (v := .int 0) (C := RX9) (T := TX9) (N := 47) hx hb hts hin9 hown hK hP 0 rfl rfl 2 (by decide) (hts (.fieldLink RX9 115 "YamRidersModel" "length" "I") (by decide +kernel)) (fun _ h9 => h9) rfl dX9_four_22 ?_
  refine lv_iconst (v := 1) hx hb dX9_four_25 (by decide) ?_
  refine lv_iadd hx hb dX9_four_26 ?_
  refine lv_topi (fun y_4 ey_4 => ?_)
  obtain rfl : y_4 = 1 := ey_4.trans (by decide)
  refine va_put (D := (dC, dI)) (ci := 9) (v := .int 1) (ty := (tyX9 2)) (C := RX9) (T := TX9) (N := 47) hx hb hts hin9 tyX9 tyX9_ok nmX9 hown hK hP hD hS 0 rfl rfl 2 (by decide) (hts (.fieldLink RX9 115 "YamRidersModel" "length" "I") (by decide +kernel)) (fun _ h9 => h9) rfl (by decide +kernel) rfl rfl (Nat.le_of_ble_eq_true rfl) dX9_four_27 (fun H locs hP hD hS => ?_)
  have hP : va_P (dC, dI) vwCl [(h0, .inr (9, [.int 0, .ref m1, .int 1, .int 0, .int 0, .ref m5, .ref m6, .ref m7, .int 0, .int 0, .int 0, .int 0, .int 0, .int 0, .long 0, .ref m15, .ref m16, .ref m17, .ref m18, .ref m19, .ref m20, .int 0, .ref m22, .ref m23, .ref m24, .ref m25, .ref m26, .ref m27, .ref m28, .ref m29, .ref m30, .ref m31, .ref m32, .ref m33, .ref m34, .int 0, .int 0, .ref m37, .ref m38, .ref m39, .ref m40, .ref m41, .ref m42, .ref m43, .ref m44, .ref m45, .ref m46])), (m1, .inl (k_tape, 200, .inl f_3))] H := hP
  have hD : va_D A [(h0, .inr (9, [.int 0, .ref m1, .int 1, .int 0, .int 0, .ref m5, .ref m6, .ref m7, .int 0, .int 0, .int 0, .int 0, .int 0, .int 0, .long 0, .ref m15, .ref m16, .ref m17, .ref m18, .ref m19, .ref m20, .int 0, .ref m22, .ref m23, .ref m24, .ref m25, .ref m26, .ref m27, .ref m28, .ref m29, .ref m30, .ref m31, .ref m32, .ref m33, .ref m34, .int 0, .int 0, .ref m37, .ref m38, .ref m39, .ref m40, .ref m41, .ref m42, .ref m43, .ref m44, .ref m45, .ref m46])), (m1, .inl (k_tape, 200, .inl f_3))] := hD
  refine lv_iinc (v := 16) (lv' := [(2, .int 16), (0, .ref h0), (1, .int p0)]) hx hb dX9_four_30 hl (k := 0) rfl (by decide) (by decide) rfl (fun ls hl => ?_)
  refine lv_goto (tgt := 3) hx hb dX9_four_33 (by decide) ?_
  refine lv_iload_n hx hb dX9_four_3 rfl (lv_at hl 0 rfl) ?_
  refine lv_if_lt (tgt := 36) hx hb dX9_four_4 (by decide) (fun c_5 => by first | exact absurd c_5 (by decide) | exact absurd (by decide) c_5) (fun _ => ?_)
  refine lv_aload_n hx hb dX9_four_7 rfl (lv_at hl 1 rfl) ?_
  refine va_get (D := (dC, dI)) (ci := 9) (v := .ref m1) (C := RX9) (T := TX9) (N := 47) hx hb hts hin9 hown hK hP 0 rfl rfl 1 (by decide) (hts (.fieldLink RX9 7 "YamRidersModel" "tape" "[B") (by decide +kernel)) (fun _ h9 => h9) rfl dX9_four_8 ?_
  refine lv_aload_n hx hb dX9_four_11 rfl (lv_at hl 1 rfl) ?_
  refine va_get (D := (dC, dI)) (ci := 9) (v := .int 1) (C := RX9) (T := TX9) (N := 47) hx hb hts hin9 hown hK hP 0 rfl rfl 2 (by decide) (hts (.fieldLink RX9 115 "YamRidersModel" "length" "I") (by decide +kernel)) (fun _ h9 => h9) rfl dX9_four_12 ?_
  refine lv_iload_n hx hb dX9_four_15 rfl (lv_at hl 2 rfl) ?_
  refine lv_iload_n hx hb dX9_four_16 rfl (lv_at hl 0 rfl) ?_
  refine lv_ishr hx hb dX9_four_17 ?_
  refine lv_i2b hx hb dX9_four_18 rfl ?_
  refine lv_topi (fun v_6 ev_6 => ?_)
  refine va_bast hx hb hK hP hD hS 1 0 rfl rfl (by unfold vp_in; decide) dX9_four_19 (fun H locs hP hD hS => ?_)
  have hP : va_P (dC, dI) vwCl [(h0, .inr (9, [.int 0, .ref m1, .int 1, .int 0, .int 0, .ref m5, .ref m6, .ref m7, .int 0, .int 0, .int 0, .int 0, .int 0, .int 0, .long 0, .ref m15, .ref m16, .ref m17, .ref m18, .ref m19, .ref m20, .int 0, .ref m22, .ref m23, .ref m24, .ref m25, .ref m26, .ref m27, .ref m28, .ref m29, .ref m30, .ref m31, .ref m32, .ref m33, .ref m34, .int 0, .int 0, .ref m37, .ref m38, .ref m39, .ref m40, .ref m41, .ref m42, .ref m43, .ref m44, .ref m45, .ref m46])), (m1, .inl (k_tape, 200, .inl (upd f_3 (1 : Int32).toNatClampNeg (vp_nar .byte v_6))))] H := hP
  have hD : va_D A [(h0, .inr (9, [.int 0, .ref m1, .int 1, .int 0, .int 0, .ref m5, .ref m6, .ref m7, .int 0, .int 0, .int 0, .int 0, .int 0, .int 0, .long 0, .ref m15, .ref m16, .ref m17, .ref m18, .ref m19, .ref m20, .int 0, .ref m22, .ref m23, .ref m24, .ref m25, .ref m26, .ref m27, .ref m28, .ref m29, .ref m30, .ref m31, .ref m32, .ref m33, .ref m34, .int 0, .int 0, .ref m37, .ref m38, .ref m39, .ref m40, .ref m41, .ref m42, .ref m43, .ref m44, .ref m45, .ref m46])), (m1, .inl (k_tape, 200, .inl (upd f_3 (1 : Int32).toNatClampNeg (vp_nar .byte v_6))))] := hD
  obtain ⟨f_7, ef_7⟩ : ∃ w9 : Nat → Int32, w9 = upd f_3 (1 : Int32).toNatClampNeg (vp_nar .byte v_6) := ⟨_, rfl⟩
  rw [← ef_7] at hP hD
  refine lv_aload_n hx hb dX9_four_20 rfl (lv_at hl 1 rfl) ?_
  refine lv_dup hx hb dX9_four_21 rfl ?_
  refine va_get (D := (dC, dI)) (ci := 9) (v := .int 1) (C := RX9) (T := TX9) (N := 47) hx hb hts hin9 hown hK hP 0 rfl rfl 2 (by decide) (hts (.fieldLink RX9 115 "YamRidersModel" "length" "I") (by decide +kernel)) (fun _ h9 => h9) rfl dX9_four_22 ?_
  refine lv_iconst (v := 1) hx hb dX9_four_25 (by decide) ?_
  refine lv_iadd hx hb dX9_four_26 ?_
  refine lv_topi (fun y_8 ey_8 => ?_)
  obtain rfl : y_8 = 2 := ey_8.trans (by decide)
  refine va_put (D := (dC, dI)) (ci := 9) (v := .int 2) (ty := (tyX9 2)) (C := RX9) (T := TX9) (N := 47) hx hb hts hin9 tyX9 tyX9_ok nmX9 hown hK hP hD hS 0 rfl rfl 2 (by decide) (hts (.fieldLink RX9 115 "YamRidersModel" "length" "I") (by decide +kernel)) (fun _ h9 => h9) rfl (by decide +kernel) rfl rfl (Nat.le_of_ble_eq_true rfl) dX9_four_27 (fun H locs hP hD hS => ?_)
  have hP : va_P (dC, dI) vwCl [(h0, .inr (9, [.int 0, .ref m1, .int 2, .int 0, .int 0, .ref m5, .ref m6, .ref m7, .int 0, .int 0, .int 0, .int 0, .int 0, .int 0, .long 0, .ref m15, .ref m16, .ref m17, .ref m18, .ref m19, .ref m20, .int 0, .ref m22, .ref m23, .ref m24, .ref m25, .ref m26, .ref m27, .ref m28, .ref m29, .ref m30, .ref m31, .ref m32, .ref m33, .ref m34, .int 0, .int 0, .ref m37, .ref m38, .ref m39, .ref m40, .ref m41, .ref m42, .ref m43, .ref m44, .ref m45, .ref m46])), (m1, .inl (k_tape, 200, .inl f_7))] H := hP
  have hD : va_D A [(h0, .inr (9, [.int 0, .ref m1, .int 2, .int 0, .int 0, .ref m5, .ref m6, .ref m7, .int 0, .int 0, .int 0, .int 0, .int 0, .int 0, .long 0, .ref m15, .ref m16, .ref m17, .ref m18, .ref m19, .ref m20, .int 0, .ref m22, .ref m23, .ref m24, .ref m25, .ref m26, .ref m27, .ref m28, .ref m29, .ref m30, .ref m31, .ref m32, .ref m33, .ref m34, .int 0, .int 0, .ref m37, .ref m38, .ref m39, .ref m40, .ref m41, .ref m42, .ref m43, .ref m44, .ref m45, .ref m46])), (m1, .inl (k_tape, 200, .inl f_7))] := hD
  refine lv_iinc (v := 8) (lv' := [(2, .int 8), (0, .ref h0), (1, .int p0)]) hx hb dX9_four_30 hl (k := 0) rfl (by decide) (by decide) rfl (fun ls hl => ?_)
  refine lv_goto (tgt := 3) hx hb dX9_four_33 (by decide) ?_
  refine lv_iload_n hx hb dX9_four_3 rfl (lv_at hl 0 rfl) ?_
  refine lv_if_lt (tgt := 36) hx hb dX9_four_4 (by decide) (fun c_9 => by first | exact absurd c_9 (by decide) | exact absurd (by decide) c_9) (fun _ => ?_)
  refine lv_aload_n hx hb dX9_four_7 rfl (lv_at hl 1 rfl) ?_
  refine va_get (D := (dC, dI)) (ci := 9) (v := .ref m1) (C := RX9) (T := TX9) (N := 47) hx hb hts hin9 hown hK hP 0 rfl rfl 1 (by decide) (hts (.fieldLink RX9 7 "YamRidersModel" "tape" "[B") (by decide +kernel)) (fun _ h9 => h9) rfl dX9_four_8 ?_
  refine lv_aload_n hx hb dX9_four_11 rfl (lv_at hl 1 rfl) ?_
  refine va_get (D := (dC, dI)) (ci := 9) (v := .int 2) (C := RX9) (T := TX9) (N := 47) hx hb hts hin9 hown hK hP 0 rfl rfl 2 (by decide) (hts (.fieldLink RX9 115 "YamRidersModel" "length" "I") (by decide +kernel)) (fun _ h9 => h9) rfl dX9_four_12 ?_
  refine lv_iload_n hx hb dX9_four_15 rfl (lv_at hl 2 rfl) ?_
  refine lv_iload_n hx hb dX9_four_16 rfl (lv_at hl 0 rfl) ?_
  refine lv_ishr hx hb dX9_four_17 ?_
  refine lv_i2b hx hb dX9_four_18 rfl ?_
  refine lv_topi (fun v_10 ev_10 => ?_)
  refine va_bast hx hb hK hP hD hS 1 0 rfl rfl (by unfold vp_in; decide) dX9_four_19 (fun H locs hP hD hS => ?_)
  have hP : va_P (dC, dI) vwCl [(h0, .inr (9, [.int 0, .ref m1, .int 2, .int 0, .int 0, .ref m5, .ref m6, .ref m7, .int 0, .int 0, .int 0, .int 0, .int 0, .int 0, .long 0, .ref m15, .ref m16, .ref m17, .ref m18, .ref m19, .ref m20, .int 0, .ref m22, .ref m23, .ref m24, .ref m25, .ref m26, .ref m27, .ref m28, .ref m29, .ref m30, .ref m31, .ref m32, .ref m33, .ref m34, .int 0, .int 0, .ref m37, .ref m38, .ref m39, .ref m40, .ref m41, .ref m42, .ref m43, .ref m44, .ref m45, .ref m46])), (m1, .inl (k_tape, 200, .inl (upd f_7 (2 : Int32).toNatClampNeg (vp_nar .byte v_10))))] H := hP
  have hD : va_D A [(h0, .inr (9, [.int 0, .ref m1, .int 2, .int 0, .int 0, .ref m5, .ref m6, .ref m7, .int 0, .int 0, .int 0, .int 0, .int 0, .int 0, .long 0, .ref m15, .ref m16, .ref m17, .ref m18, .ref m19, .ref m20, .int 0, .ref m22, .ref m23, .ref m24, .ref m25, .ref m26, .ref m27, .ref m28, .ref m29, .ref m30, .ref m31, .ref m32, .ref m33, .ref m34, .int 0, .int 0, .ref m37, .ref m38, .ref m39, .ref m40, .ref m41, .ref m42, .ref m43, .ref m44, .ref m45, .ref m46])), (m1, .inl (k_tape, 200, .inl (upd f_7 (2 : Int32).toNatClampNeg (vp_nar .byte v_10))))] := hD
  obtain ⟨f_11, ef_11⟩ : ∃ w9 : Nat → Int32, w9 = upd f_7 (2 : Int32).toNatClampNeg (vp_nar .byte v_10) := ⟨_, rfl⟩
  rw [← ef_11] at hP hD
  refine lv_aload_n hx hb dX9_four_20 rfl (lv_at hl 1 rfl) ?_
  refine lv_dup hx hb dX9_four_21 rfl ?_
  refine va_get (D := (dC, dI)) (ci := 9) (v := .int 2) (C := RX9) (T := TX9) (N := 47) hx hb hts hin9 hown hK hP 0 rfl rfl 2 (by decide) (hts (.fieldLink RX9 115 "YamRidersModel" "length" "I") (by decide +kernel)) (fun _ h9 => h9) rfl dX9_four_22 ?_
  refine lv_iconst (v := 1) hx hb dX9_four_25 (by decide) ?_
  refine lv_iadd hx hb dX9_four_26 ?_
  refine lv_topi (fun y_12 ey_12 => ?_)
  obtain rfl : y_12 = 3 := ey_12.trans (by decide)
  refine va_put (D := (dC, dI)) (ci := 9) (v := .int 3) (ty := (tyX9 2)) (C := RX9) (T := TX9) (N := 47) hx hb hts hin9 tyX9 tyX9_ok nmX9 hown hK hP hD hS 0 rfl rfl 2 (by decide) (hts (.fieldLink RX9 115 "YamRidersModel" "length" "I") (by decide +kernel)) (fun _ h9 => h9) rfl (by decide +kernel) rfl rfl (Nat.le_of_ble_eq_true rfl) dX9_four_27 (fun H locs hP hD hS => ?_)
  have hP : va_P (dC, dI) vwCl [(h0, .inr (9, [.int 0, .ref m1, .int 3, .int 0, .int 0, .ref m5, .ref m6, .ref m7, .int 0, .int 0, .int 0, .int 0, .int 0, .int 0, .long 0, .ref m15, .ref m16, .ref m17, .ref m18, .ref m19, .ref m20, .int 0, .ref m22, .ref m23, .ref m24, .ref m25, .ref m26, .ref m27, .ref m28, .ref m29, .ref m30, .ref m31, .ref m32, .ref m33, .ref m34, .int 0, .int 0, .ref m37, .ref m38, .ref m39, .ref m40, .ref m41, .ref m42, .ref m43, .ref m44, .ref m45, .ref m46])), (m1, .inl (k_tape, 200, .inl f_11))] H := hP
  have hD : va_D A [(h0, .inr (9, [.int 0, .ref m1, .int 3, .int 0, .int 0, .ref m5, .ref m6, .ref m7, .int 0, .int 0, .int 0, .int 0, .int 0, .int 0, .long 0, .ref m15, .ref m16, .ref m17, .ref m18, .ref m19, .ref m20, .int 0, .ref m22, .ref m23, .ref m24, .ref m25, .ref m26, .ref m27, .ref m28, .ref m29, .ref m30, .ref m31, .ref m32, .ref m33, .ref m34, .int 0, .int 0, .ref m37, .ref m38, .ref m39, .ref m40, .ref m41, .ref m42, .ref m43, .ref m44, .ref m45, .ref m46])), (m1, .inl (k_tape, 200, .inl f_11))] := hD
  refine lv_iinc (v := 0) (lv' := [(2, .int 0), (0, .ref h0), (1, .int p0)]) hx hb dX9_four_30 hl (k := 0) rfl (by decide) (by decide) rfl (fun ls hl => ?_)
  refine lv_goto (tgt := 3) hx hb dX9_four_33 (by decide) ?_
  refine lv_iload_n hx hb dX9_four_3 rfl (lv_at hl 0 rfl) ?_
  refine lv_if_lt (tgt := 36) hx hb dX9_four_4 (by decide) (fun c_13 => by first | exact absurd c_13 (by decide) | exact absurd (by decide) c_13) (fun _ => ?_)
  refine lv_aload_n hx hb dX9_four_7 rfl (lv_at hl 1 rfl) ?_
  refine va_get (D := (dC, dI)) (ci := 9) (v := .ref m1) (C := RX9) (T := TX9) (N := 47) hx hb hts hin9 hown hK hP 0 rfl rfl 1 (by decide) (hts (.fieldLink RX9 7 "YamRidersModel" "tape" "[B") (by decide +kernel)) (fun _ h9 => h9) rfl dX9_four_8 ?_
  refine lv_aload_n hx hb dX9_four_11 rfl (lv_at hl 1 rfl) ?_
  refine va_get (D := (dC, dI)) (ci := 9) (v := .int 3) (C := RX9) (T := TX9) (N := 47) hx hb hts hin9 hown hK hP 0 rfl rfl 2 (by decide) (hts (.fieldLink RX9 115 "YamRidersModel" "length" "I") (by decide +kernel)) (fun _ h9 => h9) rfl dX9_four_12 ?_
  refine lv_iload_n hx hb dX9_four_15 rfl (lv_at hl 2 rfl) ?_
  refine lv_iload_n hx hb dX9_four_16 rfl (lv_at hl 0 rfl) ?_
  refine lv_ishr hx hb dX9_four_17 ?_
  refine lv_i2b hx hb dX9_four_18 rfl ?_
  refine lv_topi (fun v_14 ev_14 => ?_)
  refine va_bast hx hb hK hP hD hS 1 0 rfl rfl (by unfold vp_in; decide) dX9_four_19 (fun H locs hP hD hS => ?_)
  have hP : va_P (dC, dI) vwCl [(h0, .inr (9, [.int 0, .ref m1, .int 3, .int 0, .int 0, .ref m5, .ref m6, .ref m7, .int 0, .int 0, .int 0, .int 0, .int 0, .int 0, .long 0, .ref m15, .ref m16, .ref m17, .ref m18, .ref m19, .ref m20, .int 0, .ref m22, .ref m23, .ref m24, .ref m25, .ref m26, .ref m27, .ref m28, .ref m29, .ref m30, .ref m31, .ref m32, .ref m33, .ref m34, .int 0, .int 0, .ref m37, .ref m38, .ref m39, .ref m40, .ref m41, .ref m42, .ref m43, .ref m44, .ref m45, .ref m46])), (m1, .inl (k_tape, 200, .inl (upd f_11 (3 : Int32).toNatClampNeg (vp_nar .byte v_14))))] H := hP
  have hD : va_D A [(h0, .inr (9, [.int 0, .ref m1, .int 3, .int 0, .int 0, .ref m5, .ref m6, .ref m7, .int 0, .int 0, .int 0, .int 0, .int 0, .int 0, .long 0, .ref m15, .ref m16, .ref m17, .ref m18, .ref m19, .ref m20, .int 0, .ref m22, .ref m23, .ref m24, .ref m25, .ref m26, .ref m27, .ref m28, .ref m29, .ref m30, .ref m31, .ref m32, .ref m33, .ref m34, .int 0, .int 0, .ref m37, .ref m38, .ref m39, .ref m40, .ref m41, .ref m42, .ref m43, .ref m44, .ref m45, .ref m46])), (m1, .inl (k_tape, 200, .inl (upd f_11 (3 : Int32).toNatClampNeg (vp_nar .byte v_14))))] := hD
  obtain ⟨f_15, ef_15⟩ : ∃ w9 : Nat → Int32, w9 = upd f_11 (3 : Int32).toNatClampNeg (vp_nar .byte v_14) := ⟨_, rfl⟩
  rw [← ef_15] at hP hD
  refine lv_aload_n hx hb dX9_four_20 rfl (lv_at hl 1 rfl) ?_
  refine lv_dup hx hb dX9_four_21 rfl ?_
  refine va_get (D := (dC, dI)) (ci := 9) (v := .int 3) (C := RX9) (T := TX9) (N := 47) hx hb hts hin9 hown hK hP 0 rfl rfl 2 (by decide) (hts (.fieldLink RX9 115 "YamRidersModel" "length" "I") (by decide +kernel)) (fun _ h9 => h9) rfl dX9_four_22 ?_
  refine lv_iconst (v := 1) hx hb dX9_four_25 (by decide) ?_
  refine lv_iadd hx hb dX9_four_26 ?_
  refine lv_topi (fun y_16 ey_16 => ?_)
  obtain rfl : y_16 = 4 := ey_16.trans (by decide)
  refine va_put (D := (dC, dI)) (ci := 9) (v := .int 4) (ty := (tyX9 2)) (C := RX9) (T := TX9) (N := 47) hx hb hts hin9 tyX9 tyX9_ok nmX9 hown hK hP hD hS 0 rfl rfl 2 (by decide) (hts (.fieldLink RX9 115 "YamRidersModel" "length" "I") (by decide +kernel)) (fun _ h9 => h9) rfl (by decide +kernel) rfl rfl (Nat.le_of_ble_eq_true rfl) dX9_four_27 (fun H locs hP hD hS => ?_)
  have hP : va_P (dC, dI) vwCl [(h0, .inr (9, [.int 0, .ref m1, .int 4, .int 0, .int 0, .ref m5, .ref m6, .ref m7, .int 0, .int 0, .int 0, .int 0, .int 0, .int 0, .long 0, .ref m15, .ref m16, .ref m17, .ref m18, .ref m19, .ref m20, .int 0, .ref m22, .ref m23, .ref m24, .ref m25, .ref m26, .ref m27, .ref m28, .ref m29, .ref m30, .ref m31, .ref m32, .ref m33, .ref m34, .int 0, .int 0, .ref m37, .ref m38, .ref m39, .ref m40, .ref m41, .ref m42, .ref m43, .ref m44, .ref m45, .ref m46])), (m1, .inl (k_tape, 200, .inl f_15))] H := hP
  have hD : va_D A [(h0, .inr (9, [.int 0, .ref m1, .int 4, .int 0, .int 0, .ref m5, .ref m6, .ref m7, .int 0, .int 0, .int 0, .int 0, .int 0, .int 0, .long 0, .ref m15, .ref m16, .ref m17, .ref m18, .ref m19, .ref m20, .int 0, .ref m22, .ref m23, .ref m24, .ref m25, .ref m26, .ref m27, .ref m28, .ref m29, .ref m30, .ref m31, .ref m32, .ref m33, .ref m34, .int 0, .int 0, .ref m37, .ref m38, .ref m39, .ref m40, .ref m41, .ref m42, .ref m43, .ref m44, .ref m45, .ref m46])), (m1, .inl (k_tape, 200, .inl f_15))] := hD
  refine lv_iinc (v := (-8)) (lv' := [(2, .int (-8)), (0, .ref h0), (1, .int p0)]) hx hb dX9_four_30 hl (k := 0) rfl (by decide) (by decide) rfl (fun ls hl => ?_)
  refine lv_goto (tgt := 3) hx hb dX9_four_33 (by decide) ?_
  refine lv_iload_n hx hb dX9_four_3 rfl (lv_at hl 0 rfl) ?_
  refine lv_if_lt (tgt := 36) hx hb dX9_four_4 (by decide) (fun _ => ?_) (fun c_17 => by first | exact absurd c_17 (by decide) | exact absurd (by decide) c_17)
  have hP9 := hP.sub (ws' := [(h0, .inr (9, [.int 0, .ref m1, .int 4, .int 0, .int 0, .ref m5, .ref m6, .ref m7, .int 0, .int 0, .int 0, .int 0, .int 0, .int 0, .long 0, .ref m15, .ref m16, .ref m17, .ref m18, .ref m19, .ref m20, .int 0, .ref m22, .ref m23, .ref m24, .ref m25, .ref m26, .ref m27, .ref m28, .ref m29, .ref m30, .ref m31, .ref m32, .ref m33, .ref m34, .int 0, .int 0, .ref m37, .ref m38, .ref m39, .ref m40, .ref m41, .ref m42, .ref m43, .ref m44, .ref m45, .ref m46])), (m1, .inl (k_tape, 200, .inl f_15))]) [0, 1] rfl
  have hD9 := hD.sub (ws' := [(h0, .inr (9, [.int 0, .ref m1, .int 4, .int 0, .int 0, .ref m5, .ref m6, .ref m7, .int 0, .int 0, .int 0, .int 0, .int 0, .int 0, .long 0, .ref m15, .ref m16, .ref m17, .ref m18, .ref m19, .ref m20, .int 0, .ref m22, .ref m23, .ref m24, .ref m25, .ref m26, .ref m27, .ref m28, .ref m29, .ref m30, .ref m31, .ref m32, .ref m33, .ref m34, .int 0, .int 0, .ref m37, .ref m38, .ref m39, .ref m40, .ref m41, .ref m42, .ref m43, .ref m44, .ref m45, .ref m46])), (m1, .inl (k_tape, 200, .inl f_15))]) [0, 1] (by decide) rfl
  have hK9 := hK.sub (tys' := []) [] rfl
  refine W.widen (k := 0) (n := 0) (Nat.le_of_ble_eq_true rfl) (Nat.le_of_ble_eq_true rfl) ?_
  exact W.vret hx hb hr (fun t9 ht hW => ⟨⟨(), rfl, trivial, f_15, by rw [ht]; exact hP9, va_K.moved hW.alike hK9, hD9⟩, hS.F ht⟩) hS.2.2 dX9_four_36

set_option maxHeartbeats 4000000 in
set_option maxRecDepth 100000 in
theorem c_X9_four_4 (l : Launch) (dC : Nat → ClassId) (dI : Nat → Nat → Nat) (h0 : Nat) (m1 : Nat) (m5 : Nat) (m6 : Nat) (m7 : Nat) (m15 : Nat) (m16 : Nat) (m17 : Nat) (m18 : Nat) (m19 : Nat) (m20 : Nat) (m22 : Nat) (m23 : Nat) (m24 : Nat) (m25 : Nat) (m26 : Nat) (m27 : Nat) (m28 : Nat) (m29 : Nat) (m30 : Nat) (m31 : Nat) (m32 : Nat) (m33 : Nat) (m34 : Nat) (m37 : Nat) (m38 : Nat) (m39 : Nat) (m40 : Nat) (m41 : Nat) (m42 : Nat) (m43 : Nat) (m44 : Nat) (m45 : Nat) (m46 : Nat) (k_tape : ClassId) (f1 : Nat → Int32) (p0 : Int32) (sz : Nat) : Met l yX9_four wsX9_four ({ frames := 0, cells := 0, slots := 0, locals := 0 }) (va_Pc [.ref h0, .int p0] (cP dC dI [(h0, .inr (9, [.int 0, .ref m1, .int 4, .int 0, .int 0, .ref m5, .ref m6, .ref m7, .int 0, .int 0, .int 0, .int 0, .int 0, .int 0, .long 0, .ref m15, .ref m16, .ref m17, .ref m18, .ref m19, .ref m20, .int 0, .ref m22, .ref m23, .ref m24, .ref m25, .ref m26, .ref m27, .ref m28, .ref m29, .ref m30, .ref m31, .ref m32, .ref m33, .ref m34, .int 0, .int 0, .ref m37, .ref m38, .ref m39, .ref m40, .ref m41, .ref m42, .ref m43, .ref m44, .ref m45, .ref m46])), (m1, .inl (k_tape, 200, .inl f1))] [(k_tape, .byte)] sz)) (va_Qv (fun (_ : Unit) => True) (fun (_ : Unit) t9 => ∃ (f2 : Nat → Int32), cQ dC dI [(h0, .inr (9, [.int 0, .ref m1, .int 8, .int 0, .int 0, .ref m5, .ref m6, .ref m7, .int 0, .int 0, .int 0, .int 0, .int 0, .int 0, .long 0, .ref m15, .ref m16, .ref m17, .ref m18, .ref m19, .ref m20, .int 0, .ref m22, .ref m23, .ref m24, .ref m25, .ref m26, .ref m27, .ref m28, .ref m29, .ref m30, .ref m31, .ref m32, .ref m33, .ref m34, .int 0, .int 0, .ref m37, .ref m38, .ref m39, .ref m40, .ref m41, .ref m42, .ref m43, .ref m44, .ref m45, .ref m46])), (m1, .inl (k_tape, 200, .inl f2))] [] (va_A [(h0, .inr (9, [.int 0, .ref m1, .int 4, .int 0, .int 0, .ref m5, .ref m6, .ref m7, .int 0, .int 0, .int 0, .int 0, .int 0, .int 0, .long 0, .ref m15, .ref m16, .ref m17, .ref m18, .ref m19, .ref m20, .int 0, .ref m22, .ref m23, .ref m24, .ref m25, .ref m26, .ref m27, .ref m28, .ref m29, .ref m30, .ref m31, .ref m32, .ref m33, .ref m34, .int 0, .int 0, .ref m37, .ref m38, .ref m39, .ref m40, .ref m41, .ref m42, .ref m43, .ref m44, .ref m45, .ref m46])), (m1, .inl (k_tape, 200, .inl f1))] sz) t9) (va_A [(h0, .inr (9, [.int 0, .ref m1, .int 4, .int 0, .int 0, .ref m5, .ref m6, .ref m7, .int 0, .int 0, .int 0, .int 0, .int 0, .int 0, .long 0, .ref m15, .ref m16, .ref m17, .ref m18, .ref m19, .ref m20, .int 0, .ref m22, .ref m23, .ref m24, .ref m25, .ref m26, .ref m27, .ref m28, .ref m29, .ref m30, .ref m31, .ref m32, .ref m33, .ref m34, .int 0, .int 0, .ref m37, .ref m38, .ref m39, .ref m40, .ref m41, .ref m42, .ref m43, .ref m44, .ref m45, .ref m46])), (m1, .inl (k_tape, 200, .inl f1))] sz)) 0 0 (va_A [(h0, .inr (9, [.int 0, .ref m1, .int 4, .int 0, .int 0, .ref m5, .ref m6, .ref m7, .int 0, .int 0, .int 0, .int 0, .int 0, .int 0, .long 0, .ref m15, .ref m16, .ref m17, .ref m18, .ref m19, .ref m20, .int 0, .ref m22, .ref m23, .ref m24, .ref m25, .ref m26, .ref m27, .ref m28, .ref m29, .ref m30, .ref m31, .ref m32, .ref m33, .ref m34, .int 0, .int 0, .ref m37, .ref m38, .ref m39, .ref m40, .ref m41, .ref m42, .ref m43, .ref m44, .ref m45, .ref m46])), (m1, .inl (k_tape, 200, .inl f1))] sz) := by
  refine Met.ofW (cc := cX9_four) (maxL := 3) (ret := none) (by decide) rfl ?_
  intro p e s m args below meth c s₁ B hml hv
  obtain ⟨rfl, hsz, hP, hK, hD0, hN⟩ := hv
  have hx := B.exec
  have hb := B.bytes
  have hr := B.returns
  have hts := atoms_spec (ws := wsX9_four) B.pre
  have hown : s.vm.findClass RX9 = some m.cls := findClass_of_methodNamed B.named
  have hlocks := B.notSynchronized
  subst hsz
  have hin9 : ∀ w ∈ u_ws RX9 TX9 47, w ∈ wsX9_four := by decide +kernel
  have hD := hD0.self (sz := s.heap.size)
  generalize hAe : va_A [(h0, .inr (9, [.int 0, .ref m1, .int 4, .int 0, .int 0, .ref m5, .ref m6, .ref m7, .int 0, .int 0, .int 0, .int 0, .int 0, .int 0, .long 0, .ref m15, .ref m16, .ref m17, .ref m18, .ref m19, .ref m20, .int 0, .ref m22, .ref m23, .ref m24, .ref m25, .ref m26, .ref m27, .ref m28, .ref m29, .ref m30, .ref m31, .ref m32, .ref m33, .ref m34, .int 0, .int 0, .ref m37, .ref m38, .ref m39, .ref m40, .ref m41, .ref m42, .ref m43, .ref m44, .ref m45, .ref m46])), (m1, .inl (k_tape, 200, .inl f1))] s.heap.size = A at hD ⊢
  have hA : ∀ q : Nat, s.heap.size ≤ q → A q := fun q h => by rw [← hAe]; exact Or.inr h
  have hS : va_S A s.heap s.heap [] := va_S.rf
  have hP : va_P (dC, dI) vwCl [(h0, .inr (9, [.int 0, .ref m1, .int 4, .int 0, .int 0, .ref m5, .ref m6, .ref m7, .int 0, .int 0, .int 0, .int 0, .int 0, .int 0, .long 0, .ref m15, .ref m16, .ref m17, .ref m18, .ref m19, .ref m20, .int 0, .ref m22, .ref m23, .ref m24, .ref m25, .ref m26, .ref m27, .ref m28, .ref m29, .ref m30, .ref m31, .ref m32, .ref m33, .ref m34, .int 0, .int 0, .ref m37, .ref m38, .ref m39, .ref m40, .ref m41, .ref m42, .ref m43, .ref m44, .ref m45, .ref m46])), (m1, .inl (k_tape, 200, .inl f1))] s.heap := hP
  have hl := lv_entry ([.ref h0, .int p0]) (n := 3) (Nat.le_of_ble_eq_true rfl)
  rw [lg_entry_eq]
  generalize (lg_sl ([.ref h0, .int p0]) ++ List.replicate (3 - (lg_sl ([.ref h0, .int p0])).length) Slot.unset).toArray = ls at hl ⊢
  have hl : lv_has ls 3 [(0, .ref h0), (1, .int p0)] := hl
  refine lv_bipush (v := 24) hx hb dX9_four_0 (by decide) ?_
  refine lv_istore_n (lv' := [(2, .int 24), (0, .ref h0), (1, .int p0)]) hx hb dX9_four_2 rfl hl (by decide) rfl (fun ls hl => ?_)
  refine lv_iload_n hx hb dX9_four_3 rfl (lv_at hl 0 rfl) ?_
  refine lv_if_lt (tgt := 36) hx hb dX9_four_4 (by decide) (fun c_1 => by first | exact absurd c_1 (by decide) | exact absurd (by decide) c_1) (fun _ => ?_)
  refine lv_aload_n hx hb dX9_four_7 rfl (lv_at hl 1 rfl) ?_
  refine va_get (D := (dC, dI)) (ci := 9) (v := .ref m1) (C := RX9) (T := TX9) (N := 47) hx hb hts hin9 hown hK hP 0 rfl rfl 1 (by decide) (hts (.fieldLink RX9 7 "YamRidersModel" "tape" "[B") (by decide +kernel)) (fun _ h9 => h9) rfl dX9_four_8 ?_
  refine lv_aload_n hx hb dX9_four_11 rfl (lv_at hl 1 rfl) ?_
  refine va_get (D := (dC, dI)) (ci := 9) (v := .int 4) (C := RX9) (T := TX9) (N := 47) hx hb hts hin9 hown hK hP 0 rfl rfl 2 (by decide) (hts (.fieldLink RX9 115 "YamRidersModel" "length" "I") (by decide +kernel)) (fun _ h9 => h9) rfl dX9_four_12 ?_
  refine lv_iload_n hx hb dX9_four_15 rfl (lv_at hl 2 rfl) ?_
  refine lv_iload_n hx hb dX9_four_16 rfl (lv_at hl 0 rfl) ?_
  refine lv_ishr hx hb dX9_four_17 ?_
  refine lv_i2b hx hb dX9_four_18 rfl ?_
  refine lv_topi (fun v_2 ev_2 => ?_)
  refine va_bast hx hb hK hP hD hS 1 0 rfl rfl (by unfold vp_in; decide) dX9_four_19 (fun H locs hP hD hS => ?_)
  have hP : va_P (dC, dI) vwCl [(h0, .inr (9, [.int 0, .ref m1, .int 4, .int 0, .int 0, .ref m5, .ref m6, .ref m7, .int 0, .int 0, .int 0, .int 0, .int 0, .int 0, .long 0, .ref m15, .ref m16, .ref m17, .ref m18, .ref m19, .ref m20, .int 0, .ref m22, .ref m23, .ref m24, .ref m25, .ref m26, .ref m27, .ref m28, .ref m29, .ref m30, .ref m31, .ref m32, .ref m33, .ref m34, .int 0, .int 0, .ref m37, .ref m38, .ref m39, .ref m40, .ref m41, .ref m42, .ref m43, .ref m44, .ref m45, .ref m46])), (m1, .inl (k_tape, 200, .inl (upd f1 (4 : Int32).toNatClampNeg (vp_nar .byte v_2))))] H := hP
  have hD : va_D A [(h0, .inr (9, [.int 0, .ref m1, .int 4, .int 0, .int 0, .ref m5, .ref m6, .ref m7, .int 0, .int 0, .int 0, .int 0, .int 0, .int 0, .long 0, .ref m15, .ref m16, .ref m17, .ref m18, .ref m19, .ref m20, .int 0, .ref m22, .ref m23, .ref m24, .ref m25, .ref m26, .ref m27, .ref m28, .ref m29, .ref m30, .ref m31, .ref m32, .ref m33, .ref m34, .int 0, .int 0, .ref m37, .ref m38, .ref m39, .ref m40, .ref m41, .ref m42, .ref m43, .ref m44, .ref m45, .ref m46])), (m1, .inl (k_tape, 200, .inl (upd f1 (4 : Int32).toNatClampNeg (vp_nar .byte v_2))))] := hD
  obtain ⟨f_3, ef_3⟩ : ∃ w9 : Nat → Int32, w9 = upd f1 (4 : Int32).toNatClampNeg (vp_nar .byte v_2) := ⟨_, rfl⟩
  rw [← ef_3] at hP hD
  refine lv_aload_n hx hb dX9_four_20 rfl (lv_at hl 1 rfl) ?_
  refine lv_dup hx hb dX9_four_21 rfl ?_
  refine va_get (D := (dC, dI)) (ci := 9) (v := .int 4) (C := RX9) (T := TX9) (N := 47) hx hb hts hin9 hown hK hP 0 rfl rfl 2 (by decide) (hts (.fieldLink RX9 115 "YamRidersModel" "length" "I") (by decide +kernel)) (fun _ h9 => h9) rfl dX9_four_22 ?_
  refine lv_iconst (v := 1) hx hb dX9_four_25 (by decide) ?_
  refine lv_iadd hx hb dX9_four_26 ?_
  refine lv_topi (fun y_4 ey_4 => ?_)
  obtain rfl : y_4 = 5 := ey_4.trans (by decide)
  refine va_put (D := (dC, dI)) (ci := 9) (v := .int 5) (ty := (tyX9 2)) (C := RX9) (T := TX9) (N := 47) hx hb hts hin9 tyX9 tyX9_ok nmX9 hown hK hP hD hS 0 rfl rfl 2 (by decide) (hts (.fieldLink RX9 115 "YamRidersModel" "length" "I") (by decide +kernel)) (fun _ h9 => h9) rfl (by decide +kernel) rfl rfl (Nat.le_of_ble_eq_true rfl) dX9_four_27 (fun H locs hP hD hS => ?_)
  have hP : va_P (dC, dI) vwCl [(h0, .inr (9, [.int 0, .ref m1, .int 5, .int 0, .int 0, .ref m5, .ref m6, .ref m7, .int 0, .int 0, .int 0, .int 0, .int 0, .int 0, .long 0, .ref m15, .ref m16, .ref m17, .ref m18, .ref m19, .ref m20, .int 0, .ref m22, .ref m23, .ref m24, .ref m25, .ref m26, .ref m27, .ref m28, .ref m29, .ref m30, .ref m31, .ref m32, .ref m33, .ref m34, .int 0, .int 0, .ref m37, .ref m38, .ref m39, .ref m40, .ref m41, .ref m42, .ref m43, .ref m44, .ref m45, .ref m46])), (m1, .inl (k_tape, 200, .inl f_3))] H := hP
  have hD : va_D A [(h0, .inr (9, [.int 0, .ref m1, .int 5, .int 0, .int 0, .ref m5, .ref m6, .ref m7, .int 0, .int 0, .int 0, .int 0, .int 0, .int 0, .long 0, .ref m15, .ref m16, .ref m17, .ref m18, .ref m19, .ref m20, .int 0, .ref m22, .ref m23, .ref m24, .ref m25, .ref m26, .ref m27, .ref m28, .ref m29, .ref m30, .ref m31, .ref m32, .ref m33, .ref m34, .int 0, .int 0, .ref m37, .ref m38, .ref m39, .ref m40, .ref m41, .ref m42, .ref m43, .ref m44, .ref m45, .ref m46])), (m1, .inl (k_tape, 200, .inl f_3))] := hD
  refine lv_iinc (v := 16) (lv' := [(2, .int 16), (0, .ref h0), (1, .int p0)]) hx hb dX9_four_30 hl (k := 0) rfl (by decide) (by decide) rfl (fun ls hl => ?_)
  refine lv_goto (tgt := 3) hx hb dX9_four_33 (by decide) ?_
  refine lv_iload_n hx hb dX9_four_3 rfl (lv_at hl 0 rfl) ?_
  refine lv_if_lt (tgt := 36) hx hb dX9_four_4 (by decide) (fun c_5 => by first | exact absurd c_5 (by decide) | exact absurd (by decide) c_5) (fun _ => ?_)
  refine lv_aload_n hx hb dX9_four_7 rfl (lv_at hl 1 rfl) ?_
  refine va_get (D := (dC, dI)) (ci := 9) (v := .ref m1) (C := RX9) (T := TX9) (N := 47) hx hb hts hin9 hown hK hP 0 rfl rfl 1 (by decide) (hts (.fieldLink RX9 7 "YamRidersModel" "tape" "[B") (by decide +kernel)) (fun _ h9 => h9) rfl dX9_four_8 ?_
  refine lv_aload_n hx hb dX9_four_11 rfl (lv_at hl 1 rfl) ?_
  refine va_get (D := (dC, dI)) (ci := 9) (v := .int 5) (C := RX9) (T := TX9) (N := 47) hx hb hts hin9 hown hK hP 0 rfl rfl 2 (by decide) (hts (.fieldLink RX9 115 "YamRidersModel" "length" "I") (by decide +kernel)) (fun _ h9 => h9) rfl dX9_four_12 ?_
  refine lv_iload_n hx hb dX9_four_15 rfl (lv_at hl 2 rfl) ?_
  refine lv_iload_n hx hb dX9_four_16 rfl (lv_at hl 0 rfl) ?_
  refine lv_ishr hx hb dX9_four_17 ?_
  refine lv_i2b hx hb dX9_four_18 rfl ?_
  refine lv_topi (fun v_6 ev_6 => ?_)
  refine va_bast hx hb hK hP hD hS 1 0 rfl rfl (by unfold vp_in; decide) dX9_four_19 (fun H locs hP hD hS => ?_)
  have hP : va_P (dC, dI) vwCl [(h0, .inr (9, [.int 0, .ref m1, .int 5, .int 0, .int 0, .ref m5, .ref m6, .ref m7, .int 0, .int 0, .int 0, .int 0, .int 0, .int 0, .long 0, .ref m15, .ref m16, .ref m17, .ref m18, .ref m19, .ref m20, .int 0, .ref m22, .ref m23, .ref m24, .ref m25, .ref m26, .ref m27, .ref m28, .ref m29, .ref m30, .ref m31, .ref m32, .ref m33, .ref m34, .int 0, .int 0, .ref m37, .ref m38, .ref m39, .ref m40, .ref m41, .ref m42, .ref m43, .ref m44, .ref m45, .ref m46])), (m1, .inl (k_tape, 200, .inl (upd f_3 (5 : Int32).toNatClampNeg (vp_nar .byte v_6))))] H := hP
  have hD : va_D A [(h0, .inr (9, [.int 0, .ref m1, .int 5, .int 0, .int 0, .ref m5, .ref m6, .ref m7, .int 0, .int 0, .int 0, .int 0, .int 0, .int 0, .long 0, .ref m15, .ref m16, .ref m17, .ref m18, .ref m19, .ref m20, .int 0, .ref m22, .ref m23, .ref m24, .ref m25, .ref m26, .ref m27, .ref m28, .ref m29, .ref m30, .ref m31, .ref m32, .ref m33, .ref m34, .int 0, .int 0, .ref m37, .ref m38, .ref m39, .ref m40, .ref m41, .ref m42, .ref m43, .ref m44, .ref m45, .ref m46])), (m1, .inl (k_tape, 200, .inl (upd f_3 (5 : Int32).toNatClampNeg (vp_nar .byte v_6))))] := hD
  obtain ⟨f_7, ef_7⟩ : ∃ w9 : Nat → Int32, w9 = upd f_3 (5 : Int32).toNatClampNeg (vp_nar .byte v_6) := ⟨_, rfl⟩
  rw [← ef_7] at hP hD
  refine lv_aload_n hx hb dX9_four_20 rfl (lv_at hl 1 rfl) ?_
  refine lv_dup hx hb dX9_four_21 rfl ?_
  refine va_get (D := (dC, dI)) (ci := 9) (v := .int 5) (C := RX9) (T := TX9) (N := 47) hx hb hts hin9 hown hK hP 0 rfl rfl 2 (by decide) (hts (.fieldLink RX9 115 "YamRidersModel" "length" "I") (by decide +kernel)) (fun _ h9 => h9) rfl dX9_four_22 ?_
  refine lv_iconst (v := 1) hx hb dX9_four_25 (by decide) ?_
  refine lv_iadd hx hb dX9_four_26 ?_
  refine lv_topi (fun y_8 ey_8 => ?_)
  obtain rfl : y_8 = 6 := ey_8.trans (by decide)
  refine va_put (D := (dC, dI)) (ci := 9) (v := .int 6) (ty := (tyX9 2)) (C := RX9) (T := TX9) (N := 47) hx hb hts hin9 tyX9 tyX9_ok nmX9 hown hK hP hD hS 0 rfl rfl 2 (by decide) (hts (.fieldLink RX9 115 "YamRidersModel" "length" "I") (by decide +kernel)) (fun _ h9 => h9) rfl (by decide +kernel) rfl rfl (Nat.le_of_ble_eq_true rfl) dX9_four_27 (fun H locs hP hD hS => ?_)
  have hP : va_P (dC, dI) vwCl [(h0, .inr (9, [.int 0, .ref m1, .int 6, .int 0, .int 0, .ref m5, .ref m6, .ref m7, .int 0, .int 0, .int 0, .int 0, .int 0, .int 0, .long 0, .ref m15, .ref m16, .ref m17, .ref m18, .ref m19, .ref m20, .int 0, .ref m22, .ref m23, .ref m24, .ref m25, .ref m26, .ref m27, .ref m28, .ref m29, .ref m30, .ref m31, .ref m32, .ref m33, .ref m34, .int 0, .int 0, .ref m37, .ref m38, .ref m39, .ref m40, .ref m41, .ref m42, .ref m43, .ref m44, .ref m45, .ref m46])), (m1, .inl (k_tape, 200, .inl f_7))] H := hP
  have hD : va_D A [(h0, .inr (9, [.int 0, .ref m1, .int 6, .int 0, .int 0, .ref m5, .ref m6, .ref m7, .int 0, .int 0, .int 0, .int 0, .int 0, .int 0, .long 0, .ref m15, .ref m16, .ref m17, .ref m18, .ref m19, .ref m20, .int 0, .ref m22, .ref m23, .ref m24, .ref m25, .ref m26, .ref m27, .ref m28, .ref m29, .ref m30, .ref m31, .ref m32, .ref m33, .ref m34, .int 0, .int 0, .ref m37, .ref m38, .ref m39, .ref m40, .ref m41, .ref m42, .ref m43, .ref m44, .ref m45, .ref m46])), (m1, .inl (k_tape, 200, .inl f_7))] := hD
  refine lv_iinc (v := 8) (lv' := [(2, .int 8), (0, .ref h0), (1, .int p0)]) hx hb dX9_four_30 hl (k := 0) rfl (by decide) (by decide) rfl (fun ls hl => ?_)
  refine lv_goto (tgt := 3) hx hb dX9_four_33 (by decide) ?_
  refine lv_iload_n hx hb dX9_four_3 rfl (lv_at hl 0 rfl) ?_
  refine lv_if_lt (tgt := 36) hx hb dX9_four_4 (by decide) (fun c_9 => by first | exact absurd c_9 (by decide) | exact absurd (by decide) c_9) (fun _ => ?_)
  refine lv_aload_n hx hb dX9_four_7 rfl (lv_at hl 1 rfl) ?_
  refine va_get (D := (dC, dI)) (ci := 9) (v := .ref m1) (C := RX9) (T := TX9) (N := 47) hx hb hts hin9 hown hK hP 0 rfl rfl 1 (by decide) (hts (.fieldLink RX9 7 "YamRidersModel" "tape" "[B") (by decide +kernel)) (fun _ h9 => h9) rfl dX9_four_8 ?_
  refine lv_aload_n hx hb dX9_four_11 rfl (lv_at hl 1 rfl) ?_
  refine va_get (D := (dC, dI)) (ci := 9) (v := .int 6) (C := RX9) (T := TX9) (N := 47) hx hb hts hin9 hown hK hP 0 rfl rfl 2 (by decide) (hts (.fieldLink RX9 115 "YamRidersModel" "length" "I") (by decide +kernel)) (fun _ h9 => h9) rfl dX9_four_12 ?_
  refine lv_iload_n hx hb dX9_four_15 rfl (lv_at hl 2 rfl) ?_
  refine lv_iload_n hx hb dX9_four_16 rfl (lv_at hl 0 rfl) ?_
  refine lv_ishr hx hb dX9_four_17 ?_
  refine lv_i2b hx hb dX9_four_18 rfl ?_
  refine lv_topi (fun v_10 ev_10 => ?_)
  refine va_bast hx hb hK hP hD hS 1 0 rfl rfl (by unfold vp_in; decide) dX9_four_19 (fun H locs hP hD hS => ?_)
  have hP : va_P (dC, dI) vwCl [(h0, .inr (9, [.int 0, .ref m1, .int 6, .int 0, .int 0, .ref m5, .ref m6, .ref m7, .int 0, .int 0, .int 0, .int 0, .int 0, .int 0, .long 0, .ref m15, .ref m16, .ref m17, .ref m18, .ref m19, .ref m20, .int 0, .ref m22, .ref m23, .ref m24, .ref m25, .ref m26, .ref m27, .ref m28, .ref m29, .ref m30, .ref m31, .ref m32, .ref m33, .ref m34, .int 0, .int 0, .ref m37, .ref m38, .ref m39, .ref m40, .ref m41, .ref m42, .ref m43, .ref m44, .ref m45, .ref m46])), (m1, .inl (k_tape, 200, .inl (upd f_7 (6 : Int32).toNatClampNeg (vp_nar .byte v_10))))] H := hP
  have hD : va_D A [(h0, .inr (9, [.int 0, .ref m1, .int 6, .int 0, .int 0, .ref m5, .ref m6, .ref m7, .int 0, .int 0, .int 0, .int 0, .int 0, .int 0, .long 0, .ref m15, .ref m16, .ref m17, .ref m18, .ref m19, .ref m20, .int 0, .ref m22, .ref m23, .ref m24, .ref m25, .ref m26, .ref m27, .ref m28, .ref m29, .ref m30, .ref m31, .ref m32, .ref m33, .ref m34, .int 0, .int 0, .ref m37, .ref m38, .ref m39, .ref m40, .ref m41, .ref m42, .ref m43, .ref m44, .ref m45, .ref m46])), (m1, .inl (k_tape, 200, .inl (upd f_7 (6 : Int32).toNatClampNeg (vp_nar .byte v_10))))] := hD
  obtain ⟨f_11, ef_11⟩ : ∃ w9 : Nat → Int32, w9 = upd f_7 (6 : Int32).toNatClampNeg (vp_nar .byte v_10) := ⟨_, rfl⟩
  rw [← ef_11] at hP hD
  refine lv_aload_n hx hb dX9_four_20 rfl (lv_at hl 1 rfl) ?_
  refine lv_dup hx hb dX9_four_21 rfl ?_
  refine va_get (D := (dC, dI)) (ci := 9) (v := .int 6) (C := RX9) (T := TX9) (N := 47) hx hb hts hin9 hown hK hP 0 rfl rfl 2 (by decide) (hts (.fieldLink RX9 115 "YamRidersModel" "length" "I") (by decide +kernel)) (fun _ h9 => h9) rfl dX9_four_22 ?_
  refine lv_iconst (v := 1) hx hb dX9_four_25 (by decide) ?_
  refine lv_iadd hx hb dX9_four_26 ?_
  refine lv_topi (fun y_12 ey_12 => ?_)
  obtain rfl : y_12 = 7 := ey_12.trans (by decide)
  refine va_put (D := (dC, dI)) (ci := 9) (v := .int 7) (ty := (tyX9 2)) (C := RX9) (T := TX9) (N := 47) hx hb hts hin9 tyX9 tyX9_ok nmX9 hown hK hP hD hS 0 rfl rfl 2 (by decide) (hts (.fieldLink RX9 115 "YamRidersModel" "length" "I") (by decide +kernel)) (fun _ h9 => h9) rfl (by decide +kernel) rfl rfl (Nat.le_of_ble_eq_true rfl) dX9_four_27 (fun H locs hP hD hS => ?_)
  have hP : va_P (dC, dI) vwCl [(h0, .inr (9, [.int 0, .ref m1, .int 7, .int 0, .int 0, .ref m5, .ref m6, .ref m7, .int 0, .int 0, .int 0, .int 0, .int 0, .int 0, .long 0, .ref m15, .ref m16, .ref m17, .ref m18, .ref m19, .ref m20, .int 0, .ref m22, .ref m23, .ref m24, .ref m25, .ref m26, .ref m27, .ref m28, .ref m29, .ref m30, .ref m31, .ref m32, .ref m33, .ref m34, .int 0, .int 0, .ref m37, .ref m38, .ref m39, .ref m40, .ref m41, .ref m42, .ref m43, .ref m44, .ref m45, .ref m46])), (m1, .inl (k_tape, 200, .inl f_11))] H := hP
  have hD : va_D A [(h0, .inr (9, [.int 0, .ref m1, .int 7, .int 0, .int 0, .ref m5, .ref m6, .ref m7, .int 0, .int 0, .int 0, .int 0, .int 0, .int 0, .long 0, .ref m15, .ref m16, .ref m17, .ref m18, .ref m19, .ref m20, .int 0, .ref m22, .ref m23, .ref m24, .ref m25, .ref m26, .ref m27, .ref m28, .ref m29, .ref m30, .ref m31, .ref m32, .ref m33, .ref m34, .int 0, .int 0, .ref m37, .ref m38, .ref m39, .ref m40, .ref m41, .ref m42, .ref m43, .ref m44, .ref m45, .ref m46])), (m1, .inl (k_tape, 200, .inl f_11))] := hD
  refine lv_iinc (v := 0) (lv' := [(2, .int 0), (0, .ref h0), (1, .int p0)]) hx hb dX9_four_30 hl (k := 0) rfl (by decide) (by decide) rfl (fun ls hl => ?_)
  refine lv_goto (tgt := 3) hx hb dX9_four_33 (by decide) ?_
  refine lv_iload_n hx hb dX9_four_3 rfl (lv_at hl 0 rfl) ?_
  refine lv_if_lt (tgt := 36) hx hb dX9_four_4 (by decide) (fun c_13 => by first | exact absurd c_13 (by decide) | exact absurd (by decide) c_13) (fun _ => ?_)
  refine lv_aload_n hx hb dX9_four_7 rfl (lv_at hl 1 rfl) ?_
  refine va_get (D := (dC, dI)) (ci := 9) (v := .ref m1) (C := RX9) (T := TX9) (N := 47) hx hb hts hin9 hown hK hP 0 rfl rfl 1 (by decide) (hts (.fieldLink RX9 7 "YamRidersModel" "tape" "[B") (by decide +kernel)) (fun _ h9 => h9) rfl dX9_four_8 ?_
  refine lv_aload_n hx hb dX9_four_11 rfl (lv_at hl 1 rfl) ?_
  refine va_get (D := (dC, dI)) (ci := 9) (v := .int 7) (C := RX9) (T := TX9) (N := 47) hx hb hts hin9 hown hK hP 0 rfl rfl 2 (by decide) (hts (.fieldLink RX9 115 "YamRidersModel" "length" "I") (by decide +kernel)) (fun _ h9 => h9) rfl dX9_four_12 ?_
  refine lv_iload_n hx hb dX9_four_15 rfl (lv_at hl 2 rfl) ?_
  refine lv_iload_n hx hb dX9_four_16 rfl (lv_at hl 0 rfl) ?_
  refine lv_ishr hx hb dX9_four_17 ?_
  refine lv_i2b hx hb dX9_four_18 rfl ?_
  refine lv_topi (fun v_14 ev_14 => ?_)
  refine va_bast hx hb hK hP hD hS 1 0 rfl rfl (by unfold vp_in; decide) dX9_four_19 (fun H locs hP hD hS => ?_)
  have hP : va_P (dC, dI) vwCl [(h0, .inr (9, [.int 0, .ref m1, .int 7, .int 0, .int 0, .ref m5, .ref m6, .ref m7, .int 0, .int 0, .int 0, .int 0, .int 0, .int 0, .long 0, .ref m15, .ref m16, .ref m17, .ref m18, .ref m19, .ref m20, .int 0, .ref m22, .ref m23, .ref m24, .ref m25, .ref m26, .ref m27, .ref m28, .ref m29, .ref m30, .ref m31, .ref m32, .ref m33, .ref m34, .int 0, .int 0, .ref m37, .ref m38, .ref m39, .ref m40, .ref m41, .ref m42, .ref m43, .ref m44, .ref m45, .ref m46])), (m1, .inl (k_tape, 200, .inl (upd f_11 (7 : Int32).toNatClampNeg (vp_nar .byte v_14))))] H := hP
  have hD : va_D A [(h0, .inr (9, [.int 0, .ref m1, .int 7, .int 0, .int 0, .ref m5, .ref m6, .ref m7, .int 0, .int 0, .int 0, .int 0, .int 0, .int 0, .long 0, .ref m15, .ref m16, .ref m17, .ref m18, .ref m19, .ref m20, .int 0, .ref m22, .ref m23, .ref m24, .ref m25, .ref m26, .ref m27, .ref m28, .ref m29, .ref m30, .ref m31, .ref m32, .ref m33, .ref m34, .int 0, .int 0, .ref m37, .ref m38, .ref m39, .ref m40, .ref m41, .ref m42, .ref m43, .ref m44, .ref m45, .ref m46])), (m1, .inl (k_tape, 200, .inl (upd f_11 (7 : Int32).toNatClampNeg (vp_nar .byte v_14))))] := hD
  obtain ⟨f_15, ef_15⟩ : ∃ w9 : Nat → Int32, w9 = upd f_11 (7 : Int32).toNatClampNeg (vp_nar .byte v_14) := ⟨_, rfl⟩
  rw [← ef_15] at hP hD
  refine lv_aload_n hx hb dX9_four_20 rfl (lv_at hl 1 rfl) ?_
  refine lv_dup hx hb dX9_four_21 rfl ?_
  refine va_get (D := (dC, dI)) (ci := 9) (v := .int 7) (C := RX9) (T := TX9) (N := 47) hx hb hts hin9 hown hK hP 0 rfl rfl 2 (by decide) (hts (.fieldLink RX9 115 "YamRidersModel" "length" "I") (by decide +kernel)) (fun _ h9 => h9) rfl dX9_four_22 ?_
  refine lv_iconst (v := 1) hx hb dX9_four_25 (by decide) ?_
  refine lv_iadd hx hb dX9_four_26 ?_
  refine lv_topi (fun y_16 ey_16 => ?_)
  obtain rfl : y_16 = 8 := ey_16.trans (by decide)
  refine va_put (D := (dC, dI)) (ci := 9) (v := .int 8) (ty := (tyX9 2)) (C := RX9) (T := TX9) (N := 47) hx hb hts hin9 tyX9 tyX9_ok nmX9 hown hK hP hD hS 0 rfl rfl 2 (by decide) (hts (.fieldLink RX9 115 "YamRidersModel" "length" "I") (by decide +kernel)) (fun _ h9 => h9) rfl (by decide +kernel) rfl rfl (Nat.le_of_ble_eq_true rfl) dX9_four_27 (fun H locs hP hD hS => ?_)
  have hP : va_P (dC, dI) vwCl [(h0, .inr (9, [.int 0, .ref m1, .int 8, .int 0, .int 0, .ref m5, .ref m6, .ref m7, .int 0, .int 0, .int 0, .int 0, .int 0, .int 0, .long 0, .ref m15, .ref m16, .ref m17, .ref m18, .ref m19, .ref m20, .int 0, .ref m22, .ref m23, .ref m24, .ref m25, .ref m26, .ref m27, .ref m28, .ref m29, .ref m30, .ref m31, .ref m32, .ref m33, .ref m34, .int 0, .int 0, .ref m37, .ref m38, .ref m39, .ref m40, .ref m41, .ref m42, .ref m43, .ref m44, .ref m45, .ref m46])), (m1, .inl (k_tape, 200, .inl f_15))] H := hP
  have hD : va_D A [(h0, .inr (9, [.int 0, .ref m1, .int 8, .int 0, .int 0, .ref m5, .ref m6, .ref m7, .int 0, .int 0, .int 0, .int 0, .int 0, .int 0, .long 0, .ref m15, .ref m16, .ref m17, .ref m18, .ref m19, .ref m20, .int 0, .ref m22, .ref m23, .ref m24, .ref m25, .ref m26, .ref m27, .ref m28, .ref m29, .ref m30, .ref m31, .ref m32, .ref m33, .ref m34, .int 0, .int 0, .ref m37, .ref m38, .ref m39, .ref m40, .ref m41, .ref m42, .ref m43, .ref m44, .ref m45, .ref m46])), (m1, .inl (k_tape, 200, .inl f_15))] := hD
  refine lv_iinc (v := (-8)) (lv' := [(2, .int (-8)), (0, .ref h0), (1, .int p0)]) hx hb dX9_four_30 hl (k := 0) rfl (by decide) (by decide) rfl (fun ls hl => ?_)
  refine lv_goto (tgt := 3) hx hb dX9_four_33 (by decide) ?_
  refine lv_iload_n hx hb dX9_four_3 rfl (lv_at hl 0 rfl) ?_
  refine lv_if_lt (tgt := 36) hx hb dX9_four_4 (by decide) (fun _ => ?_) (fun c_17 => by first | exact absurd c_17 (by decide) | exact absurd (by decide) c_17)
  have hP9 := hP.sub (ws' := [(h0, .inr (9, [.int 0, .ref m1, .int 8, .int 0, .int 0, .ref m5, .ref m6, .ref m7, .int 0, .int 0, .int 0, .int 0, .int 0, .int 0, .long 0, .ref m15, .ref m16, .ref m17, .ref m18, .ref m19, .ref m20, .int 0, .ref m22, .ref m23, .ref m24, .ref m25, .ref m26, .ref m27, .ref m28, .ref m29, .ref m30, .ref m31, .ref m32, .ref m33, .ref m34, .int 0, .int 0, .ref m37, .ref m38, .ref m39, .ref m40, .ref m41, .ref m42, .ref m43, .ref m44, .ref m45, .ref m46])), (m1, .inl (k_tape, 200, .inl f_15))]) [0, 1] rfl
  have hD9 := hD.sub (ws' := [(h0, .inr (9, [.int 0, .ref m1, .int 8, .int 0, .int 0, .ref m5, .ref m6, .ref m7, .int 0, .int 0, .int 0, .int 0, .int 0, .int 0, .long 0, .ref m15, .ref m16, .ref m17, .ref m18, .ref m19, .ref m20, .int 0, .ref m22, .ref m23, .ref m24, .ref m25, .ref m26, .ref m27, .ref m28, .ref m29, .ref m30, .ref m31, .ref m32, .ref m33, .ref m34, .int 0, .int 0, .ref m37, .ref m38, .ref m39, .ref m40, .ref m41, .ref m42, .ref m43, .ref m44, .ref m45, .ref m46])), (m1, .inl (k_tape, 200, .inl f_15))]) [0, 1] (by decide) rfl
  have hK9 := hK.sub (tys' := []) [] rfl
  refine W.widen (k := 0) (n := 0) (Nat.le_of_ble_eq_true rfl) (Nat.le_of_ble_eq_true rfl) ?_
  exact W.vret hx hb hr (fun t9 ht hW => ⟨⟨(), rfl, trivial, f_15, by rw [ht]; exact hP9, va_K.moved hW.alike hK9, hD9⟩, hS.F ht⟩) hS.2.2 dX9_four_36

set_option maxHeartbeats 4000000 in
set_option maxRecDepth 100000 in
theorem c_X9_four_8 (l : Launch) (dC : Nat → ClassId) (dI : Nat → Nat → Nat) (h0 : Nat) (m1 : Nat) (m5 : Nat) (m6 : Nat) (m7 : Nat) (m15 : Nat) (m16 : Nat) (m17 : Nat) (m18 : Nat) (m19 : Nat) (m20 : Nat) (m22 : Nat) (m23 : Nat) (m24 : Nat) (m25 : Nat) (m26 : Nat) (m27 : Nat) (m28 : Nat) (m29 : Nat) (m30 : Nat) (m31 : Nat) (m32 : Nat) (m33 : Nat) (m34 : Nat) (m37 : Nat) (m38 : Nat) (m39 : Nat) (m40 : Nat) (m41 : Nat) (m42 : Nat) (m43 : Nat) (m44 : Nat) (m45 : Nat) (m46 : Nat) (k_tape : ClassId) (f1 : Nat → Int32) (p0 : Int32) (sz : Nat) : Met l yX9_four wsX9_four ({ frames := 0, cells := 0, slots := 0, locals := 0 }) (va_Pc [.ref h0, .int p0] (cP dC dI [(h0, .inr (9, [.int 0, .ref m1, .int 8, .int 0, .int 0, .ref m5, .ref m6, .ref m7, .int 0, .int 0, .int 0, .int 0, .int 0, .int 0, .long 0, .ref m15, .ref m16, .ref m17, .ref m18, .ref m19, .ref m20, .int 0, .ref m22, .ref m23, .ref m24, .ref m25, .ref m26, .ref m27, .ref m28, .ref m29, .ref m30, .ref m31, .ref m32, .ref m33, .ref m34, .int 0, .int 0, .ref m37, .ref m38, .ref m39, .ref m40, .ref m41, .ref m42, .ref m43, .ref m44, .ref m45, .ref m46])), (m1, .inl (k_tape, 200, .inl f1))] [(k_tape, .byte)] sz)) (va_Qv (fun (_ : Unit) => True) (fun (_ : Unit) t9 => ∃ (f2 : Nat → Int32), cQ dC dI [(h0, .inr (9, [.int 0, .ref m1, .int 12, .int 0, .int 0, .ref m5, .ref m6, .ref m7, .int 0, .int 0, .int 0, .int 0, .int 0, .int 0, .long 0, .ref m15, .ref m16, .ref m17, .ref m18, .ref m19, .ref m20, .int 0, .ref m22, .ref m23, .ref m24, .ref m25, .ref m26, .ref m27, .ref m28, .ref m29, .ref m30, .ref m31, .ref m32, .ref m33, .ref m34, .int 0, .int 0, .ref m37, .ref m38, .ref m39, .ref m40, .ref m41, .ref m42, .ref m43, .ref m44, .ref m45, .ref m46])), (m1, .inl (k_tape, 200, .inl f2))] [] (va_A [(h0, .inr (9, [.int 0, .ref m1, .int 8, .int 0, .int 0, .ref m5, .ref m6, .ref m7, .int 0, .int 0, .int 0, .int 0, .int 0, .int 0, .long 0, .ref m15, .ref m16, .ref m17, .ref m18, .ref m19, .ref m20, .int 0, .ref m22, .ref m23, .ref m24, .ref m25, .ref m26, .ref m27, .ref m28, .ref m29, .ref m30, .ref m31, .ref m32, .ref m33, .ref m34, .int 0, .int 0, .ref m37, .ref m38, .ref m39, .ref m40, .ref m41, .ref m42, .ref m43, .ref m44, .ref m45, .ref m46])), (m1, .inl (k_tape, 200, .inl f1))] sz) t9) (va_A [(h0, .inr (9, [.int 0, .ref m1, .int 8, .int 0, .int 0, .ref m5, .ref m6, .ref m7, .int 0, .int 0, .int 0, .int 0, .int 0, .int 0, .long 0, .ref m15, .ref m16, .ref m17, .ref m18, .ref m19, .ref m20, .int 0, .ref m22, .ref m23, .ref m24, .ref m25, .ref m26, .ref m27, .ref m28, .ref m29, .ref m30, .ref m31, .ref m32, .ref m33, .ref m34, .int 0, .int 0, .ref m37, .ref m38, .ref m39, .ref m40, .ref m41, .ref m42, .ref m43, .ref m44, .ref m45, .ref m46])), (m1, .inl (k_tape, 200, .inl f1))] sz)) 0 0 (va_A [(h0, .inr (9, [.int 0, .ref m1, .int 8, .int 0, .int 0, .ref m5, .ref m6, .ref m7, .int 0, .int 0, .int 0, .int 0, .int 0, .int 0, .long 0, .ref m15, .ref m16, .ref m17, .ref m18, .ref m19, .ref m20, .int 0, .ref m22, .ref m23, .ref m24, .ref m25, .ref m26, .ref m27, .ref m28, .ref m29, .ref m30, .ref m31, .ref m32, .ref m33, .ref m34, .int 0, .int 0, .ref m37, .ref m38, .ref m39, .ref m40, .ref m41, .ref m42, .ref m43, .ref m44, .ref m45, .ref m46])), (m1, .inl (k_tape, 200, .inl f1))] sz) := by
  refine Met.ofW (cc := cX9_four) (maxL := 3) (ret := none) (by decide) rfl ?_
  intro p e s m args below meth c s₁ B hml hv
  obtain ⟨rfl, hsz, hP, hK, hD0, hN⟩ := hv
  have hx := B.exec
  have hb := B.bytes
  have hr := B.returns
  have hts := atoms_spec (ws := wsX9_four) B.pre
  have hown : s.vm.findClass RX9 = some m.cls := findClass_of_methodNamed B.named
  have hlocks := B.notSynchronized
  subst hsz
  have hin9 : ∀ w ∈ u_ws RX9 TX9 47, w ∈ wsX9_four := by decide +kernel
  have hD := hD0.self (sz := s.heap.size)
  generalize hAe : va_A [(h0, .inr (9, [.int 0, .ref m1, .int 8, .int 0, .int 0, .ref m5, .ref m6, .ref m7, .int 0, .int 0, .int 0, .int 0, .int 0, .int 0, .long 0, .ref m15, .ref m16, .ref m17, .ref m18, .ref m19, .ref m20, .int 0, .ref m22, .ref m23, .ref m24, .ref m25, .ref m26, .ref m27, .ref m28, .ref m29, .ref m30, .ref m31, .ref m32, .ref m33, .ref m34, .int 0, .int 0, .ref m37, .ref m38, .ref m39, .ref m40, .ref m41, .ref m42, .ref m43, .ref m44, .ref m45, .ref m46])), (m1, .inl (k_tape, 200, .inl f1))] s.heap.size = A at hD ⊢
  have hA : ∀ q : Nat, s.heap.size ≤ q → A q := fun q h => by rw [← hAe]; exact Or.inr h
  have hS : va_S A s.heap s.heap [] := va_S.rf
  have hP : va_P (dC, dI) vwCl [(h0, .inr (9, [.int 0, .ref m1, .int 8, .int 0, .int 0, .ref m5, .ref m6, .ref m7, .int 0, .int 0, .int 0, .int 0, .int 0, .int 0, .long 0, .ref m15, .ref m16, .ref m17, .ref m18, .ref m19, .ref m20, .int 0, .ref m22, .ref m23, .ref m24, .ref m25, .ref m26, .ref m27, .ref m28, .ref m29, .ref m30, .ref m31, .ref m32, .ref m33, .ref m34, .int 0, .int 0, .ref m37, .ref m38, .ref m39, .ref m40, .ref m41, .ref m42, .ref m43, .ref m44, .ref m45, .ref m46])), (m1, .inl (k_tape, 200, .inl f1))] s.heap := hP
  have hl := lv_entry ([.ref h0, .int p0]) (n := 3) (Nat.le_of_ble_eq_true rfl)
  rw [lg_entry_eq]
  generalize (lg_sl ([.ref h0, .int p0]) ++ List.replicate (3 - (lg_sl ([.ref h0, .int p0])).length) Slot.unset).toArray = ls at hl ⊢
  have hl : lv_has ls 3 [(0, .ref h0), (1, .int p0)] := hl
  refine lv_bipush (v := 24) hx hb dX9_four_0 (by decide) ?_
  refine lv_istore_n (lv' := [(2, .int 24), (0, .ref h0), (1, .int p0)]) hx hb dX9_four_2 rfl hl (by decide) rfl (fun ls hl => ?_)
  refine lv_iload_n hx hb dX9_four_3 rfl (lv_at hl 0 rfl) ?_
  refine lv_if_lt (tgt := 36) hx hb dX9_four_4 (by decide) (fun c_1 => by first | exact absurd c_1 (by decide) | exact absurd (by decide) c_1) (fun _ => ?_)
  refine lv_aload_n hx hb dX9_four_7 rfl (lv_at hl 1 rfl) ?_
  refine va_get (D := (dC, dI)) (ci := 9) (v := .ref m1) (C := RX9) (T := TX9) (N := 47) hx hb hts hin9 hown hK hP 0 rfl rfl 1 (by decide) (hts (.fieldLink RX9 7 "YamRidersModel" "tape" "[B") (by decide +kernel)) (fun _ h9 => h9) rfl dX9_four_8 ?_
  refine lv_aload_n hx hb dX9_four_11 rfl (lv_at hl 1 rfl) ?_
  refine va_get (D := (dC, dI)) (ci := 9) (v := .int 8) (C := RX9) (T := TX9) (N := 47) hx hb hts hin9 hown hK hP 0 rfl rfl 2 (by decide) (hts (.fieldLink RX9 115 "YamRidersModel" "length" "I") (by decide +kernel)) (fun _ h9 => h9) rfl dX9_four_12 ?_
  refine lv_iload_n hx hb dX9_four_15 rfl (lv_at hl 2 rfl) ?_
  refine lv_iload_n hx hb dX9_four_16 rfl (lv_at hl 0 rfl) ?_
  refine lv_ishr hx hb dX9_four_17 ?_
  refine lv_i2b hx hb dX9_four_18 rfl ?_
  refine lv_topi (fun v_2 ev_2 => ?_)
  refine va_bast hx hb hK hP hD hS 1 0 rfl rfl (by unfold vp_in; decide) dX9_four_19 (fun H locs hP hD hS => ?_)
  have hP : va_P (dC, dI) vwCl [(h0, .inr (9, [.int 0, .ref m1, .int 8, .int 0, .int 0, .ref m5, .ref m6, .ref m7, .int 0, .int 0, .int 0, .int 0, .int 0, .int 0, .long 0, .ref m15, .ref m16, .ref m17, .ref m18, .ref m19, .ref m20, .int 0, .ref m22, .ref m23, .ref m24, .ref m25, .ref m26, .ref m27, .ref m28, .ref m29, .ref m30, .ref m31, .ref m32, .ref m33, .ref m34, .int 0, .int 0, .ref m37, .ref m38, .ref m39, .ref m40, .ref m41, .ref m42, .ref m43, .ref m44, .ref m45, .ref m46])), (m1, .inl (k_tape, 200, .inl (upd f1 (8 : Int32).toNatClampNeg (vp_nar .byte v_2))))] H := hP
  have hD : va_D A [(h0, .inr (9, [.int 0, .ref m1, .int 8, .int 0, .int 0, .ref m5, .ref m6, .ref m7, .int 0, .int 0, .int 0, .int 0, .int 0, .int 0, .long 0, .ref m15, .ref m16, .ref m17, .ref m18, .ref m19, .ref m20, .int 0, .ref m22, .ref m23, .ref m24, .ref m25, .ref m26, .ref m27, .ref m28, .ref m29, .ref m30, .ref m31, .ref m32, .ref m33, .ref m34, .int 0, .int 0, .ref m37, .ref m38, .ref m39, .ref m40, .ref m41, .ref m42, .ref m43, .ref m44, .ref m45, .ref m46])), (m1, .inl (k_tape, 200, .inl (upd f1 (8 : Int32).toNatClampNeg (vp_nar .byte v_2))))] := hD
  obtain ⟨f_3, ef_3⟩ : ∃ w9 : Nat → Int32, w9 = upd f1 (8 : Int32).toNatClampNeg (vp_nar .byte v_2) := ⟨_, rfl⟩
  rw [← ef_3] at hP hD
  refine lv_aload_n hx hb dX9_four_20 rfl (lv_at hl 1 rfl) ?_
  refine lv_dup hx hb dX9_four_21 rfl ?_
  refine va_get (D := (dC, dI)) (ci := 9) (v := .int 8) (C := RX9) (T := TX9) (N := 47) hx hb hts hin9 hown hK hP 0 rfl rfl 2 (by decide) (hts (.fieldLink RX9 115 "YamRidersModel" "length" "I") (by decide +kernel)) (fun _ h9 => h9) rfl dX9_four_22 ?_
  refine lv_iconst (v := 1) hx hb dX9_four_25 (by decide) ?_
  refine lv_iadd hx hb dX9_four_26 ?_
  refine lv_topi (fun y_4 ey_4 => ?_)
  obtain rfl : y_4 = 9 := ey_4.trans (by decide)
  refine va_put (D := (dC, dI)) (ci := 9) (v := .int 9) (ty := (tyX9 2)) (C := RX9) (T := TX9) (N := 47) hx hb hts hin9 tyX9 tyX9_ok nmX9 hown hK hP hD hS 0 rfl rfl 2 (by decide) (hts (.fieldLink RX9 115 "YamRidersModel" "length" "I") (by decide +kernel)) (fun _ h9 => h9) rfl (by decide +kernel) rfl rfl (Nat.le_of_ble_eq_true rfl) dX9_four_27 (fun H locs hP hD hS => ?_)
  have hP : va_P (dC, dI) vwCl [(h0, .inr (9, [.int 0, .ref m1, .int 9, .int 0, .int 0, .ref m5, .ref m6, .ref m7, .int 0, .int 0, .int 0, .int 0, .int 0, .int 0, .long 0, .ref m15, .ref m16, .ref m17, .ref m18, .ref m19, .ref m20, .int 0, .ref m22, .ref m23, .ref m24, .ref m25, .ref m26, .ref m27, .ref m28, .ref m29, .ref m30, .ref m31, .ref m32, .ref m33, .ref m34, .int 0, .int 0, .ref m37, .ref m38, .ref m39, .ref m40, .ref m41, .ref m42, .ref m43, .ref m44, .ref m45, .ref m46])), (m1, .inl (k_tape, 200, .inl f_3))] H := hP
  have hD : va_D A [(h0, .inr (9, [.int 0, .ref m1, .int 9, .int 0, .int 0, .ref m5, .ref m6, .ref m7, .int 0, .int 0, .int 0, .int 0, .int 0, .int 0, .long 0, .ref m15, .ref m16, .ref m17, .ref m18, .ref m19, .ref m20, .int 0, .ref m22, .ref m23, .ref m24, .ref m25, .ref m26, .ref m27, .ref m28, .ref m29, .ref m30, .ref m31, .ref m32, .ref m33, .ref m34, .int 0, .int 0, .ref m37, .ref m38, .ref m39, .ref m40, .ref m41, .ref m42, .ref m43, .ref m44, .ref m45, .ref m46])), (m1, .inl (k_tape, 200, .inl f_3))] := hD
  refine lv_iinc (v := 16) (lv' := [(2, .int 16), (0, .ref h0), (1, .int p0)]) hx hb dX9_four_30 hl (k := 0) rfl (by decide) (by decide) rfl (fun ls hl => ?_)
  refine lv_goto (tgt := 3) hx hb dX9_four_33 (by decide) ?_
  refine lv_iload_n hx hb dX9_four_3 rfl (lv_at hl 0 rfl) ?_
  refine lv_if_lt (tgt := 36) hx hb dX9_four_4 (by decide) (fun c_5 => by first | exact absurd c_5 (by decide) | exact absurd (by decide) c_5) (fun _ => ?_)
  refine lv_aload_n hx hb dX9_four_7 rfl (lv_at hl 1 rfl) ?_
  refine va_get (D := (dC, dI)) (ci := 9) (v := .ref m1) (C := RX9) (T := TX9) (N := 47) hx hb hts hin9 hown hK hP 0 rfl rfl 1 (by decide) (hts (.fieldLink RX9 7 "YamRidersModel" "tape" "[B") (by decide +kernel)) (fun _ h9 => h9) rfl dX9_four_8 ?_
  refine lv_aload_n hx hb dX9_four_11 rfl (lv_at hl 1 rfl) ?_
  refine va_get (D := (dC, dI)) (ci := 9) (v := .int 9) (C := RX9) (T := TX9) (N := 47) hx hb hts hin9 hown hK hP 0 rfl rfl 2 (by decide) (hts (.fieldLink RX9 115 "YamRidersModel" "length" "I") (by decide +kernel)) (fun _ h9 => h9) rfl dX9_four_12 ?_
  refine lv_iload_n hx hb dX9_four_15 rfl (lv_at hl 2 rfl) ?_
  refine lv_iload_n hx hb dX9_four_16 rfl (lv_at hl 0 rfl) ?_
  refine lv_ishr hx hb dX9_four_17 ?_
  refine lv_i2b hx hb dX9_four_18 rfl ?_
  refine lv_topi (fun v_6 ev_6 => ?_)
  refine va_bast hx hb hK hP hD hS 1 0 rfl rfl (by unfold vp_in; decide) dX9_four_19 (fun H locs hP hD hS => ?_)
  have hP : va_P (dC, dI) vwCl [(h0, .inr (9, [.int 0, .ref m1, .int 9, .int 0, .int 0, .ref m5, .ref m6, .ref m7, .int 0, .int 0, .int 0, .int 0, .int 0, .int 0, .long 0, .ref m15, .ref m16, .ref m17, .ref m18, .ref m19, .ref m20, .int 0, .ref m22, .ref m23, .ref m24, .ref m25, .ref m26, .ref m27, .ref m28, .ref m29, .ref m30, .ref m31, .ref m32, .ref m33, .ref m34, .int 0, .int 0, .ref m37, .ref m38, .ref m39, .ref m40, .ref m41, .ref m42, .ref m43, .ref m44, .ref m45, .ref m46])), (m1, .inl (k_tape, 200, .inl (upd f_3 (9 : Int32).toNatClampNeg (vp_nar .byte v_6))))] H := hP
  have hD : va_D A [(h0, .inr (9, [.int 0, .ref m1, .int 9, .int 0, .int 0, .ref m5, .ref m6, .ref m7, .int 0, .int 0, .int 0, .int 0, .int 0, .int 0, .long 0, .ref m15, .ref m16, .ref m17, .ref m18, .ref m19, .ref m20, .int 0, .ref m22, .ref m23, .ref m24, .ref m25, .ref m26, .ref m27, .ref m28, .ref m29, .ref m30, .ref m31, .ref m32, .ref m33, .ref m34, .int 0, .int 0, .ref m37, .ref m38, .ref m39, .ref m40, .ref m41, .ref m42, .ref m43, .ref m44, .ref m45, .ref m46])), (m1, .inl (k_tape, 200, .inl (upd f_3 (9 : Int32).toNatClampNeg (vp_nar .byte v_6))))] := hD
  obtain ⟨f_7, ef_7⟩ : ∃ w9 : Nat → Int32, w9 = upd f_3 (9 : Int32).toNatClampNeg (vp_nar .byte v_6) := ⟨_, rfl⟩
  rw [← ef_7] at hP hD
  refine lv_aload_n hx hb dX9_four_20 rfl (lv_at hl 1 rfl) ?_
  refine lv_dup hx hb dX9_four_21 rfl ?_
  refine va_get (D := (dC, dI)) (ci := 9) (v := .int 9) (C := RX9) (T := TX9) (N := 47) hx hb hts hin9 hown hK hP 0 rfl rfl 2 (by decide) (hts (.fieldLink RX9 115 "YamRidersModel" "length" "I") (by decide +kernel)) (fun _ h9 => h9) rfl dX9_four_22 ?_
  refine lv_iconst (v := 1) hx hb dX9_four_25 (by decide) ?_
  refine lv_iadd hx hb dX9_four_26 ?_
  refine lv_topi (fun y_8 ey_8 => ?_)
  obtain rfl : y_8 = 10 := ey_8.trans (by decide)
  refine va_put (D := (dC, dI)) (ci := 9) (v := .int 10) (ty := (tyX9 2)) (C := RX9) (T := TX9) (N := 47) hx hb hts hin9 tyX9 tyX9_ok nmX9 hown hK hP hD hS 0 rfl rfl 2 (by decide) (hts (.fieldLink RX9 115 "YamRidersModel" "length" "I") (by decide +kernel)) (fun _ h9 => h9) rfl (by decide +kernel) rfl rfl (Nat.le_of_ble_eq_true rfl) dX9_four_27 (fun H locs hP hD hS => ?_)
  have hP : va_P (dC, dI) vwCl [(h0, .inr (9, [.int 0, .ref m1, .int 10, .int 0, .int 0, .ref m5, .ref m6, .ref m7, .int 0, .int 0, .int 0, .int 0, .int 0, .int 0, .long 0, .ref m15, .ref m16, .ref m17, .ref m18, .ref m19, .ref m20, .int 0, .ref m22, .ref m23, .ref m24, .ref m25, .ref m26, .ref m27, .ref m28, .ref m29, .ref m30, .ref m31, .ref m32, .ref m33, .ref m34, .int 0, .int 0, .ref m37, .ref m38, .ref m39, .ref m40, .ref m41, .ref m42, .ref m43, .ref m44, .ref m45, .ref m46])), (m1, .inl (k_tape, 200, .inl f_7))] H := hP
  have hD : va_D A [(h0, .inr (9, [.int 0, .ref m1, .int 10, .int 0, .int 0, .ref m5, .ref m6, .ref m7, .int 0, .int 0, .int 0, .int 0, .int 0, .int 0, .long 0, .ref m15, .ref m16, .ref m17, .ref m18, .ref m19, .ref m20, .int 0, .ref m22, .ref m23, .ref m24, .ref m25, .ref m26, .ref m27, .ref m28, .ref m29, .ref m30, .ref m31, .ref m32, .ref m33, .ref m34, .int 0, .int 0, .ref m37, .ref m38, .ref m39, .ref m40, .ref m41, .ref m42, .ref m43, .ref m44, .ref m45, .ref m46])), (m1, .inl (k_tape, 200, .inl f_7))] := hD
  refine lv_iinc (v := 8) (lv' := [(2, .int 8), (0, .ref h0), (1, .int p0)]) hx hb dX9_four_30 hl (k := 0) rfl (by decide) (by decide) rfl (fun ls hl => ?_)
  refine lv_goto (tgt := 3) hx hb dX9_four_33 (by decide) ?_
  refine lv_iload_n hx hb dX9_four_3 rfl (lv_at hl 0 rfl) ?_
  refine lv_if_lt (tgt := 36) hx hb dX9_four_4 (by decide) (fun c_9 => by first | exact absurd c_9 (by decide) | exact absurd (by decide) c_9) (fun _ => ?_)
  refine lv_aload_n hx hb dX9_four_7 rfl (lv_at hl 1 rfl) ?_
  refine va_get (D := (dC, dI)) (ci := 9) (v := .ref m1) (C := RX9) (T := TX9) (N := 47) hx hb hts hin9 hown hK hP 0 rfl rfl 1 (by decide) (hts (.fieldLink RX9 7 "YamRidersModel" "tape" "[B") (by decide +kernel)) (fun _ h9 => h9) rfl dX9_four_8 ?_
  refine lv_aload_n hx hb dX9_four_11 rfl (lv_at hl 1 rfl) ?_
  refine va_get (D := (dC, dI)) (ci := 9) (v := .int 10) (C := RX9) (T := TX9) (N := 47) hx hb hts hin9 hown hK hP 0 rfl rfl 2 (by decide) (hts (.fieldLink RX9 115 "YamRidersModel" "length" "I") (by decide +kernel)) (fun _ h9 => h9) rfl dX9_four_12 ?_
  refine lv_iload_n hx hb dX9_four_15 rfl (lv_at hl 2 rfl) ?_
  refine lv_iload_n hx hb dX9_four_16 rfl (lv_at hl 0 rfl) ?_
  refine lv_ishr hx hb dX9_four_17 ?_
  refine lv_i2b hx hb dX9_four_18 rfl ?_
  refine lv_topi (fun v_10 ev_10 => ?_)
  refine va_bast hx hb hK hP hD hS 1 0 rfl rfl (by unfold vp_in; decide) dX9_four_19 (fun H locs hP hD hS => ?_)
  have hP : va_P (dC, dI) vwCl [(h0, .inr (9, [.int 0, .ref m1, .int 10, .int 0, .int 0, .ref m5, .ref m6, .ref m7, .int 0, .int 0, .int 0, .int 0, .int 0, .int 0, .long 0, .ref m15, .ref m16, .ref m17, .ref m18, .ref m19, .ref m20, .int 0, .ref m22, .ref m23, .ref m24, .ref m25, .ref m26, .ref m27, .ref m28, .ref m29, .ref m30, .ref m31, .ref m32, .ref m33, .ref m34, .int 0, .int 0, .ref m37, .ref m38, .ref m39, .ref m40, .ref m41, .ref m42, .ref m43, .ref m44, .ref m45, .ref m46])), (m1, .inl (k_tape, 200, .inl (upd f_7 (10 : Int32).toNatClampNeg (vp_nar .byte v_10))))] H := hP
  have hD : va_D A [(h0, .inr (9, [.int 0, .ref m1, .int 10, .int 0, .int 0, .ref m5, .ref m6, .ref m7, .int 0, .int 0, .int 0, .int 0, .int 0, .int 0, .long 0, .ref m15, .ref m16, .ref m17, .ref m18, .ref m19, .ref m20, .int 0, .ref m22, .ref m23, .ref m24, .ref m25, .ref m26, .ref m27, .ref m28, .ref m29, .ref m30, .ref m31, .ref m32, .ref m33, .ref m34, .int 0, .int 0, .ref m37, .ref m38, .ref m39, .ref m40, .ref m41, .ref m42, .ref m43, .ref m44, .ref m45, .ref m46])), (m1, .inl (k_tape, 200, .inl (upd f_7 (10 : Int32).toNatClampNeg (vp_nar .byte v_10))))] := hD
  obtain ⟨f_11, ef_11⟩ : ∃ w9 : Nat → Int32, w9 = upd f_7 (10 : Int32).toNatClampNeg (vp_nar .byte v_10) := ⟨_, rfl⟩
  rw [← ef_11] at hP hD
  refine lv_aload_n hx hb dX9_four_20 rfl (lv_at hl 1 rfl) ?_
  refine lv_dup hx hb dX9_four_21 rfl ?_
  refine va_get (D := (dC, dI)) (ci := 9) (v := .int 10) (C := RX9) (T := TX9) (N := 47) hx hb hts hin9 hown hK hP 0 rfl rfl 2 (by decide) (hts (.fieldLink RX9 115 "YamRidersModel" "length" "I") (by decide +kernel)) (fun _ h9 => h9) rfl dX9_four_22 ?_
  refine lv_iconst (v := 1) hx hb dX9_four_25 (by decide) ?_
  refine lv_iadd hx hb dX9_four_26 ?_
  refine lv_topi (fun y_12 ey_12 => ?_)
  obtain rfl : y_12 = 11 := ey_12.trans (by decide)
  refine va_put (D := (dC, dI)) (ci := 9) (v := .int 11) (ty := (tyX9 2)) (C := RX9) (T := TX9) (N := 47) hx hb hts hin9 tyX9 tyX9_ok nmX9 hown hK hP hD hS 0 rfl rfl 2 (by decide) (hts (.fieldLink RX9 115 "YamRidersModel" "length" "I") (by decide +kernel)) (fun _ h9 => h9) rfl (by decide +kernel) rfl rfl (Nat.le_of_ble_eq_true rfl) dX9_four_27 (fun H locs hP hD hS => ?_)
  have hP : va_P (dC, dI) vwCl [(h0, .inr (9, [.int 0, .ref m1, .int 11, .int 0, .int 0, .ref m5, .ref m6, .ref m7, .int 0, .int 0, .int 0, .int 0, .int 0, .int 0, .long 0, .ref m15, .ref m16, .ref m17, .ref m18, .ref m19, .ref m20, .int 0, .ref m22, .ref m23, .ref m24, .ref m25, .ref m26, .ref m27, .ref m28, .ref m29, .ref m30, .ref m31, .ref m32, .ref m33, .ref m34, .int 0, .int 0, .ref m37, .ref m38, .ref m39, .ref m40, .ref m41, .ref m42, .ref m43, .ref m44, .ref m45, .ref m46])), (m1, .inl (k_tape, 200, .inl f_11))] H := hP
  have hD : va_D A [(h0, .inr (9, [.int 0, .ref m1, .int 11, .int 0, .int 0, .ref m5, .ref m6, .ref m7, .int 0, .int 0, .int 0, .int 0, .int 0, .int 0, .long 0, .ref m15, .ref m16, .ref m17, .ref m18, .ref m19, .ref m20, .int 0, .ref m22, .ref m23, .ref m24, .ref m25, .ref m26, .ref m27, .ref m28, .ref m29, .ref m30, .ref m31, .ref m32, .ref m33, .ref m34, .int 0, .int 0, .ref m37, .ref m38, .ref m39, .ref m40, .ref m41, .ref m42, .ref m43, .ref m44, .ref m45, .ref m46])), (m1, .inl (k_tape, 200, .inl f_11))] := hD
  refine lv_iinc (v := 0) (lv' := [(2, .int 0), (0, .ref h0), (1, .int p0)]) hx hb dX9_four_30 hl (k := 0) rfl (by decide) (by decide) rfl (fun ls hl => ?_)
  refine lv_goto (tgt := 3) hx hb dX9_four_33 (by decide) ?_
  refine lv_iload_n hx hb dX9_four_3 rfl (lv_at hl 0 rfl) ?_
  refine lv_if_lt (tgt := 36) hx hb dX9_four_4 (by decide) (fun c_13 => by first | exact absurd c_13 (by decide) | exact absurd (by decide) c_13) (fun _ => ?_)
  refine lv_aload_n hx hb dX9_four_7 rfl (lv_at hl 1 rfl) ?_
  refine va_get (D := (dC, dI)) (ci := 9) (v := .ref m1) (C := RX9) (T := TX9) (N := 47) hx hb hts hin9 hown hK hP 0 rfl rfl 1 (by decide) (hts (.fieldLink RX9 7 "YamRidersModel" "tape" "[B") (by decide +kernel)) (fun _ h9 => h9) rfl dX9_four_8 ?_
  refine lv_aload_n hx hb dX9_four_11 rfl (lv_at hl 1 rfl) ?_
  refine va_get (D := (dC, dI)) (ci := 9) (v := .int 11) (C := RX9) (T := TX9) (N := 47) hx hb hts hin9 hown hK hP 0 rfl rfl 2 (by decide) (hts (.fieldLink RX9 115 "YamRidersModel" "length" "I") (by decide +kernel)) (fun _ h9 => h9) rfl dX9_four_12 ?_
  refine lv_iload_n hx hb dX9_four_15 rfl (lv_at hl 2 rfl) ?_
  refine lv_iload_n hx hb dX9_four_16 rfl (lv_at hl 0 rfl) ?_
  refine lv_ishr hx hb dX9_four_17 ?_
  refine lv_i2b hx hb dX9_four_18 rfl ?_
  refine lv_topi (fun v_14 ev_14 => ?_)
  refine va_bast hx hb hK hP hD hS 1 0 rfl rfl (by unfold vp_in; decide) dX9_four_19 (fun H locs hP hD hS => ?_)
  have hP : va_P (dC, dI) vwCl [(h0, .inr (9, [.int 0, .ref m1, .int 11, .int 0, .int 0, .ref m5, .ref m6, .ref m7, .int 0, .int 0, .int 0, .int 0, .int 0, .int 0, .long 0, .ref m15, .ref m16, .ref m17, .ref m18, .ref m19, .ref m20, .int 0, .ref m22, .ref m23, .ref m24, .ref m25, .ref m26, .ref m27, .ref m28, .ref m29, .ref m30, .ref m31, .ref m32, .ref m33, .ref m34, .int 0, .int 0, .ref m37, .ref m38, .ref m39, .ref m40, .ref m41, .ref m42, .ref m43, .ref m44, .ref m45, .ref m46])), (m1, .inl (k_tape, 200, .inl (upd f_11 (11 : Int32).toNatClampNeg (vp_nar .byte v_14))))] H := hP
  have hD : va_D A [(h0, .inr (9, [.int 0, .ref m1, .int 11, .int 0, .int 0, .ref m5, .ref m6, .ref m7, .int 0, .int 0, .int 0, .int 0, .int 0, .int 0, .long 0, .ref m15, .ref m16, .ref m17, .ref m18, .ref m19, .ref m20, .int 0, .ref m22, .ref m23, .ref m24, .ref m25, .ref m26, .ref m27, .ref m28, .ref m29, .ref m30, .ref m31, .ref m32, .ref m33, .ref m34, .int 0, .int 0, .ref m37, .ref m38, .ref m39, .ref m40, .ref m41, .ref m42, .ref m43, .ref m44, .ref m45, .ref m46])), (m1, .inl (k_tape, 200, .inl (upd f_11 (11 : Int32).toNatClampNeg (vp_nar .byte v_14))))] := hD
  obtain ⟨f_15, ef_15⟩ : ∃ w9 : Nat → Int32, w9 = upd f_11 (11 : Int32).toNatClampNeg (vp_nar .byte v_14) := ⟨_, rfl⟩
  rw [← ef_15] at hP hD
  refine lv_aload_n hx hb dX9_four_20 rfl (lv_at hl 1 rfl) ?_
  refine lv_dup hx hb dX9_four_21 rfl ?_
  refine va_get (D := (dC, dI)) (ci := 9) (v := .int 11) (C := RX9) (T := TX9) (N := 47) hx hb hts hin9 hown hK hP 0 rfl rfl 2 (by decide) (hts (.fieldLink RX9 115 "YamRidersModel" "length" "I") (by decide +kernel)) (fun _ h9 => h9) rfl dX9_four_22 ?_
  refine lv_iconst (v := 1) hx hb dX9_four_25 (by decide) ?_
  refine lv_iadd hx hb dX9_four_26 ?_
  refine lv_topi (fun y_16 ey_16 => ?_)
  obtain rfl : y_16 = 12 := ey_16.trans (by decide)
  refine va_put (D := (dC, dI)) (ci := 9) (v := .int 12) (ty := (tyX9 2)) (C := RX9) (T := TX9) (N := 47) hx hb hts hin9 tyX9 tyX9_ok nmX9 hown hK hP hD hS 0 rfl rfl 2 (by decide) (hts (.fieldLink RX9 115 "YamRidersModel" "length" "I") (by decide +kernel)) (fun _ h9 => h9) rfl (by decide +kernel) rfl rfl (Nat.le_of_ble_eq_true rfl) dX9_four_27 (fun H locs hP hD hS => ?_)
  have hP : va_P (dC, dI) vwCl [(h0, .inr (9, [.int 0, .ref m1, .int 12, .int 0, .int 0, .ref m5, .ref m6, .ref m7, .int 0, .int 0, .int 0, .int 0, .int 0, .int 0, .long 0, .ref m15, .ref m16, .ref m17, .ref m18, .ref m19, .ref m20, .int 0, .ref m22, .ref m23, .ref m24, .ref m25, .ref m26, .ref m27, .ref m28, .ref m29, .ref m30, .ref m31, .ref m32, .ref m33, .ref m34, .int 0, .int 0, .ref m37, .ref m38, .ref m39, .ref m40, .ref m41, .ref m42, .ref m43, .ref m44, .ref m45, .ref m46])), (m1, .inl (k_tape, 200, .inl f_15))] H := hP
  have hD : va_D A [(h0, .inr (9, [.int 0, .ref m1, .int 12, .int 0, .int 0, .ref m5, .ref m6, .ref m7, .int 0, .int 0, .int 0, .int 0, .int 0, .int 0, .long 0, .ref m15, .ref m16, .ref m17, .ref m18, .ref m19, .ref m20, .int 0, .ref m22, .ref m23, .ref m24, .ref m25, .ref m26, .ref m27, .ref m28, .ref m29, .ref m30, .ref m31, .ref m32, .ref m33, .ref m34, .int 0, .int 0, .ref m37, .ref m38, .ref m39, .ref m40, .ref m41, .ref m42, .ref m43, .ref m44, .ref m45, .ref m46])), (m1, .inl (k_tape, 200, .inl f_15))] := hD
  refine lv_iinc (v := (-8)) (lv' := [(2, .int (-8)), (0, .ref h0), (1, .int p0)]) hx hb dX9_four_30 hl (k := 0) rfl (by decide) (by decide) rfl (fun ls hl => ?_)
  refine lv_goto (tgt := 3) hx hb dX9_four_33 (by decide) ?_
  refine lv_iload_n hx hb dX9_four_3 rfl (lv_at hl 0 rfl) ?_
  refine lv_if_lt (tgt := 36) hx hb dX9_four_4 (by decide) (fun _ => ?_) (fun c_17 => by first | exact absurd c_17 (by decide) | exact absurd (by decide) c_17)
  have hP9 := hP.sub (ws' := [(h0, .inr (9, [.int 0, .ref m1, .int 12, .int 0, .int 0, .ref m5, .ref m6, .ref m7, .int 0, .int 0, .int 0, .int 0, .int 0, .int 0, .long 0, .ref m15, .ref m16, .ref m17, .ref m18, .ref m19, .ref m20, .int 0, .ref m22, .ref m23, .ref m24, .ref m25, .ref m26, .ref m27, .ref m28, .ref m29, .ref m30, .ref m31, .ref m32, .ref m33, .ref m34, .int 0, .int 0, .ref m37, .ref m38, .ref m39, .ref m40, .ref m41, .ref m42, .ref m43, .ref m44, .ref m45, .ref m46])), (m1, .inl (k_tape, 200, .inl f_15))]) [0, 1] rfl
  have hD9 := hD.sub (ws' := [(h0, .inr (9, [.int 0, .ref m1, .int 12, .int 0, .int 0, .ref m5, .ref m6, .ref m7, .int 0, .int 0, .int 0, .int 0, .int 0, .int 0, .long 0, .ref m15, .ref m16, .ref m17, .ref m18, .ref m19, .ref m20, .int 0, .ref m22, .ref m23, .ref m24, .ref m25, .ref m26, .ref m27, .ref m28, .ref m29, .ref m30, .ref m31, .ref m32, .ref m33, .ref m34, .int 0, .int 0, .ref m37, .ref m38, .ref m39, .ref m40, .ref m41, .ref m42, .ref m43, .ref m44, .ref m45, .ref m46])), (m1, .inl (k_tape, 200, .inl f_15))]) [0, 1] (by decide) rfl
  have hK9 := hK.sub (tys' := []) [] rfl
  refine W.widen (k := 0) (n := 0) (Nat.le_of_ble_eq_true rfl) (Nat.le_of_ble_eq_true rfl) ?_
  exact W.vret hx hb hr (fun t9 ht hW => ⟨⟨(), rfl, trivial, f_15, by rw [ht]; exact hP9, va_K.moved hW.alike hK9, hD9⟩, hS.F ht⟩) hS.2.2 dX9_four_36

set_option maxHeartbeats 4000000 in
set_option maxRecDepth 100000 in
theorem c_X9_four_12 (l : Launch) (dC : Nat → ClassId) (dI : Nat → Nat → Nat) (h0 : Nat) (m1 : Nat) (m5 : Nat) (m6 : Nat) (m7 : Nat) (m15 : Nat) (m16 : Nat) (m17 : Nat) (m18 : Nat) (m19 : Nat) (m20 : Nat) (m22 : Nat) (m23 : Nat) (m24 : Nat) (m25 : Nat) (m26 : Nat) (m27 : Nat) (m28 : Nat) (m29 : Nat) (m30 : Nat) (m31 : Nat) (m32 : Nat) (m33 : Nat) (m34 : Nat) (m37 : Nat) (m38 : Nat) (m39 : Nat) (m40 : Nat) (m41 : Nat) (m42 : Nat) (m43 : Nat) (m44 : Nat) (m45 : Nat) (m46 : Nat) (k_tape : ClassId) (f1 : Nat → Int32) (p0 : Int32) (sz : Nat) : Met l yX9_four wsX9_four ({ frames := 0, cells := 0, slots := 0, locals := 0 }) (va_Pc [.ref h0, .int p0] (cP dC dI [(h0, .inr (9, [.int 0, .ref m1, .int 12, .int 0, .int 0, .ref m5, .ref m6, .ref m7, .int 0, .int 0, .int 0, .int 0, .int 0, .int 0, .long 0, .ref m15, .ref m16, .ref m17, .ref m18, .ref m19, .ref m20, .int 0, .ref m22, .ref m23, .ref m24, .ref m25, .ref m26, .ref m27, .ref m28, .ref m29, .ref m30, .ref m31, .ref m32, .ref m33, .ref m34, .int 0, .int 0, .ref m37, .ref m38, .ref m39, .ref m40, .ref m41, .ref m42, .ref m43, .ref m44, .ref m45, .ref m46])), (m1, .inl (k_tape, 200, .inl f1))] [(k_tape, .byte)] sz)) (va_Qv (fun (_ : Unit) => True) (fun (_ : Unit) t9 => ∃ (f2 : Nat → Int32), cQ dC dI [(h0, .inr (9, [.int 0, .ref m1, .int 16, .int 0, .int 0, .ref m5, .ref m6, .ref m7, .int 0, .int 0, .int 0, .int 0, .int 0, .int 0, .long 0, .ref m15, .ref m16, .ref m17, .ref m18, .ref m19, .ref m20, .int 0, .ref m22, .ref m23, .ref m24, .ref m25, .ref m26, .ref m27, .ref m28, .ref m29, .ref m30, .ref m31, .ref m32, .ref m33, .ref m34, .int 0, .int 0, .ref m37, .ref m38, .ref m39, .ref m40, .ref m41, .ref m42, .ref m43, .ref m44, .ref m45, .ref m46])), (m1, .inl (k_tape, 200, .inl f2))] [] (va_A [(h0, .inr (9, [.int 0, .ref m1, .int 12, .int 0, .int 0, .ref m5, .ref m6, .ref m7, .int 0, .int 0, .int 0, .int 0, .int 0, .int 0, .long 0, .ref m15, .ref m16, .ref m17, .ref m18, .ref m19, .ref m20, .int 0, .ref m22, .ref m23, .ref m24, .ref m25, .ref m26, .ref m27, .ref m28, .ref m29, .ref m30, .ref m31, .ref m32, .ref m33, .ref m34, .int 0, .int 0, .ref m37, .ref m38, .ref m39, .ref m40, .ref m41, .ref m42, .ref m43, .ref m44, .ref m45, .ref m46])), (m1, .inl (k_tape, 200, .inl f1))] sz) t9) (va_A [(h0, .inr (9, [.int 0, .ref m1, .int 12, .int 0, .int 0, .ref m5, .ref m6, .ref m7, .int 0, .int 0, .int 0, .int 0, .int 0, .int 0, .long 0, .ref m15, .ref m16, .ref m17, .ref m18, .ref m19, .ref m20, .int 0, .ref m22, .ref m23, .ref m24, .ref m25, .ref m26, .ref m27, .ref m28, .ref m29, .ref m30, .ref m31, .ref m32, .ref m33, .ref m34, .int 0, .int 0, .ref m37, .ref m38, .ref m39, .ref m40, .ref m41, .ref m42, .ref m43, .ref m44, .ref m45, .ref m46])), (m1, .inl (k_tape, 200, .inl f1))] sz)) 0 0 (va_A [(h0, .inr (9, [.int 0, .ref m1, .int 12, .int 0, .int 0, .ref m5, .ref m6, .ref m7, .int 0, .int 0, .int 0, .int 0, .int 0, .int 0, .long 0, .ref m15, .ref m16, .ref m17, .ref m18, .ref m19, .ref m20, .int 0, .ref m22, .ref m23, .ref m24, .ref m25, .ref m26, .ref m27, .ref m28, .ref m29, .ref m30, .ref m31, .ref m32, .ref m33, .ref m34, .int 0, .int 0, .ref m37, .ref m38, .ref m39, .ref m40, .ref m41, .ref m42, .ref m43, .ref m44, .ref m45, .ref m46])), (m1, .inl (k_tape, 200, .inl f1))] sz) := by
  refine Met.ofW (cc := cX9_four) (maxL := 3) (ret := none) (by decide) rfl ?_
  intro p e s m args below meth c s₁ B hml hv
  obtain ⟨rfl, hsz, hP, hK, hD0, hN⟩ := hv
  have hx := B.exec
  have hb := B.bytes
  have hr := B.returns
  have hts := atoms_spec (ws := wsX9_four) B.pre
  have hown : s.vm.findClass RX9 = some m.cls := findClass_of_methodNamed B.named
  have hlocks := B.notSynchronized
  subst hsz
  have hin9 : ∀ w ∈ u_ws RX9 TX9 47, w ∈ wsX9_four := by decide +kernel
  have hD := hD0.self (sz := s.heap.size)
  generalize hAe : va_A [(h0, .inr (9, [.int 0, .ref m1, .int 12, .int 0, .int 0, .ref m5, .ref m6, .ref m7, .int 0, .int 0, .int 0, .int 0, .int 0, .int 0, .long 0, .ref m15, .ref m16, .ref m17, .ref m18, .ref m19, .ref m20, .int 0, .ref m22, .ref m23, .ref m24, .ref m25, .ref m26, .ref m27, .ref m28, .ref m29, .ref m30, .ref m31, .ref m32, .ref m33, .ref m34, .int 0, .int 0, .ref m37, .ref m38, .ref m39, .ref m40, .ref m41, .ref m42, .ref m43, .ref m44, .ref m45, .ref m46])), (m1, .inl (k_tape, 200, .inl f1))] s.heap.size = A at hD ⊢
  have hA : ∀ q : Nat, s.heap.size ≤ q → A q := fun q h => by rw [← hAe]; exact Or.inr h
  have hS : va_S A s.heap s.heap [] := va_S.rf
  have hP : va_P (dC, dI) vwCl [(h0, .inr (9, [.int 0, .ref m1, .int 12, .int 0, .int 0, .ref m5, .ref m6, .ref m7, .int 0, .int 0, .int 0, .int 0, .int 0, .int 0, .long 0, .ref m15, .ref m16, .ref m17, .ref m18, .ref m19, .ref m20, .int 0, .ref m22, .ref m23, .ref m24, .ref m25, .ref m26, .ref m27, .ref m28, .ref m29, .ref m30, .ref m31, .ref m32, .ref m33, .ref m34, .int 0, .int 0, .ref m37, .ref m38, .ref m39, .ref m40, .ref m41, .ref m42, .ref m43, .ref m44, .ref m45, .ref m46])), (m1, .inl (k_tape, 200, .inl f1))] s.heap := hP
  have hl := lv_entry ([.ref h0, .int p0]) (n := 3) (Nat.le_of_ble_eq_true rfl)
  rw [lg_entry_eq]
  generalize (lg_sl ([.ref h0, .int p0]) ++ List.replicate (3 - (lg_sl ([.ref h0, .int p0])).length) Slot.unset).toArray = ls at hl ⊢
  have hl : lv_has ls 3 [(0, .ref h0), (1, .int p0)] := hl
  refine lv_bipush (v := 24) hx hb dX9_four_0 (by decide) ?_
  refine lv_istore_n (lv' := [(2, .int 24), (0, .ref h0), (1, .int p0)]) hx hb dX9_four_2 rfl hl (by decide) rfl (fun ls hl => ?_)
  refine lv_iload_n hx hb dX9_four_3 rfl (lv_at hl 0 rfl) ?_
  refine lv_if_lt (tgt := 36) hx hb dX9_four_4 (by decide) (fun c_1 => by first | exact absurd c_1 (by decide) | exact absurd (by decide) c_1) (fun _ => ?_)
  refine lv_aload_n hx hb dX9_four_7 rfl (lv_at hl 1 rfl) ?_
  refine va_get (D := (dC, dI)) (ci := 9) (v := .ref m1) (C := RX9) (T := TX9) (N := 47) hx hb hts hin9 hown hK hP 0 rfl rfl 1 (by decide) (hts (.fieldLink RX9 7 "YamRidersModel" "tape" "[B") (by decide +kernel)) (fun _ h9 => h9) rfl dX9_four_8 ?_
  refine lv_aload_n hx hb dX9_four_11 rfl (lv_at hl 1 rfl) ?_
  refine va_get (D := (dC, dI)) (ci := 9) (v := .int 12) (C := RX9) (T := TX9) (N := 47) hx hb hts hin9 hown hK hP 0 rfl rfl 2 (by decide) (hts (.fieldLink RX9 115 "YamRidersModel" "length" "I") (by decide +kernel)) (fun _ h9 => h9) rfl dX9_four_12 ?_
  refine lv_iload_n hx hb dX9_four_15 rfl (lv_at hl 2 rfl) ?_
  refine lv_iload_n hx hb dX9_four_16 rfl (lv_at hl 0 rfl) ?_
  refine lv_ishr hx hb dX9_four_17 ?_
  refine lv_i2b hx hb dX9_four_18 rfl ?_
  refine lv_topi (fun v_2 ev_2 => ?_)
  refine va_bast hx hb hK hP hD hS 1 0 rfl rfl (by unfold vp_in; decide) dX9_four_19 (fun H locs hP hD hS => ?_)
  have hP : va_P (dC, dI) vwCl [(h0, .inr (9, [.int 0, .ref m1, .int 12, .int 0, .int 0, .ref m5, .ref m6, .ref m7, .int 0, .int 0, .int 0, .int 0, .int 0, .int 0, .long 0, .ref m15, .ref m16, .ref m17, .ref m18, .ref m19, .ref m20, .int 0, .ref m22, .ref m23, .ref m24, .ref m25, .ref m26, .ref m27, .ref m28, .ref m29, .ref m30, .ref m31, .ref m32, .ref m33, .ref m34, .int 0, .int 0, .ref m37, .ref m38, .ref m39, .ref m40, .ref m41, .ref m42, .ref m43, .ref m44, .ref m45, .ref m46])), (m1, .inl (k_tape, 200, .inl (upd f1 (12 : Int32).toNatClampNeg (vp_nar .byte v_2))))] H := hP
  have hD : va_D A [(h0, .inr (9, [.int 0, .ref m1, .int 12, .int 0, .int 0, .ref m5, .ref m6, .ref m7, .int 0, .int 0, .int 0, .int 0, .int 0, .int 0, .long 0, .ref m15, .ref m16, .ref m17, .ref m18, .ref m19, .ref m20, .int 0, .ref m22, .ref m23, .ref m24, .ref m25, .ref m26, .ref m27, .ref m28, .ref m29, .ref m30, .ref m31, .ref m32, .ref m33, .ref m34, .int 0, .int 0, .ref m37, .ref m38, .ref m39, .ref m40, .ref m41, .ref m42, .ref m43, .ref m44, .ref m45, .ref m46])), (m1, .inl (k_tape, 200, .inl (upd f1 (12 : Int32).toNatClampNeg (vp_nar .byte v_2))))] := hD
  obtain ⟨f_3, ef_3⟩ : ∃ w9 : Nat → Int32, w9 = upd f1 (12 : Int32).toNatClampNeg (vp_nar .byte v_2) := ⟨_, rfl⟩
  rw [← ef_3] at hP hD
  refine lv_aload_n hx hb dX9_four_20 rfl (lv_at hl 1 rfl) ?_
  refine lv_dup hx hb dX9_four_21 rfl ?_
  refine va_get (D := (dC, dI)) (ci := 9) (v := .int 12) (C := RX9) (T := TX9) (N := 47) hx hb hts hin9 hown hK hP 0 rfl rfl 2 (by decide) (hts (.fieldLink RX9 115 "YamRidersModel" "length" "I") (by decide +kernel)) (fun _ h9 => h9) rfl dX9_four_22 ?_
  refine lv_iconst (v := 1) hx hb dX9_four_25 (by decide) ?_
  refine lv_iadd hx hb dX9_four_26 ?_
  refine lv_topi (fun y_4 ey_4 => ?_)
  obtain rfl : y_4 = 13 := ey_4.trans (by decide)
  refine va_put (D := (dC, dI)) (ci := 9) (v := .int 13) (ty := (tyX9 2)) (C := RX9) (T := TX9) (N := 47) hx hb hts hin9 tyX9 tyX9_ok nmX9 hown hK hP hD hS 0 rfl rfl 2 (by decide) (hts (.fieldLink RX9 115 "YamRidersModel" "length" "I") (by decide +kernel)) (fun _ h9 => h9) rfl (by decide +kernel) rfl rfl (Nat.le_of_ble_eq_true rfl) dX9_four_27 (fun H locs hP hD hS => ?_)
  have hP : va_P (dC, dI) vwCl [(h0, .inr (9, [.int 0, .ref m1, .int 13, .int 0, .int 0, .ref m5, .ref m6, .ref m7, .int 0, .int 0, .int 0, .int 0, .int 0, .int 0, .long 0, .ref m15, .ref m16, .ref m17, .ref m18, .ref m19, .ref m20, .int 0, .ref m22, .ref m23, .ref m24, .ref m25, .ref m26, .ref m27, .ref m28, .ref m29, .ref m30, .ref m31, .ref m32, .ref m33, .ref m34, .int 0, .int 0, .ref m37, .ref m38, .ref m39, .ref m40, .ref m41, .ref m42, .ref m43, .ref m44, .ref m45, .ref m46])), (m1, .inl (k_tape, 200, .inl f_3))] H := hP
  have hD : va_D A [(h0, .inr (9, [.int 0, .ref m1, .int 13, .int 0, .int 0, .ref m5, .ref m6, .ref m7, .int 0, .int 0, .int 0, .int 0, .int 0, .int 0, .long 0, .ref m15, .ref m16, .ref m17, .ref m18, .ref m19, .ref m20, .int 0, .ref m22, .ref m23, .ref m24, .ref m25, .ref m26, .ref m27, .ref m28, .ref m29, .ref m30, .ref m31, .ref m32, .ref m33, .ref m34, .int 0, .int 0, .ref m37, .ref m38, .ref m39, .ref m40, .ref m41, .ref m42, .ref m43, .ref m44, .ref m45, .ref m46])), (m1, .inl (k_tape, 200, .inl f_3))] := hD
  refine lv_iinc (v := 16) (lv' := [(2, .int 16), (0, .ref h0), (1, .int p0)]) hx hb dX9_four_30 hl (k := 0) rfl (by decide) (by decide) rfl (fun ls hl => ?_)
  refine lv_goto (tgt := 3) hx hb dX9_four_33 (by decide) ?_
  refine lv_iload_n hx hb dX9_four_3 rfl (lv_at hl 0 rfl) ?_
  refine lv_if_lt (tgt := 36) hx hb dX9_four_4 (by decide) (fun c_5 => by first | exact absurd c_5 (by decide) | exact absurd (by decide) c_5) (fun _ => ?_)
  refine lv_aload_n hx hb dX9_four_7 rfl (lv_at hl 1 rfl) ?_
  refine va_get (D := (dC, dI)) (ci := 9) (v := .ref m1) (C := RX9) (T := TX9) (N := 47) hx hb hts hin9 hown hK hP 0 rfl rfl 1 (by decide) (hts (.fieldLink RX9 7 "YamRidersModel" "tape" "[B") (by decide +kernel)) (fun _ h9 => h9) rfl dX9_four_8 ?_
  refine lv_aload_n hx hb dX9_four_11 rfl (lv_at hl 1 rfl) ?_
  refine va_get (D := (dC, dI)) (ci := 9) (v := .int 13) (C := RX9) (T := TX9) (N := 47) hx hb hts hin9 hown hK hP 0 rfl rfl 2 (by decide) (hts (.fieldLink RX9 115 "YamRidersModel" "length" "I") (by decide +kernel)) (fun _ h9 => h9) rfl dX9_four_12 ?_
  refine lv_iload_n hx hb dX9_four_15 rfl (lv_at hl 2 rfl) ?_
  refine lv_iload_n hx hb dX9_four_16 rfl (lv_at hl 0 rfl) ?_
  refine lv_ishr hx hb dX9_four_17 ?_
  refine lv_i2b hx hb dX9_four_18 rfl ?_
  refine lv_topi (fun v_6 ev_6 => ?_)
  refine va_bast hx hb hK hP hD hS 1 0 rfl rfl (by unfold vp_in; decide) dX9_four_19 (fun H locs hP hD hS => ?_)
  have hP : va_P (dC, dI) vwCl [(h0, .inr (9, [.int 0, .ref m1, .int 13, .int 0, .int 0, .ref m5, .ref m6, .ref m7, .int 0, .int 0, .int 0, .int 0, .int 0, .int 0, .long 0, .ref m15, .ref m16, .ref m17, .ref m18, .ref m19, .ref m20, .int 0, .ref m22, .ref m23, .ref m24, .ref m25, .ref m26, .ref m27, .ref m28, .ref m29, .ref m30, .ref m31, .ref m32, .ref m33, .ref m34, .int 0, .int 0, .ref m37, .ref m38, .ref m39, .ref m40, .ref m41, .ref m42, .ref m43, .ref m44, .ref m45, .ref m46])), (m1, .inl (k_tape, 200, .inl (upd f_3 (13 : Int32).toNatClampNeg (vp_nar .byte v_6))))] H := hP
  have hD : va_D A [(h0, .inr (9, [.int 0, .ref m1, .int 13, .int 0, .int 0, .ref m5, .ref m6, .ref m7, .int 0, .int 0, .int 0, .int 0, .int 0, .int 0, .long 0, .ref m15, .ref m16, .ref m17, .ref m18, .ref m19, .ref m20, .int 0, .ref m22, .ref m23, .ref m24, .ref m25, .ref m26, .ref m27, .ref m28, .ref m29, .ref m30, .ref m31, .ref m32, .ref m33, .ref m34, .int 0, .int 0, .ref m37, .ref m38, .ref m39, .ref m40, .ref m41, .ref m42, .ref m43, .ref m44, .ref m45, .ref m46])), (m1, .inl (k_tape, 200, .inl (upd f_3 (13 : Int32).toNatClampNeg (vp_nar .byte v_6))))] := hD
  obtain ⟨f_7, ef_7⟩ : ∃ w9 : Nat → Int32, w9 = upd f_3 (13 : Int32).toNatClampNeg (vp_nar .byte v_6) := ⟨_, rfl⟩
  rw [← ef_7] at hP hD
  refine lv_aload_n hx hb dX9_four_20 rfl (lv_at hl 1 rfl) ?_
  refine lv_dup hx hb dX9_four_21 rfl ?_
  refine va_get (D := (dC, dI)) (ci := 9) (v := .int 13) (C := RX9) (T := TX9) (N := 47) hx hb hts hin9 hown hK hP 0 rfl rfl 2 (by decide) (hts (.fieldLink RX9 115 "YamRidersModel" "length" "I") (by decide +kernel)) (fun _ h9 => h9) rfl dX9_four_22 ?_
  refine lv_iconst (v := 1) hx hb dX9_four_25 (by decide) ?_
  refine lv_iadd hx hb dX9_four_26 ?_
  refine lv_topi (fun y_8 ey_8 => ?_)
  obtain rfl : y_8 = 14 := ey_8.trans (by decide)
  refine va_put (D := (dC, dI)) (ci := 9) (v := .int 14) (ty := (tyX9 2)) (C := RX9) (T := TX9) (N := 47) hx hb hts hin9 tyX9 tyX9_ok nmX9 hown hK hP hD hS 0 rfl rfl 2 (by decide) (hts (.fieldLink RX9 115 "YamRidersModel" "length" "I") (by decide +kernel)) (fun _ h9 => h9) rfl (by decide +kernel) rfl rfl (Nat.le_of_ble_eq_true rfl) dX9_four_27 (fun H locs hP hD hS => ?_)
  have hP : va_P (dC, dI) vwCl [(h0, .inr (9, [.int 0, .ref m1, .int 14, .int 0, .int 0, .ref m5, .ref m6, .ref m7, .int 0, .int 0, .int 0, .int 0, .int 0, .int 0, .long 0, .ref m15, .ref m16, .ref m17, .ref m18, .ref m19, .ref m20, .int 0, .ref m22, .ref m23, .ref m24, .ref m25, .ref m26, .ref m27, .ref m28, .ref m29, .ref m30, .ref m31, .ref m32, .ref m33, .ref m34, .int 0, .int 0, .ref m37, .ref m38, .ref m39, .ref m40, .ref m41, .ref m42, .ref m43, .ref m44, .ref m45, .ref m46])), (m1, .inl (k_tape, 200, .inl f_7))] H := hP
  have hD : va_D A [(h0, .inr (9, [.int 0, .ref m1, .int 14, .int 0, .int 0, .ref m5, .ref m6, .ref m7, .int 0, .int 0, .int 0, .int 0, .int 0, .int 0, .long 0, .ref m15, .ref m16, .ref m17, .ref m18, .ref m19, .ref m20, .int 0, .ref m22, .ref m23, .ref m24, .ref m25, .ref m26, .ref m27, .ref m28, .ref m29, .ref m30, .ref m31, .ref m32, .ref m33, .ref m34, .int 0, .int 0, .ref m37, .ref m38, .ref m39, .ref m40, .ref m41, .ref m42, .ref m43, .ref m44, .ref m45, .ref m46])), (m1, .inl (k_tape, 200, .inl f_7))] := hD
  refine lv_iinc (v := 8) (lv' := [(2, .int 8), (0, .ref h0), (1, .int p0)]) hx hb dX9_four_30 hl (k := 0) rfl (by decide) (by decide) rfl (fun ls hl => ?_)
  refine lv_goto (tgt := 3) hx hb dX9_four_33 (by decide) ?_
  refine lv_iload_n hx hb dX9_four_3 rfl (lv_at hl 0 rfl) ?_
  refine lv_if_lt (tgt := 36) hx hb dX9_four_4 (by decide) (fun c_9 => by first | exact absurd c_9 (by decide) | exact absurd (by decide) c_9) (fun _ => ?_)
  refine lv_aload_n hx hb dX9_four_7 rfl (lv_at hl 1 rfl) ?_
  refine va_get (D := (dC, dI)) (ci := 9) (v := .ref m1) (C := RX9) (T := TX9) (N := 47) hx hb hts hin9 hown hK hP 0 rfl rfl 1 (by decide) (hts (.fieldLink RX9 7 "YamRidersModel" "tape" "[B") (by decide +kernel)) (fun _ h9 => h9) rfl dX9_four_8 ?_
  refine lv_aload_n hx hb dX9_four_11 rfl (lv_at hl 1 rfl) ?_
  refine va_get (D := (dC, dI)) (ci := 9) (v := .int 14) (C := RX9) (T := TX9) (N := 47) hx hb hts hin9 hown hK hP 0 rfl rfl 2 (by decide) (hts (.fieldLink RX9 115 "YamRidersModel" "length" "I") (by decide +kernel)) (fun _ h9 => h9) rfl dX9_four_12 ?_
  refine lv_iload_n hx hb dX9_four_15 rfl (lv_at hl 2 rfl) ?_
  refine lv_iload_n hx hb dX9_four_16 rfl (lv_at hl 0 rfl) ?_
  refine lv_ishr hx hb dX9_four_17 ?_
  refine lv_i2b hx hb dX9_four_18 rfl ?_
  refine lv_topi (fun v_10 ev_10 => ?_)
  refine va_bast hx hb hK hP hD hS 1 0 rfl rfl (by unfold vp_in; decide) dX9_four_19 (fun H locs hP hD hS => ?_)
  have hP : va_P (dC, dI) vwCl [(h0, .inr (9, [.int 0, .ref m1, .int 14, .int 0, .int 0, .ref m5, .ref m6, .ref m7, .int 0, .int 0, .int 0, .int 0, .int 0, .int 0, .long 0, .ref m15, .ref m16, .ref m17, .ref m18, .ref m19, .ref m20, .int 0, .ref m22, .ref m23, .ref m24, .ref m25, .ref m26, .ref m27, .ref m28, .ref m29, .ref m30, .ref m31, .ref m32, .ref m33, .ref m34, .int 0, .int 0, .ref m37, .ref m38, .ref m39, .ref m40, .ref m41, .ref m42, .ref m43, .ref m44, .ref m45, .ref m46])), (m1, .inl (k_tape, 200, .inl (upd f_7 (14 : Int32).toNatClampNeg (vp_nar .byte v_10))))] H := hP
  have hD : va_D A [(h0, .inr (9, [.int 0, .ref m1, .int 14, .int 0, .int 0, .ref m5, .ref m6, .ref m7, .int 0, .int 0, .int 0, .int 0, .int 0, .int 0, .long 0, .ref m15, .ref m16, .ref m17, .ref m18, .ref m19, .ref m20, .int 0, .ref m22, .ref m23, .ref m24, .ref m25, .ref m26, .ref m27, .ref m28, .ref m29, .ref m30, .ref m31, .ref m32, .ref m33, .ref m34, .int 0, .int 0, .ref m37, .ref m38, .ref m39, .ref m40, .ref m41, .ref m42, .ref m43, .ref m44, .ref m45, .ref m46])), (m1, .inl (k_tape, 200, .inl (upd f_7 (14 : Int32).toNatClampNeg (vp_nar .byte v_10))))] := hD
  obtain ⟨f_11, ef_11⟩ : ∃ w9 : Nat → Int32, w9 = upd f_7 (14 : Int32).toNatClampNeg (vp_nar .byte v_10) := ⟨_, rfl⟩
  rw [← ef_11] at hP hD
  refine lv_aload_n hx hb dX9_four_20 rfl (lv_at hl 1 rfl) ?_
  refine lv_dup hx hb dX9_four_21 rfl ?_
  refine va_get (D := (dC, dI)) (ci := 9) (v := .int 14) (C := RX9) (T := TX9) (N := 47) hx hb hts hin9 hown hK hP 0 rfl rfl 2 (by decide) (hts (.fieldLink RX9 115 "YamRidersModel" "length" "I") (by decide +kernel)) (fun _ h9 => h9) rfl dX9_four_22 ?_
  refine lv_iconst (v := 1) hx hb dX9_four_25 (by decide) ?_
  refine lv_iadd hx hb dX9_four_26 ?_
  refine lv_topi (fun y_12 ey_12 => ?_)
  obtain rfl : y_12 = 15 := ey_12.trans (by decide)
  refine va_put (D := (dC, dI)) (ci := 9) (v := .int 15) (ty := (tyX9 2)) (C := RX9) (T := TX9) (N := 47) hx hb hts hin9 tyX9 tyX9_ok nmX9 hown hK hP hD hS 0 rfl rfl 2 (by decide) (hts (.fieldLink RX9 115 "YamRidersModel" "length" "I") (by decide +kernel)) (fun _ h9 => h9) rfl (by decide +kernel) rfl rfl (Nat.le_of_ble_eq_true rfl) dX9_four_27 (fun H locs hP hD hS => ?_)
  have hP : va_P (dC, dI) vwCl [(h0, .inr (9, [.int 0, .ref m1, .int 15, .int 0, .int 0, .ref m5, .ref m6, .ref m7, .int 0, .int 0, .int 0, .int 0, .int 0, .int 0, .long 0, .ref m15, .ref m16, .ref m17, .ref m18, .ref m19, .ref m20, .int 0, .ref m22, .ref m23, .ref m24, .ref m25, .ref m26, .ref m27, .ref m28, .ref m29, .ref m30, .ref m31, .ref m32, .ref m33, .ref m34, .int 0, .int 0, .ref m37, .ref m38, .ref m39, .ref m40, .ref m41, .ref m42, .ref m43, .ref m44, .ref m45, .ref m46])), (m1, .inl (k_tape, 200, .inl f_11))] H := hP
  have hD : va_D A [(h0, .inr (9, [.int 0, .ref m1, .int 15, .int 0, .int 0, .ref m5, .ref m6, .ref m7, .int 0, .int 0, .int 0, .int 0, .int 0, .int 0, .long 0, .ref m15, .ref m16, .ref m17, .ref m18, .ref m19, .ref m20, .int 0, .ref m22, .ref m23, .ref m24, .ref m25, .ref m26, .ref m27, .ref m28, .ref m29, .ref m30, .ref m31, .ref m32, .ref m33, .ref m34, .int 0, .int 0, .ref m37, .ref m38, .ref m39, .ref m40, .ref m41, .ref m42, .ref m43, .ref m44, .ref m45, .ref m46])), (m1, .inl (k_tape, 200, .inl f_11))] := hD
  refine lv_iinc (v := 0) (lv' := [(2, .int 0), (0, .ref h0), (1, .int p0)]) hx hb dX9_four_30 hl (k := 0) rfl (by decide) (by decide) rfl (fun ls hl => ?_)
  refine lv_goto (tgt := 3) hx hb dX9_four_33 (by decide) ?_
  refine lv_iload_n hx hb dX9_four_3 rfl (lv_at hl 0 rfl) ?_
  refine lv_if_lt (tgt := 36) hx hb dX9_four_4 (by decide) (fun c_13 => by first | exact absurd c_13 (by decide) | exact absurd (by decide) c_13) (fun _ => ?_)
  refine lv_aload_n hx hb dX9_four_7 rfl (lv_at hl 1 rfl) ?_
  refine va_get (D := (dC, dI)) (ci := 9) (v := .ref m1) (C := RX9) (T := TX9) (N := 47) hx hb hts hin9 hown hK hP 0 rfl rfl 1 (by decide) (hts (.fieldLink RX9 7 "YamRidersModel" "tape" "[B") (by decide +kernel)) (fun _ h9 => h9) rfl dX9_four_8 ?_
  refine lv_aload_n hx hb dX9_four_11 rfl (lv_at hl 1 rfl) ?_
  refine va_get (D := (dC, dI)) (ci := 9) (v := .int 15) (C := RX9) (T := TX9) (N := 47) hx hb hts hin9 hown hK hP 0 rfl rfl 2 (by decide) (hts (.fieldLink RX9 115 "YamRidersModel" "length" "I") (by decide +kernel)) (fun _ h9 => h9) rfl dX9_four_12 ?_
  refine lv_iload_n hx hb dX9_four_15 rfl (lv_at hl 2 rfl) ?_
  refine lv_iload_n hx hb dX9_four_16 rfl (lv_at hl 0 rfl) ?_
  refine lv_ishr hx hb dX9_four_17 ?_
  refine lv_i2b hx hb dX9_four_18 rfl ?_
  refine lv_topi (fun v_14 ev_14 => ?_)
  refine va_bast hx hb hK hP hD hS 1 0 rfl rfl (by unfold vp_in; decide) dX9_four_19 (fun H locs hP hD hS => ?_)
  have hP : va_P (dC, dI) vwCl [(h0, .inr (9, [.int 0, .ref m1, .int 15, .int 0, .int 0, .ref m5, .ref m6, .ref m7, .int 0, .int 0, .int 0, .int 0, .int 0, .int 0, .long 0, .ref m15, .ref m16, .ref m17, .ref m18, .ref m19, .ref m20, .int 0, .ref m22, .ref m23, .ref m24, .ref m25, .ref m26, .ref m27, .ref m28, .ref m29, .ref m30, .ref m31, .ref m32, .ref m33, .ref m34, .int 0, .int 0, .ref m37, .ref m38, .ref m39, .ref m40, .ref m41, .ref m42, .ref m43, .ref m44, .ref m45, .ref m46])), (m1, .inl (k_tape, 200, .inl (upd f_11 (15 : Int32).toNatClampNeg (vp_nar .byte v_14))))] H := hP
  have hD : va_D A [(h0, .inr (9, [.int 0, .ref m1, .int 15, .int 0, .int 0, .ref m5, .ref m6, .ref m7, .int 0, .int 0, .int 0, .int 0, .int 0, .int 0, .long 0, .ref m15, .ref m16, .ref m17, .ref m18, .ref m19, .ref m20, .int 0, .ref m22, .ref m23, .ref m24, .ref m25, .ref m26, .ref m27, .ref m28, .ref m29, .ref m30, .ref m31, .ref m32, .ref m33, .ref m34, .int 0, .int 0, .ref m37, .ref m38, .ref m39, .ref m40, .ref m41, .ref m42, .ref m43, .ref m44, .ref m45, .ref m46])), (m1, .inl (k_tape, 200, .inl (upd f_11 (15 : Int32).toNatClampNeg (vp_nar .byte v_14))))] := hD
  obtain ⟨f_15, ef_15⟩ : ∃ w9 : Nat → Int32, w9 = upd f_11 (15 : Int32).toNatClampNeg (vp_nar .byte v_14) := ⟨_, rfl⟩
  rw [← ef_15] at hP hD
  refine lv_aload_n hx hb dX9_four_20 rfl (lv_at hl 1 rfl) ?_
  refine lv_dup hx hb dX9_four_21 rfl ?_
  refine va_get (D := (dC, dI)) (ci := 9) (v := .int 15) (C := RX9) (T := TX9) (N := 47) hx hb hts hin9 hown hK hP 0 rfl rfl 2 (by decide) (hts (.fieldLink RX9 115 "YamRidersModel" "length" "I") (by decide +kernel)) (fun _ h9 => h9) rfl dX9_four_22 ?_
  refine lv_iconst (v := 1) hx hb dX9_four_25 (by decide) ?_
  refine lv_iadd hx hb dX9_four_26 ?_
  refine lv_topi (fun y_16 ey_16 => ?_)
  obtain rfl : y_16 = 16 := ey_16.trans (by decide)
  refine va_put (D := (dC, dI)) (ci := 9) (v := .int 16) (ty := (tyX9 2)) (C := RX9) (T := TX9) (N := 47) hx hb hts hin9 tyX9 tyX9_ok nmX9 hown hK hP hD hS 0 rfl rfl 2 (by decide) (hts (.fieldLink RX9 115 "YamRidersModel" "length" "I") (by decide +kernel)) (fun _ h9 => h9) rfl (by decide +kernel) rfl rfl (Nat.le_of_ble_eq_true rfl) dX9_four_27 (fun H locs hP hD hS => ?_)
  have hP : va_P (dC, dI) vwCl [(h0, .inr (9, [.int 0, .ref m1, .int 16, .int 0, .int 0, .ref m5, .ref m6, .ref m7, .int 0, .int 0, .int 0, .int 0, .int 0, .int 0, .long 0, .ref m15, .ref m16, .ref m17, .ref m18, .ref m19, .ref m20, .int 0, .ref m22, .ref m23, .ref m24, .ref m25, .ref m26, .ref m27, .ref m28, .ref m29, .ref m30, .ref m31, .ref m32, .ref m33, .ref m34, .int 0, .int 0, .ref m37, .ref m38, .ref m39, .ref m40, .ref m41, .ref m42, .ref m43, .ref m44, .ref m45, .ref m46])), (m1, .inl (k_tape, 200, .inl f_15))] H := hP
  have hD : va_D A [(h0, .inr (9, [.int 0, .ref m1, .int 16, .int 0, .int 0, .ref m5, .ref m6, .ref m7, .int 0, .int 0, .int 0, .int 0, .int 0, .int 0, .long 0, .ref m15, .ref m16, .ref m17, .ref m18, .ref m19, .ref m20, .int 0, .ref m22, .ref m23, .ref m24, .ref m25, .ref m26, .ref m27, .ref m28, .ref m29, .ref m30, .ref m31, .ref m32, .ref m33, .ref m34, .int 0, .int 0, .ref m37, .ref m38, .ref m39, .ref m40, .ref m41, .ref m42, .ref m43, .ref m44, .ref m45, .ref m46])), (m1, .inl (k_tape, 200, .inl f_15))] := hD
  refine lv_iinc (v := (-8)) (lv' := [(2, .int (-8)), (0, .ref h0), (1, .int p0)]) hx hb dX9_four_30 hl (k := 0) rfl (by decide) (by decide) rfl (fun ls hl => ?_)
  refine lv_goto (tgt := 3) hx hb dX9_four_33 (by decide) ?_
  refine lv_iload_n hx hb dX9_four_3 rfl (lv_at hl 0 rfl) ?_
  refine lv_if_lt (tgt := 36) hx hb dX9_four_4 (by decide) (fun _ => ?_) (fun c_17 => by first | exact absurd c_17 (by decide) | exact absurd (by decide) c_17)
  have hP9 := hP.sub (ws' := [(h0, .inr (9, [.int 0, .ref m1, .int 16, .int 0, .int 0, .ref m5, .ref m6, .ref m7, .int 0, .int 0, .int 0, .int 0, .int 0, .int 0, .long 0, .ref m15, .ref m16, .ref m17, .ref m18, .ref m19, .ref m20, .int 0, .ref m22, .ref m23, .ref m24, .ref m25, .ref m26, .ref m27, .ref m28, .ref m29, .ref m30, .ref m31, .ref m32, .ref m33, .ref m34, .int 0, .int 0, .ref m37, .ref m38, .ref m39, .ref m40, .ref m41, .ref m42, .ref m43, .ref m44, .ref m45, .ref m46])), (m1, .inl (k_tape, 200, .inl f_15))]) [0, 1] rfl
  have hD9 := hD.sub (ws' := [(h0, .inr (9, [.int 0, .ref m1, .int 16, .int 0, .int 0, .ref m5, .ref m6, .ref m7, .int 0, .int 0, .int 0, .int 0, .int 0, .int 0, .long 0, .ref m15, .ref m16, .ref m17, .ref m18, .ref m19, .ref m20, .int 0, .ref m22, .ref m23, .ref m24, .ref m25, .ref m26, .ref m27, .ref m28, .ref m29, .ref m30, .ref m31, .ref m32, .ref m33, .ref m34, .int 0, .int 0, .ref m37, .ref m38, .ref m39, .ref m40, .ref m41, .ref m42, .ref m43, .ref m44, .ref m45, .ref m46])), (m1, .inl (k_tape, 200, .inl f_15))]) [0, 1] (by decide) rfl
  have hK9 := hK.sub (tys' := []) [] rfl
  refine W.widen (k := 0) (n := 0) (Nat.le_of_ble_eq_true rfl) (Nat.le_of_ble_eq_true rfl) ?_
  exact W.vret hx hb hr (fun t9 ht hW => ⟨⟨(), rfl, trivial, f_15, by rw [ht]; exact hP9, va_K.moved hW.alike hK9, hD9⟩, hS.F ht⟩) hS.2.2 dX9_four_36

set_option maxHeartbeats 4000000 in
set_option maxRecDepth 100000 in
theorem c_X9_four_16 (l : Launch) (dC : Nat → ClassId) (dI : Nat → Nat → Nat) (h0 : Nat) (m1 : Nat) (m5 : Nat) (m6 : Nat) (m7 : Nat) (m15 : Nat) (m16 : Nat) (m17 : Nat) (m18 : Nat) (m19 : Nat) (m20 : Nat) (m22 : Nat) (m23 : Nat) (m24 : Nat) (m25 : Nat) (m26 : Nat) (m27 : Nat) (m28 : Nat) (m29 : Nat) (m30 : Nat) (m31 : Nat) (m32 : Nat) (m33 : Nat) (m34 : Nat) (m37 : Nat) (m38 : Nat) (m39 : Nat) (m40 : Nat) (m41 : Nat) (m42 : Nat) (m43 : Nat) (m44 : Nat) (m45 : Nat) (m46 : Nat) (k_tape : ClassId) (f1 : Nat → Int32) (p0 : Int32) (sz : Nat) : Met l yX9_four wsX9_four ({ frames := 0, cells := 0, slots := 0, locals := 0 }) (va_Pc [.ref h0, .int p0] (cP dC dI [(h0, .inr (9, [.int 0, .ref m1, .int 16, .int 0, .int 0, .ref m5, .ref m6, .ref m7, .int 0, .int 0, .int 0, .int 0, .int 0, .int 0, .long 0, .ref m15, .ref m16, .ref m17, .ref m18, .ref m19, .ref m20, .int 0, .ref m22, .ref m23, .ref m24, .ref m25, .ref m26, .ref m27, .ref m28, .ref m29, .ref m30, .ref m31, .ref m32, .ref m33, .ref m34, .int 0, .int 0, .ref m37, .ref m38, .ref m39, .ref m40, .ref m41, .ref m42, .ref m43, .ref m44, .ref m45, .ref m46])), (m1, .inl (k_tape, 200, .inl f1))] [(k_tape, .byte)] sz)) (va_Qv (fun (_ : Unit) => True) (fun (_ : Unit) t9 => ∃ (f2 : Nat → Int32), cQ dC dI [(h0, .inr (9, [.int 0, .ref m1, .int 20, .int 0, .int 0, .ref m5, .ref m6, .ref m7, .int 0, .int 0, .int 0, .int 0, .int 0, .int 0, .long 0, .ref m15, .ref m16, .ref m17, .ref m18, .ref m19, .ref m20, .int 0, .ref m22, .ref m23, .ref m24, .ref m25, .ref m26, .ref m27, .ref m28, .ref m29, .ref m30, .ref m31, .ref m32, .ref m33, .ref m34, .int 0, .int 0, .ref m37, .ref m38, .ref m39, .ref m40, .ref m41, .ref m42, .ref m43, .ref m44, .ref m45, .ref m46])), (m1, .inl (k_tape, 200, .inl f2))] [] (va_A [(h0, .inr (9, [.int 0, .ref m1, .int 16, .int 0, .int 0, .ref m5, .ref m6, .ref m7, .int 0, .int 0, .int 0, .int 0, .int 0, .int 0, .long 0, .ref m15, .ref m16, .ref m17, .ref m18, .ref m19, .ref m20, .int 0, .ref m22, .ref m23, .ref m24, .ref m25, .ref m26, .ref m27, .ref m28, .ref m29, .ref m30, .ref m31, .ref m32, .ref m33, .ref m34, .int 0, .int 0, .ref m37, .ref m38, .ref m39, .ref m40, .ref m41, .ref m42, .ref m43, .ref m44, .ref m45, .ref m46])), (m1, .inl (k_tape, 200, .inl f1))] sz) t9) (va_A [(h0, .inr (9, [.int 0, .ref m1, .int 16, .int 0, .int 0, .ref m5, .ref m6, .ref m7, .int 0, .int 0, .int 0, .int 0, .int 0, .int 0, .long 0, .ref m15, .ref m16, .ref m17, .ref m18, .ref m19, .ref m20, .int 0, .ref m22, .ref m23, .ref m24, .ref m25, .ref m26, .ref m27, .ref m28, .ref m29, .ref m30, .ref m31, .ref m32, .ref m33, .ref m34, .int 0, .int 0, .ref m37, .ref m38, .ref m39, .ref m40, .ref m41, .ref m42, .ref m43, .ref m44, .ref m45, .ref m46])), (m1, .inl (k_tape, 200, .inl f1))] sz)) 0 0 (va_A [(h0, .inr (9, [.int 0, .ref m1, .int 16, .int 0, .int 0, .ref m5, .ref m6, .ref m7, .int 0, .int 0, .int 0, .int 0, .int 0, .int 0, .long 0, .ref m15, .ref m16, .ref m17, .ref m18, .ref m19, .ref m20, .int 0, .ref m22, .ref m23, .ref m24, .ref m25, .ref m26, .ref m27, .ref m28, .ref m29, .ref m30, .ref m31, .ref m32, .ref m33, .ref m34, .int 0, .int 0, .ref m37, .ref m38, .ref m39, .ref m40, .ref m41, .ref m42, .ref m43, .ref m44, .ref m45, .ref m46])), (m1, .inl (k_tape, 200, .inl f1))] sz) := by
  refine Met.ofW (cc := cX9_four) (maxL := 3) (ret := none) (by decide) rfl ?_
  intro p e s m args below meth c s₁ B hml hv
  obtain ⟨rfl, hsz, hP, hK, hD0, hN⟩ := hv
  have hx := B.exec
  have hb := B.bytes
  have hr := B.returns
  have hts := atoms_spec (ws := wsX9_four) B.pre
  have hown : s.vm.findClass RX9 = some m.cls := findClass_of_methodNamed B.named
  have hlocks := B.notSynchronized
  subst hsz
  have hin9 : ∀ w ∈ u_ws RX9 TX9 47, w ∈ wsX9_four := by decide +kernel
  have hD := hD0.self (sz := s.heap.size)
  generalize hAe : va_A [(h0, .inr (9, [.int 0, .ref m1, .int 16, .int 0, .int 0, .ref m5, .ref m6, .ref m7, .int 0, .int 0, .int 0, .int 0, .int 0, .int 0, .long 0, .ref m15, .ref m16, .ref m17, .ref m18, .ref m19, .ref m20, .int 0, .ref m22, .ref m23, .ref m24, .ref m25, .ref m26, .ref m27, .ref m28, .ref m29, .ref m30, .ref m31, .ref m32, .ref m33, .ref m34, .int 0, .int 0, .ref m37, .ref m38, .ref m39, .ref m40, .ref m41, .ref m42, .ref m43, .ref m44, .ref m45, .ref m46])), (m1, .inl (k_tape, 200, .inl f1))] s.heap.size = A at hD ⊢
  have hA : ∀ q : Nat, s.heap.size ≤ q → A q := fun q h => by rw [← hAe]; exact Or.inr h
  have hS : va_S A s.heap s.heap [] := va_S.rf
  have hP : va_P (dC, dI) vwCl [(h0, .inr (9, [.int 0, .ref m1, .int 16, .int 0, .int 0, .ref m5, .ref m6, .ref m7, .int 0, .int 0, .int 0, .int 0, .int 0, .int 0, .long 0, .ref m15, .ref m16, .ref m17, .ref m18, .ref m19, .ref m20, .int 0, .ref m22, .ref m23, .ref m24, .ref m25, .ref m26, .ref m27, .ref m28, .ref m29, .ref m30, .ref m31, .ref m32, .ref m33, .ref m34, .int 0, .int 0, .ref m37, .ref m38, .ref m39, .ref m40, .ref m41, .ref m42, .ref m43, .ref m44, .ref m45, .ref m46])), (m1, .inl (k_tape, 200, .inl f1))] s.heap := hP
  have hl := lv_entry ([.ref h0, .int p0]) (n := 3) (Nat.le_of_ble_eq_true rfl)
  rw [lg_entry_eq]
  generalize (lg_sl ([.ref h0, .int p0]) ++ List.replicate (3 - (lg_sl ([.ref h0, .int p0])).length) Slot.unset).toArray = ls at hl ⊢
  have hl : lv_has ls 3 [(0, .ref h0), (1, .int p0)] := hl
  refine lv_bipush (v := 24) hx hb dX9_four_0 (by decide) ?_
  refine lv_istore_n (lv' := [(2, .int 24), (0, .ref h0), (1, .int p0)]) hx hb dX9_four_2 rfl hl (by decide) rfl (fun ls hl => ?_)
  refine lv_iload_n hx hb dX9_four_3 rfl (lv_at hl 0 rfl) ?_
  refine lv_if_lt (tgt := 36) hx hb dX9_four_4 (by decide) (fun c_1 => by first | exact absurd c_1 (by decide) | exact absurd (by decide) c_1) (fun _ => ?_)
  refine lv_aload_n hx hb dX9_four_7 rfl (lv_at hl 1 rfl) ?_
  refine va_get (D := (dC, dI)) (ci := 9) (v := .ref m1) (C := RX9) (T := TX9) (N := 47) hx hb hts hin9 hown hK hP 0 rfl rfl 1 (by decide) (hts (.fieldLink RX9 7 "YamRidersModel" "tape" "[B") (by decide +kernel)) (fun _ h9 => h9) rfl dX9_four_8 ?_
  refine lv_aload_n hx hb dX9_four_11 rfl (lv_at hl 1 rfl) ?_
  refine va_get (D := (dC, dI)) (ci := 9) (v := .int 16) (C := RX9) (T := TX9) (N := 47) hx hb hts hin9 hown hK hP 0 rfl rfl 2 (by decide) (hts (.fieldLink RX9 115 "YamRidersModel" "length" "I") (by decide +kernel)) (fun _ h9 => h9) rfl dX9_four_12 ?_
  refine lv_iload_n hx hb dX9_four_15 rfl (lv_at hl 2 rfl) ?_
  refine lv_iload_n hx hb dX9_four_16 rfl (lv_at hl 0 rfl) ?_
  refine lv_ishr hx hb dX9_four_17 ?_
  refine lv_i2b hx hb dX9_four_18 rfl ?_
  refine lv_topi (fun v_2 ev_2 => ?_)
  refine va_bast hx hb hK hP hD hS 1 0 rfl rfl (by unfold vp_in; decide) dX9_four_19 (fun H locs hP hD hS => ?_)
  have hP : va_P (dC, dI) vwCl [(h0, .inr (9, [.int 0, .ref m1, .int 16, .int 0, .int 0, .ref m5, .ref m6, .ref m7, .int 0, .int 0, .int 0, .int 0, .int 0, .int 0, .long 0, .ref m15, .ref m16, .ref m17, .ref m18, .ref m19, .ref m20, .int 0, .ref m22, .ref m23, .ref m24, .ref m25, .ref m26, .ref m27, .ref m28, .ref m29, .ref m30, .ref m31, .ref m32, .ref m33, .ref m34, .int 0, .int 0, .ref m37, .ref m38, .ref m39, .ref m40, .ref m41, .ref m42, .ref m43, .ref m44, .ref m45, .ref m46])), (m1, .inl (k_tape, 200, .inl (upd f1 (16 : Int32).toNatClampNeg (vp_nar .byte v_2))))] H := hP
  have hD : va_D A [(h0, .inr (9, [.int 0, .ref m1, .int 16, .int 0, .int 0, .ref m5, .ref m6, .ref m7, .int 0, .int 0, .int 0, .int 0, .int 0, .int 0, .long 0, .ref m15, .ref m16, .ref m17, .ref m18, .ref m19, .ref m20, .int 0, .ref m22, .ref m23, .ref m24, .ref m25, .ref m26, .ref m27, .ref m28, .ref m29, .ref m30, .ref m31, .ref m32, .ref m33, .ref m34, .int 0, .int 0, .ref m37, .ref m38, .ref m39, .ref m40, .ref m41, .ref m42, .ref m43, .ref m44, .ref m45, .ref m46])), (m1, .inl (k_tape, 200, .inl (upd f1 (16 : Int32).toNatClampNeg (vp_nar .byte v_2))))] := hD
  obtain ⟨f_3, ef_3⟩ : ∃ w9 : Nat → Int32, w9 = upd f1 (16 : Int32).toNatClampNeg (vp_nar .byte v_2) := ⟨_, rfl⟩
  rw [← ef_3] at hP hD
  refine lv_aload_n hx hb dX9_four_20 rfl (lv_at hl 1 rfl) ?_
  refine lv_dup hx hb dX9_four_21 rfl ?_
  refine va_get (D := (dC, dI)) (ci := 9) (v := .int 16) (C := RX9) (T := TX9) (N := 47) hx hb hts hin9 hown hK hP 0 rfl rfl 2 (by decide) (hts (.fieldLink RX9 115 "YamRidersModel" "length" "I") (by decide +kernel)) (fun _ h9 => h9) rfl dX9_four_22 ?_
  refine lv_iconst (v := 1) hx hb dX9_four_25 (by decide) ?_
  refine lv_iadd hx hb dX9_four_26 ?_
  refine lv_topi (fun y_4 ey_4 => ?_)
  obtain rfl : y_4 = 17 := ey_4.trans (by decide)
  refine va_put (D := (dC, dI)) (ci := 9) (v := .int 17) (ty := (tyX9 2)) (C := RX9) (T := TX9) (N := 47) hx hb hts hin9 tyX9 tyX9_ok nmX9 hown hK hP hD hS 0 rfl rfl 2 (by decide) (hts (.fieldLink RX9 115 "YamRidersModel" "length" "I") (by decide +kernel)) (fun _ h9 => h9) rfl (by decide +kernel) rfl rfl (Nat.le_of_ble_eq_true rfl) dX9_four_27 (fun H locs hP hD hS => ?_)
  have hP : va_P (dC, dI) vwCl [(h0, .inr (9, [.int 0, .ref m1, .int 17, .int 0, .int 0, .ref m5, .ref m6, .ref m7, .int 0, .int 0, .int 0, .int 0, .int 0, .int 0, .long 0, .ref m15, .ref m16, .ref m17, .ref m18, .ref m19, .ref m20, .int 0, .ref m22, .ref m23, .ref m24, .ref m25, .ref m26, .ref m27, .ref m28, .ref m29, .ref m30, .ref m31, .ref m32, .ref m33, .ref m34, .int 0, .int 0, .ref m37, .ref m38, .ref m39, .ref m40, .ref m41, .ref m42, .ref m43, .ref m44, .ref m45, .ref m46])), (m1, .inl (k_tape, 200, .inl f_3))] H := hP
  have hD : va_D A [(h0, .inr (9, [.int 0, .ref m1, .int 17, .int 0, .int 0, .ref m5, .ref m6, .ref m7, .int 0, .int 0, .int 0, .int 0, .int 0, .int 0, .long 0, .ref m15, .ref m16, .ref m17, .ref m18, .ref m19, .ref m20, .int 0, .ref m22, .ref m23, .ref m24, .ref m25, .ref m26, .ref m27, .ref m28, .ref m29, .ref m30, .ref m31, .ref m32, .ref m33, .ref m34, .int 0, .int 0, .ref m37, .ref m38, .ref m39, .ref m40, .ref m41, .ref m42, .ref m43, .ref m44, .ref m45, .ref m46])), (m1, .inl (k_tape, 200, .inl f_3))] := hD
  refine lv_iinc (v := 16) (lv' := [(2, .int 16), (0, .ref h0), (1, .int p0)]) hx hb dX9_four_30 hl (k := 0) rfl (by decide) (by decide) rfl (fun ls hl => ?_)
  refine lv_goto (tgt := 3) hx hb dX9_four_33 (by decide) ?_
  refine lv_iload_n hx hb dX9_four_3 rfl (lv_at hl 0 rfl) ?_
  refine lv_if_lt (tgt := 36) hx hb dX9_four_4 (by decide) (fun c_5 => by first | exact absurd c_5 (by decide) | exact absurd (by decide) c_5) (fun _ => ?_)
  refine lv_aload_n hx hb dX9_four_7 rfl (lv_at hl 1 rfl) ?_
  refine va_get (D := (dC, dI)) (ci := 9) (v := .ref m1) (C := RX9) (T := TX9) (N := 47) hx hb hts hin9 hown hK hP 0 rfl rfl 1 (by decide) (hts (.fieldLink RX9 7 "YamRidersModel" "tape" "[B") (by decide +kernel)) (fun _ h9 => h9) rfl dX9_four_8 ?_
  refine lv_aload_n hx hb dX9_four_11 rfl (lv_at hl 1 rfl) ?_
  refine va_get (D := (dC, dI)) (ci := 9) (v := .int 17) (C := RX9) (T := TX9) (N := 47) hx hb hts hin9 hown hK hP 0 rfl rfl 2 (by decide) (hts (.fieldLink RX9 115 "YamRidersModel" "length" "I") (by decide +kernel)) (fun _ h9 => h9) rfl dX9_four_12 ?_
  refine lv_iload_n hx hb dX9_four_15 rfl (lv_at hl 2 rfl) ?_
  refine lv_iload_n hx hb dX9_four_16 rfl (lv_at hl 0 rfl) ?_
  refine lv_ishr hx hb dX9_four_17 ?_
  refine lv_i2b hx hb dX9_four_18 rfl ?_
  refine lv_topi (fun v_6 ev_6 => ?_)
  refine va_bast hx hb hK hP hD hS 1 0 rfl rfl (by unfold vp_in; decide) dX9_four_19 (fun H locs hP hD hS => ?_)
  have hP : va_P (dC, dI) vwCl [(h0, .inr (9, [.int 0, .ref m1, .int 17, .int 0, .int 0, .ref m5, .ref m6, .ref m7, .int 0, .int 0, .int 0, .int 0, .int 0, .int 0, .long 0, .ref m15, .ref m16, .ref m17, .ref m18, .ref m19, .ref m20, .int 0, .ref m22, .ref m23, .ref m24, .ref m25, .ref m26, .ref m27, .ref m28, .ref m29, .ref m30, .ref m31, .ref m32, .ref m33, .ref m34, .int 0, .int 0, .ref m37, .ref m38, .ref m39, .ref m40, .ref m41, .ref m42, .ref m43, .ref m44, .ref m45, .ref m46])), (m1, .inl (k_tape, 200, .inl (upd f_3 (17 : Int32).toNatClampNeg (vp_nar .byte v_6))))] H := hP
  have hD : va_D A [(h0, .inr (9, [.int 0, .ref m1, .int 17, .int 0, .int 0, .ref m5, .ref m6, .ref m7, .int 0, .int 0, .int 0, .int 0, .int 0, .int 0, .long 0, .ref m15, .ref m16, .ref m17, .ref m18, .ref m19, .ref m20, .int 0, .ref m22, .ref m23, .ref m24, .ref m25, .ref m26, .ref m27, .ref m28, .ref m29, .ref m30, .ref m31, .ref m32, .ref m33, .ref m34, .int 0, .int 0, .ref m37, .ref m38, .ref m39, .ref m40, .ref m41, .ref m42, .ref m43, .ref m44, .ref m45, .ref m46])), (m1, .inl (k_tape, 200, .inl (upd f_3 (17 : Int32).toNatClampNeg (vp_nar .byte v_6))))] := hD
  obtain ⟨f_7, ef_7⟩ : ∃ w9 : Nat → Int32, w9 = upd f_3 (17 : Int32).toNatClampNeg (vp_nar .byte v_6) := ⟨_, rfl⟩
  rw [← ef_7] at hP hD
  refine lv_aload_n hx hb dX9_four_20 rfl (lv_at hl 1 rfl) ?_
  refine lv_dup hx hb dX9_four_21 rfl ?_
  refine va_get (D := (dC, dI)) (ci := 9) (v := .int 17) (C := RX9) (T := TX9) (N := 47) hx hb hts hin9 hown hK hP 0 rfl rfl 2 (by decide) (hts (.fieldLink RX9 115 "YamRidersModel" "length" "I") (by decide +kernel)) (fun _ h9 => h9) rfl dX9_four_22 ?_
  refine lv_iconst (v := 1) hx hb dX9_four_25 (by decide) ?_
  refine lv_iadd hx hb dX9_four_26 ?_
  refine lv_topi (fun y_8 ey_8 => ?_)
  obtain rfl : y_8 = 18 := ey_8.trans (by decide)
  refine va_put (D := (dC, dI)) (ci := 9) (v := .int 18) (ty := (tyX9 2)) (C := RX9) (T := TX9) (N := 47) hx hb hts hin9 tyX9 tyX9_ok nmX9 hown hK hP hD hS 0 rfl rfl 2 (by decide) (hts (.fieldLink RX9 115 "YamRidersModel" "length" "I") (by decide +kernel)) (fun _ h9 => h9) rfl (by decide +kernel) rfl rfl (Nat.le_of_ble_eq_true rfl) dX9_four_27 (fun H locs hP hD hS => ?_)
  have hP : va_P (dC, dI) vwCl [(h0, .inr (9, [.int 0, .ref m1, .int 18, .int 0, .int 0, .ref m5, .ref m6, .ref m7, .int 0, .int 0, .int 0, .int 0, .int 0, .int 0, .long 0, .ref m15, .ref m16, .ref m17, .ref m18, .ref m19, .ref m20, .int 0, .ref m22, .ref m23, .ref m24, .ref m25, .ref m26, .ref m27, .ref m28, .ref m29, .ref m30, .ref m31, .ref m32, .ref m33, .ref m34, .int 0, .int 0, .ref m37, .ref m38, .ref m39, .ref m40, .ref m41, .ref m42, .ref m43, .ref m44, .ref m45, .ref m46])), (m1, .inl (k_tape, 200, .inl f_7))] H := hP
  have hD : va_D A [(h0, .inr (9, [.int 0, .ref m1, .int 18, .int 0, .int 0, .ref m5, .ref m6, .ref m7, .int 0, .int 0, .int 0, .int 0, .int 0, .int 0, .long 0, .ref m15, .ref m16, .ref m17, .ref m18, .ref m19, .ref m20, .int 0, .ref m22, .ref m23, .ref m24, .ref m25, .ref m26, .ref m27, .ref m28, .ref m29, .ref m30, .ref m31, .ref m32, .ref m33, .ref m34, .int 0, .int 0, .ref m37, .ref m38, .ref m39, .ref m40, .ref m41, .ref m42, .ref m43, .ref m44, .ref m45, .ref m46])), (m1, .inl (k_tape, 200, .inl f_7))] := hD
  refine lv_iinc (v := 8) (lv' := [(2, .int 8), (0, .ref h0), (1, .int p0)]) hx hb dX9_four_30 hl (k := 0) rfl (by decide) (by decide) rfl (fun ls hl => ?_)
  refine lv_goto (tgt := 3) hx hb dX9_four_33 (by decide) ?_
  refine lv_iload_n hx hb dX9_four_3 rfl (lv_at hl 0 rfl) ?_
  refine lv_if_lt (tgt := 36) hx hb dX9_four_4 (by decide) (fun c_9 => by first | exact absurd c_9 (by decide) | exact absurd (by decide) c_9) (fun _ => ?_)
  refine lv_aload_n hx hb dX9_four_7 rfl (lv_at hl 1 rfl) ?_
  refine va_get (D := (dC, dI)) (ci := 9) (v := .ref m1) (C := RX9) (T := TX9) (N := 47) hx hb hts hin9 hown hK hP 0 rfl rfl 1 (by decide) (hts (.fieldLink RX9 7 "YamRidersModel" "tape" "[B") (by decide +kernel)) (fun _ h9 => h9) rfl dX9_four_8 ?_
  refine lv_aload_n hx hb dX9_four_11 rfl (lv_at hl 1 rfl) ?_
  refine va_get (D := (dC, dI)) (ci := 9) (v := .int 18) (C := RX9) (T := TX9) (N := 47) hx hb hts hin9 hown hK hP 0 rfl rfl 2 (by decide) (hts (.fieldLink RX9 115 "YamRidersModel" "length" "I") (by decide +kernel)) (fun _ h9 => h9) rfl dX9_four_12 ?_
  refine lv_iload_n hx hb dX9_four_15 rfl (lv_at hl 2 rfl) ?_
  refine lv_iload_n hx hb dX9_four_16 rfl (lv_at hl 0 rfl) ?_
  refine lv_ishr hx hb dX9_four_17 ?_
  refine lv_i2b hx hb dX9_four_18 rfl ?_
  refine lv_topi (fun v_10 ev_10 => ?_)
  refine va_bast hx hb hK hP hD hS 1 0 rfl rfl (by unfold vp_in; decide) dX9_four_19 (fun H locs hP hD hS => ?_)
  have hP : va_P (dC, dI) vwCl [(h0, .inr (9, [.int 0, .ref m1, .int 18, .int 0, .int 0, .ref m5, .ref m6, .ref m7, .int 0, .int 0, .int 0, .int 0, .int 0, .int 0, .long 0, .ref m15, .ref m16, .ref m17, .ref m18, .ref m19, .ref m20, .int 0, .ref m22, .ref m23, .ref m24, .ref m25, .ref m26, .ref m27, .ref m28, .ref m29, .ref m30, .ref m31, .ref m32, .ref m33, .ref m34, .int 0, .int 0, .ref m37, .ref m38, .ref m39, .ref m40, .ref m41, .ref m42, .ref m43, .ref m44, .ref m45, .ref m46])), (m1, .inl (k_tape, 200, .inl (upd f_7 (18 : Int32).toNatClampNeg (vp_nar .byte v_10))))] H := hP
  have hD : va_D A [(h0, .inr (9, [.int 0, .ref m1, .int 18, .int 0, .int 0, .ref m5, .ref m6, .ref m7, .int 0, .int 0, .int 0, .int 0, .int 0, .int 0, .long 0, .ref m15, .ref m16, .ref m17, .ref m18, .ref m19, .ref m20, .int 0, .ref m22, .ref m23, .ref m24, .ref m25, .ref m26, .ref m27, .ref m28, .ref m29, .ref m30, .ref m31, .ref m32, .ref m33, .ref m34, .int 0, .int 0, .ref m37, .ref m38, .ref m39, .ref m40, .ref m41, .ref m42, .ref m43, .ref m44, .ref m45, .ref m46])), (m1, .inl (k_tape, 200, .inl (upd f_7 (18 : Int32).toNatClampNeg (vp_nar .byte v_10))))] := hD
  obtain ⟨f_11, ef_11⟩ : ∃ w9 : Nat → Int32, w9 = upd f_7 (18 : Int32).toNatClampNeg (vp_nar .byte v_10) := ⟨_, rfl⟩
  rw [← ef_11] at hP hD
  refine lv_aload_n hx hb dX9_four_20 rfl (lv_at hl 1 rfl) ?_
  refine lv_dup hx hb dX9_four_21 rfl ?_
  refine va_get (D := (dC, dI)) (ci := 9) (v := .int 18) (C := RX9) (T := TX9) (N := 47) hx hb hts hin9 hown hK hP 0 rfl rfl 2 (by decide) (hts (.fieldLink RX9 115 "YamRidersModel" "length" "I") (by decide +kernel)) (fun _ h9 => h9) rfl dX9_four_22 ?_
  refine lv_iconst (v := 1) hx hb dX9_four_25 (by decide) ?_
  refine lv_iadd hx hb dX9_four_26 ?_
  refine lv_topi (fun y_12 ey_12 => ?_)
  obtain rfl : y_12 = 19 := ey_12.trans (by decide)
  refine va_put (D := (dC, dI)) (ci := 9) (v := .int 19) (ty := (tyX9 2)) (C := RX9) (T := TX9) (N := 47) hx hb hts hin9 tyX9 tyX9_ok nmX9 hown hK hP hD hS 0 rfl rfl 2 (by decide) (hts (.fieldLink RX9 115 "YamRidersModel" "length" "I") (by decide +kernel)) (fun _ h9 => h9) rfl (by decide +kernel) rfl rfl (Nat.le_of_ble_eq_true rfl) dX9_four_27 (fun H locs hP hD hS => ?_)
  have hP : va_P (dC, dI) vwCl [(h0, .inr (9, [.int 0, .ref m1, .int 19, .int 0, .int 0, .ref m5, .ref m6, .ref m7, .int 0, .int 0, .int 0, .int 0, .int 0, .int 0, .long 0, .ref m15, .ref m16, .ref m17, .ref m18, .ref m19, .ref m20, .int 0, .ref m22, .ref m23, .ref m24, .ref m25, .ref m26, .ref m27, .ref m28, .ref m29, .ref m30, .ref m31, .ref m32, .ref m33, .ref m34, .int 0, .int 0, .ref m37, .ref m38, .ref m39, .ref m40, .ref m41, .ref m42, .ref m43, .ref m44, .ref m45, .ref m46])), (m1, .inl (k_tape, 200, .inl f_11))] H := hP
  have hD : va_D A [(h0, .inr (9, [.int 0, .ref m1, .int 19, .int 0, .int 0, .ref m5, .ref m6, .ref m7, .int 0, .int 0, .int 0, .int 0, .int 0, .int 0, .long 0, .ref m15, .ref m16, .ref m17, .ref m18, .ref m19, .ref m20, .int 0, .ref m22, .ref m23, .ref m24, .ref m25, .ref m26, .ref m27, .ref m28, .ref m29, .ref m30, .ref m31, .ref m32, .ref m33, .ref m34, .int 0, .int 0, .ref m37, .ref m38, .ref m39, .ref m40, .ref m41, .ref m42, .ref m43, .ref m44, .ref m45, .ref m46])), (m1, .inl (k_tape, 200, .inl f_11))] := hD
  refine lv_iinc (v := 0) (lv' := [(2, .int 0), (0, .ref h0), (1, .int p0)]) hx hb dX9_four_30 hl (k := 0) rfl (by decide) (by decide) rfl (fun ls hl => ?_)
  refine lv_goto (tgt := 3) hx hb dX9_four_33 (by decide) ?_
  refine lv_iload_n hx hb dX9_four_3 rfl (lv_at hl 0 rfl) ?_
  refine lv_if_lt (tgt := 36) hx hb dX9_four_4 (by decide) (fun c_13 => by first | exact absurd c_13 (by decide) | exact absurd (by decide) c_13) (fun _ => ?_)
  refine lv_aload_n hx hb dX9_four_7 rfl (lv_at hl 1 rfl) ?_
  refine va_get (D := (dC, dI)) (ci := 9) (v := .ref m1) (C := RX9) (T := TX9) (N := 47) hx hb hts hin9 hown hK hP 0 rfl rfl 1 (by decide) (hts (.fieldLink RX9 7 "YamRidersModel" "tape" "[B") (by decide +kernel)) (fun _ h9 => h9) rfl dX9_four_8 ?_
  refine lv_aload_n hx hb dX9_four_11 rfl (lv_at hl 1 rfl) ?_
  refine va_get (D := (dC, dI)) (ci := 9) (v := .int 19) (C := RX9) (T := TX9) (N := 47) hx hb hts hin9 hown hK hP 0 rfl rfl 2 (by decide) (hts (.fieldLink RX9 115 "YamRidersModel" "length" "I") (by decide +kernel)) (fun _ h9 => h9) rfl dX9_four_12 ?_
  refine lv_iload_n hx hb dX9_four_15 rfl (lv_at hl 2 rfl) ?_
  refine lv_iload_n hx hb dX9_four_16 rfl (lv_at hl 0 rfl) ?_
  refine lv_ishr hx hb dX9_four_17 ?_
  refine lv_i2b hx hb dX9_four_18 rfl ?_
  refine lv_topi (fun v_14 ev_14 => ?_)
  refine va_bast hx hb hK hP hD hS 1 0 rfl rfl (by unfold vp_in; decide) dX9_four_19 (fun H locs hP hD hS => ?_)
  have hP : va_P (dC, dI) vwCl [(h0, .inr (9, [.int 0, .ref m1, .int 19, .int 0, .int 0, .ref m5, .ref m6, .ref m7, .int 0, .int 0, .int 0, .int 0, .int 0, .int 0, .long 0, .ref m15, .ref m16, .ref m17, .ref m18, .ref m19, .ref m20, .int 0, .ref m22, .ref m23, .ref m24, .ref m25, .ref m26, .ref m27, .ref m28, .ref m29, .ref m30, .ref m31, .ref m32, .ref m33, .ref m34, .int 0, .int 0, .ref m37, .ref m38, .ref m39, .ref m40, .ref m41, .ref m42, .ref m43, .ref m44, .ref m45, .ref m46])), (m1, .inl (k_tape, 200, .inl (upd f_11 (19 : Int32).toNatClampNeg (vp_nar .byte v_14))))] H := hP
  have hD : va_D A [(h0, .inr (9, [.int 0, .ref m1, .int 19, .int 0, .int 0, .ref m5, .ref m6, .ref m7, .int 0, .int 0, .int 0, .int 0, .int 0, .int 0, .long 0, .ref m15, .ref m16, .ref m17, .ref m18, .ref m19, .ref m20, .int 0, .ref m22, .ref m23, .ref m24, .ref m25, .ref m26, .ref m27, .ref m28, .ref m29, .ref m30, .ref m31, .ref m32, .ref m33, .ref m34, .int 0, .int 0, .ref m37, .ref m38, .ref m39, .ref m40, .ref m41, .ref m42, .ref m43, .ref m44, .ref m45, .ref m46])), (m1, .inl (k_tape, 200, .inl (upd f_11 (19 : Int32).toNatClampNeg (vp_nar .byte v_14))))] := hD
  obtain ⟨f_15, ef_15⟩ : ∃ w9 : Nat → Int32, w9 = upd f_11 (19 : Int32).toNatClampNeg (vp_nar .byte v_14) := ⟨_, rfl⟩
  rw [← ef_15] at hP hD
  refine lv_aload_n hx hb dX9_four_20 rfl (lv_at hl 1 rfl) ?_
  refine lv_dup hx hb dX9_four_21 rfl ?_
  refine va_get (D := (dC, dI)) (ci := 9) (v := .int 19) (C := RX9) (T := TX9) (N := 47) hx hb hts hin9 hown hK hP 0 rfl rfl 2 (by decide) (hts (.fieldLink RX9 115 "YamRidersModel" "length" "I") (by decide +kernel)) (fun _ h9 => h9) rfl dX9_four_22 ?_
  refine lv_iconst (v := 1) hx hb dX9_four_25 (by decide) ?_
  refine lv_iadd hx hb dX9_four_26 ?_
  refine lv_topi (fun y_16 ey_16 => ?_)
  obtain rfl : y_16 = 20 := ey_16.trans (by decide)
  refine va_put (D := (dC, dI)) (ci := 9) (v := .int 20) (ty := (tyX9 2)) (C := RX9) (T := TX9) (N := 47) hx hb hts hin9 tyX9 tyX9_ok nmX9 hown hK hP hD hS 0 rfl rfl 2 (by decide) (hts (.fieldLink RX9 115 "YamRidersModel" "length" "I") (by decide +kernel)) (fun _ h9 => h9) rfl (by decide +kernel) rfl rfl (Nat.le_of_ble_eq_true rfl) dX9_four_27 (fun H locs hP hD hS => ?_)
  have hP : va_P (dC, dI) vwCl [(h0, .inr (9, [.int 0, .ref m1, .int 20, .int 0, .int 0, .ref m5, .ref m6, .ref m7, .int 0, .int 0, .int 0, .int 0, .int 0, .int 0, .long 0, .ref m15, .ref m16, .ref m17, .ref m18, .ref m19, .ref m20, .int 0, .ref m22, .ref m23, .ref m24, .ref m25, .ref m26, .ref m27, .ref m28, .ref m29, .ref m30, .ref m31, .ref m32, .ref m33, .ref m34, .int 0, .int 0, .ref m37, .ref m38, .ref m39, .ref m40, .ref m41, .ref m42, .ref m43, .ref m44, .ref m45, .ref m46])), (m1, .inl (k_tape, 200, .inl f_15))] H := hP
  have hD : va_D A [(h0, .inr (9, [.int 0, .ref m1, .int 20, .int 0, .int 0, .ref m5, .ref m6, .ref m7, .int 0, .int 0, .int 0, .int 0, .int 0, .int 0, .long 0, .ref m15, .ref m16, .ref m17, .ref m18, .ref m19, .ref m20, .int 0, .ref m22, .ref m23, .ref m24, .ref m25, .ref m26, .ref m27, .ref m28, .ref m29, .ref m30, .ref m31, .ref m32, .ref m33, .ref m34, .int 0, .int 0, .ref m37, .ref m38, .ref m39, .ref m40, .ref m41, .ref m42, .ref m43, .ref m44, .ref m45, .ref m46])), (m1, .inl (k_tape, 200, .inl f_15))] := hD
  refine lv_iinc (v := (-8)) (lv' := [(2, .int (-8)), (0, .ref h0), (1, .int p0)]) hx hb dX9_four_30 hl (k := 0) rfl (by decide) (by decide) rfl (fun ls hl => ?_)
  refine lv_goto (tgt := 3) hx hb dX9_four_33 (by decide) ?_
  refine lv_iload_n hx hb dX9_four_3 rfl (lv_at hl 0 rfl) ?_
  refine lv_if_lt (tgt := 36) hx hb dX9_four_4 (by decide) (fun _ => ?_) (fun c_17 => by first | exact absurd c_17 (by decide) | exact absurd (by decide) c_17)
  have hP9 := hP.sub (ws' := [(h0, .inr (9, [.int 0, .ref m1, .int 20, .int 0, .int 0, .ref m5, .ref m6, .ref m7, .int 0, .int 0, .int 0, .int 0, .int 0, .int 0, .long 0, .ref m15, .ref m16, .ref m17, .ref m18, .ref m19, .ref m20, .int 0, .ref m22, .ref m23, .ref m24, .ref m25, .ref m26, .ref m27, .ref m28, .ref m29, .ref m30, .ref m31, .ref m32, .ref m33, .ref m34, .int 0, .int 0, .ref m37, .ref m38, .ref m39, .ref m40, .ref m41, .ref m42, .ref m43, .ref m44, .ref m45, .ref m46])), (m1, .inl (k_tape, 200, .inl f_15))]) [0, 1] rfl
  have hD9 := hD.sub (ws' := [(h0, .inr (9, [.int 0, .ref m1, .int 20, .int 0, .int 0, .ref m5, .ref m6, .ref m7, .int 0, .int 0, .int 0, .int 0, .int 0, .int 0, .long 0, .ref m15, .ref m16, .ref m17, .ref m18, .ref m19, .ref m20, .int 0, .ref m22, .ref m23, .ref m24, .ref m25, .ref m26, .ref m27, .ref m28, .ref m29, .ref m30, .ref m31, .ref m32, .ref m33, .ref m34, .int 0, .int 0, .ref m37, .ref m38, .ref m39, .ref m40, .ref m41, .ref m42, .ref m43, .ref m44, .ref m45, .ref m46])), (m1, .inl (k_tape, 200, .inl f_15))]) [0, 1] (by decide) rfl
  have hK9 := hK.sub (tys' := []) [] rfl
  refine W.widen (k := 0) (n := 0) (Nat.le_of_ble_eq_true rfl) (Nat.le_of_ble_eq_true rfl) ?_
  exact W.vret hx hb hr (fun t9 ht hW => ⟨⟨(), rfl, trivial, f_15, by rw [ht]; exact hP9, va_K.moved hW.alike hK9, hD9⟩, hS.F ht⟩) hS.2.2 dX9_four_36

set_option maxHeartbeats 4000000 in
set_option maxRecDepth 100000 in
theorem c_X9_feed (l : Launch) (dC : Nat → ClassId) (dI : Nat → Nat → Nat) (h0 : Nat) (m1 : Nat) (m5 : Nat) (m6 : Nat) (m7 : Nat) (m15 : Nat) (m16 : Nat) (m17 : Nat) (m18 : Nat) (m19 : Nat) (m20 : Nat) (m22 : Nat) (m23 : Nat) (m24 : Nat) (m25 : Nat) (m26 : Nat) (m27 : Nat) (m28 : Nat) (m29 : Nat) (m30 : Nat) (m31 : Nat) (m32 : Nat) (m33 : Nat) (m34 : Nat) (m37 : Nat) (m38 : Nat) (m39 : Nat) (m40 : Nat) (m41 : Nat) (m42 : Nat) (m43 : Nat) (m44 : Nat) (m45 : Nat) (m46 : Nat) (k_tape : ClassId) (p0 : Int32) (p1 : Int32) (p2 : Int32) (p3 : Int32) (p4 : Int32) (sz : Nat) : Met l yX9_feed wsX9_feed ({ frames := 1, cells := 0, slots := 0, locals := 22 }) (va_Pc [.ref h0, .int p0, .int p1, .int p2, .int p3, .int p4] (cP dC dI [(h0, .inr (9, [.int 0, .ref m1, .int 0, .int 0, .int 0, .ref m5, .ref m6, .ref m7, .int 0, .int 0, .int 0, .int 0, .int 0, .int 0, .long 0, .ref m15, .ref m16, .ref m17, .ref m18, .ref m19, .ref m20, .int 0, .ref m22, .ref m23, .ref m24, .ref m25, .ref m26, .ref m27, .ref m28, .ref m29, .ref m30, .ref m31, .ref m32, .ref m33, .ref m34, .int 0, .int 0, .ref m37, .ref m38, .ref m39, .ref m40, .ref m41, .ref m42, .ref m43, .ref m44, .ref m45, .ref m46])), (m1, .inl (k_tape, 200, .inl (fun _ => 0)))] [(k_tape, .byte)] sz)) (va_Qi (fun (r : Int32) (_ : Unit) => r = 20) (fun (_ : Unit) t9 => cQ dC dI [] [] (va_A [(h0, .inr (9, [.int 0, .ref m1, .int 0, .int 0, .int 0, .ref m5, .ref m6, .ref m7, .int 0, .int 0, .int 0, .int 0, .int 0, .int 0, .long 0, .ref m15, .ref m16, .ref m17, .ref m18, .ref m19, .ref m20, .int 0, .ref m22, .ref m23, .ref m24, .ref m25, .ref m26, .ref m27, .ref m28, .ref m29, .ref m30, .ref m31, .ref m32, .ref m33, .ref m34, .int 0, .int 0, .ref m37, .ref m38, .ref m39, .ref m40, .ref m41, .ref m42, .ref m43, .ref m44, .ref m45, .ref m46])), (m1, .inl (k_tape, 200, .inl (fun _ => 0)))] sz) t9) (va_A [(h0, .inr (9, [.int 0, .ref m1, .int 0, .int 0, .int 0, .ref m5, .ref m6, .ref m7, .int 0, .int 0, .int 0, .int 0, .int 0, .int 0, .long 0, .ref m15, .ref m16, .ref m17, .ref m18, .ref m19, .ref m20, .int 0, .ref m22, .ref m23, .ref m24, .ref m25, .ref m26, .ref m27, .ref m28, .ref m29, .ref m30, .ref m31, .ref m32, .ref m33, .ref m34, .int 0, .int 0, .ref m37, .ref m38, .ref m39, .ref m40, .ref m41, .ref m42, .ref m43, .ref m44, .ref m45, .ref m46])), (m1, .inl (k_tape, 200, .inl (fun _ => 0)))] sz)) 0 0 (va_A [(h0, .inr (9, [.int 0, .ref m1, .int 0, .int 0, .int 0, .ref m5, .ref m6, .ref m7, .int 0, .int 0, .int 0, .int 0, .int 0, .int 0, .long 0, .ref m15, .ref m16, .ref m17, .ref m18, .ref m19, .ref m20, .int 0, .ref m22, .ref m23, .ref m24, .ref m25, .ref m26, .ref m27, .ref m28, .ref m29, .ref m30, .ref m31, .ref m32, .ref m33, .ref m34, .int 0, .int 0, .ref m37, .ref m38, .ref m39, .ref m40, .ref m41, .ref m42, .ref m43, .ref m44, .ref m45, .ref m46])), (m1, .inl (k_tape, 200, .inl (fun _ => 0)))] sz) := by
  refine Met.ofW (cc := cX9_feed) (maxL := 6) (ret := (some .int)) (by decide) rfl ?_
  intro p e s m args below meth c s₁ B hml hv
  obtain ⟨rfl, hsz, hP, hK, hD0, hN⟩ := hv
  have hx := B.exec
  have hb := B.bytes
  have hr := B.returns
  have hts := atoms_spec (ws := wsX9_feed) B.pre
  have hown : s.vm.findClass RX9 = some m.cls := findClass_of_methodNamed B.named
  have hlocks := B.notSynchronized
  subst hsz
  have hin9 : ∀ w ∈ u_ws RX9 TX9 47, w ∈ wsX9_feed := by decide +kernel
  have hD := hD0.self (sz := s.heap.size)
  generalize hAe : va_A [(h0, .inr (9, [.int 0, .ref m1, .int 0, .int 0, .int 0, .ref m5, .ref m6, .ref m7, .int 0, .int 0, .int 0, .int 0, .int 0, .int 0, .long 0, .ref m15, .ref m16, .ref m17, .ref m18, .ref m19, .ref m20, .int 0, .ref m22, .ref m23, .ref m24, .ref m25, .ref m26, .ref m27, .ref m28, .ref m29, .ref m30, .ref m31, .ref m32, .ref m33, .ref m34, .int 0, .int 0, .ref m37, .ref m38, .ref m39, .ref m40, .ref m41, .ref m42, .ref m43, .ref m44, .ref m45, .ref m46])), (m1, .inl (k_tape, 200, .inl (fun _ => 0)))] s.heap.size = A at hD ⊢
  have hA : ∀ q : Nat, s.heap.size ≤ q → A q := fun q h => by rw [← hAe]; exact Or.inr h
  have hS : va_S A s.heap s.heap [] := va_S.rf
  have hP : va_P (dC, dI) vwCl [(h0, .inr (9, [.int 0, .ref m1, .int 0, .int 0, .int 0, .ref m5, .ref m6, .ref m7, .int 0, .int 0, .int 0, .int 0, .int 0, .int 0, .long 0, .ref m15, .ref m16, .ref m17, .ref m18, .ref m19, .ref m20, .int 0, .ref m22, .ref m23, .ref m24, .ref m25, .ref m26, .ref m27, .ref m28, .ref m29, .ref m30, .ref m31, .ref m32, .ref m33, .ref m34, .int 0, .int 0, .ref m37, .ref m38, .ref m39, .ref m40, .ref m41, .ref m42, .ref m43, .ref m44, .ref m45, .ref m46])), (m1, .inl (k_tape, 200, .inl (fun _ => 0)))] s.heap := hP
  have hl := lv_entry ([.ref h0, .int p0, .int p1, .int p2, .int p3, .int p4]) (n := 6) (Nat.le_of_ble_eq_true rfl)
  rw [lg_entry_eq]
  generalize (lg_sl ([.ref h0, .int p0, .int p1, .int p2, .int p3, .int p4]) ++ List.replicate (6 - (lg_sl ([.ref h0, .int p0, .int p1, .int p2, .int p3, .int p4])).length) Slot.unset).toArray = ls at hl ⊢
  have hl : lv_has ls 6 [(0, .ref h0), (1, .int p0), (2, .int p1), (3, .int p2), (4, .int p3), (5, .int p4)] := hl
  refine lv_aload_n hx hb dX9_feed_0 rfl (lv_at hl 0 rfl) ?_
  refine lv_iconst (v := 0) hx hb dX9_feed_1 (by decide) ?_
  refine va_put (D := (dC, dI)) (ci := 9) (v := .int 0) (ty := (tyX9 0)) (C := RX9) (T := TX9) (N := 47) hx hb hts hin9 tyX9 tyX9_ok nmX9 hown hK hP hD hS 0 rfl rfl 0 (by decide) (hts (.fieldLink RX9 111 "YamRidersModel" "thrown" "I") (by decide +kernel)) (fun _ h9 => h9) rfl (by decide +kernel) rfl rfl (Nat.le_of_ble_eq_true rfl) dX9_feed_2 (fun H locs hP hD hS => ?_)
  have hP : va_P (dC, dI) vwCl [(h0, .inr (9, [.int 0, .ref m1, .int 0, .int 0, .int 0, .ref m5, .ref m6, .ref m7, .int 0, .int 0, .int 0, .int 0, .int 0, .int 0, .long 0, .ref m15, .ref m16, .ref m17, .ref m18, .ref m19, .ref m20, .int 0, .ref m22, .ref m23, .ref m24, .ref m25, .ref m26, .ref m27, .ref m28, .ref m29, .ref m30, .ref m31, .ref m32, .ref m33, .ref m34, .int 0, .int 0, .ref m37, .ref m38, .ref m39, .ref m40, .ref m41, .ref m42, .ref m43, .ref m44, .ref m45, .ref m46])), (m1, .inl (k_tape, 200, .inl (fun _ => 0)))] H := hP
  have hD : va_D A [(h0, .inr (9, [.int 0, .ref m1, .int 0, .int 0, .int 0, .ref m5, .ref m6, .ref m7, .int 0, .int 0, .int 0, .int 0, .int 0, .int 0, .long 0, .ref m15, .ref m16, .ref m17, .ref m18, .ref m19, .ref m20, .int 0, .ref m22, .ref m23, .ref m24, .ref m25, .ref m26, .ref m27, .ref m28, .ref m29, .ref m30, .ref m31, .ref m32, .ref m33, .ref m34, .int 0, .int 0, .ref m37, .ref m38, .ref m39, .ref m40, .ref m41, .ref m42, .ref m43, .ref m44, .ref m45, .ref m46])), (m1, .inl (k_tape, 200, .inl (fun _ => 0)))] := hD
  refine lv_aload_n hx hb dX9_feed_5 rfl (lv_at hl 0 rfl) ?_
  refine va_get (D := (dC, dI)) (ci := 9) (v := .int 0) (C := RX9) (T := TX9) (N := 47) hx hb hts hin9 hown hK hP 0 rfl rfl 2 (by decide) (hts (.fieldLink RX9 115 "YamRidersModel" "length" "I") (by decide +kernel)) (fun _ h9 => h9) rfl dX9_feed_6 ?_
  refine lv_bipush (v := 20) hx hb dX9_feed_9 (by decide) ?_
  refine lv_iadd hx hb dX9_feed_11 ?_
  refine lv_topi (fun y_1 ey_1 => ?_)
  obtain rfl : y_1 = 20 := ey_1.trans (by decide)
  refine lv_sipush (v := 200) hx hb dX9_feed_12 (by decide) ?_
  refine lv_icmp_le (tgt := 20) hx hb dX9_feed_15 (by decide) (fun _ => ?_) (fun c_2 => by first | exact absurd c_2 (by decide) | exact absurd (by decide) c_2)
  refine lv_aload_n hx hb dX9_feed_20 rfl (lv_at hl 0 rfl) ?_
  refine lv_iload_n hx hb dX9_feed_21 rfl (lv_at hl 1 rfl) ?_
  have hPc := hP.sub (ws' := [(h0, .inr (9, [.int 0, .ref m1, .int 0, .int 0, .int 0, .ref m5, .ref m6, .ref m7, .int 0, .int 0, .int 0, .int 0, .int 0, .int 0, .long 0, .ref m15, .ref m16, .ref m17, .ref m18, .ref m19, .ref m20, .int 0, .ref m22, .ref m23, .ref m24, .ref m25, .ref m26, .ref m27, .ref m28, .ref m29, .ref m30, .ref m31, .ref m32, .ref m33, .ref m34, .int 0, .int 0, .ref m37, .ref m38, .ref m39, .ref m40, .ref m41, .ref m42, .ref m43, .ref m44, .ref m45, .ref m46])), (m1, .inl (k_tape, 200, .inl (fun _ => 0)))]) [0, 1] rfl
  have hDc := hD.sub (ws' := [(h0, .inr (9, [.int 0, .ref m1, .int 0, .int 0, .int 0, .ref m5, .ref m6, .ref m7, .int 0, .int 0, .int 0, .int 0, .int 0, .int 0, .long 0, .ref m15, .ref m16, .ref m17, .ref m18, .ref m19, .ref m20, .int 0, .ref m22, .ref m23, .ref m24, .ref m25, .ref m26, .ref m27, .ref m28, .ref m29, .ref m30, .ref m31, .ref m32, .ref m33, .ref m34, .int 0, .int 0, .ref m37, .ref m38, .ref m39, .ref m40, .ref m41, .ref m42, .ref m43, .ref m44, .ref m45, .ref m46])), (m1, .inl (k_tape, 200, .inl (fun _ => 0)))]) [0, 1] (by decide) rfl
  have hKc := hK.sub (tys' := [(k_tape, .byte)]) [0] rfl
  have hFc := va_free (wc := [(h0, .inr (9, [.int 0, .ref m1, .int 0, .int 0, .int 0, .ref m5, .ref m6, .ref m7, .int 0, .int 0, .int 0, .int 0, .int 0, .int 0, .long 0, .ref m15, .ref m16, .ref m17, .ref m18, .ref m19, .ref m20, .int 0, .ref m22, .ref m23, .ref m24, .ref m25, .ref m26, .ref m27, .ref m28, .ref m29, .ref m30, .ref m31, .ref m32, .ref m33, .ref m34, .int 0, .int 0, .ref m37, .ref m38, .ref m39, .ref m40, .ref m41, .ref m42, .ref m43, .ref m44, .ref m45, .ref m46])), (m1, .inl (k_tape, 200, .inl (fun _ => 0)))]) hD hS hA [0, 1] rfl
  refine va_callv (va_runV (As := [.int p0]) (rest := []) ⟨hx, hb, hml, hown, hts⟩ (c_X9_four_0 l dC dI h0 m1 m5 m6 m7 m15 m16 m17 m18 m19 m20 m22 m23 m24 m25 m26 m27 m28 m29 m30 m31 m32 m33 m34 m37 m38 m39 m40 m41 m42 m43 m44 m45 m46 k_tape (fun _ => 0) p0 H.size) (cwV 1 hts gX9_feed_X9_four rfl rfl rfl (by decide +kernel) ⟨Nat.le_of_ble_eq_true rfl, Nat.le_of_ble_eq_true rfl⟩) ⟨c_blind, va_recv hKc hPc (ci := 9) (q0 := 0) rfl rfl, c_pre hPc hKc hDc hN⟩ rfl rfl hl.1 rfl (lv_room (Nat.le_of_ble_eq_true rfl)) dX9_feed_22 ⟨Nat.le_of_ble_eq_true rfl, Nat.le_of_ble_eq_true rfl⟩) hS (fun q _ h => hFc q h) hFc (fun u9 t9 H1 locs ht hvm hw hB hz1 hk1 hS => ?_)
  obtain ⟨f_4, hP1, hK1, hD1⟩ := hB
  rw [ht] at hP1
  have hK1 := va_K.moved hvm.symm hK1
  obtain ⟨hP, hD⟩ := va_join (wr := []) (w1 := [(h0, .inr (9, [.int 0, .ref m1, .int 4, .int 0, .int 0, .ref m5, .ref m6, .ref m7, .int 0, .int 0, .int 0, .int 0, .int 0, .int 0, .long 0, .ref m15, .ref m16, .ref m17, .ref m18, .ref m19, .ref m20, .int 0, .ref m22, .ref m23, .ref m24, .ref m25, .ref m26, .ref m27, .ref m28, .ref m29, .ref m30, .ref m31, .ref m32, .ref m33, .ref m34, .int 0, .int 0, .ref m37, .ref m38, .ref m39, .ref m40, .ref m41, .ref m42, .ref m43, .ref m44, .ref m45, .ref m46])), (m1, .inl (k_tape, 200, .inl f_4))]) hP hD [0, 1] [] rfl rfl (by decide) (by decide) hk1 hFc hP1 hD1
  have hK := (hK.sub (tys' := [(k_tape, .byte)]) [0] rfl).app hK1
  generalize H1 = H at hP hS ⊢
  have hK : va_K (dC, dI) vwCl [(k_tape, .byte)] s := hK
  have hP : va_P (dC, dI) vwCl [(h0, .inr (9, [.int 0, .ref m1, .int 4, .int 0, .int 0, .ref m5, .ref m6, .ref m7, .int 0, .int 0, .int 0, .int 0, .int 0, .int 0, .long 0, .ref m15, .ref m16, .ref m17, .ref m18, .ref m19, .ref m20, .int 0, .ref m22, .ref m23, .ref m24, .ref m25, .ref m26, .ref m27, .ref m28, .ref m29, .ref m30, .ref m31, .ref m32, .ref m33, .ref m34, .int 0, .int 0, .ref m37, .ref m38, .ref m39, .ref m40, .ref m41, .ref m42, .ref m43, .ref m44, .ref m45, .ref m46])), (m1, .inl (k_tape, 200, .inl f_4))] H := hP
  have hD : va_D A [(h0, .inr (9, [.int 0, .ref m1, .int 4, .int 0, .int 0, .ref m5, .ref m6, .ref m7, .int 0, .int 0, .int 0, .int 0, .int 0, .int 0, .long 0, .ref m15, .ref m16, .ref m17, .ref m18, .ref m19, .ref m20, .int 0, .ref m22, .ref m23, .ref m24, .ref m25, .ref m26, .ref m27, .ref m28, .ref m29, .ref m30, .ref m31, .ref m32, .ref m33, .ref m34, .int 0, .int 0, .ref m37, .ref m38, .ref m39, .ref m40, .ref m41, .ref m42, .ref m43, .ref m44, .ref m45, .ref m46])), (m1, .inl (k_tape, 200, .inl f_4))] := hD
  refine W.widen (k := 0) (n := 0) (Nat.le_of_ble_eq_true rfl) (Nat.le_of_ble_eq_true rfl) ?_
  refine lv_aload_n hx hb dX9_feed_25 rfl (lv_at hl 0 rfl) ?_
  refine lv_iload_n hx hb dX9_feed_26 rfl (lv_at hl 2 rfl) ?_
  have hPc := hP.sub (ws' := [(h0, .inr (9, [.int 0, .ref m1, .int 4, .int 0, .int 0, .ref m5, .ref m6, .ref m7, .int 0, .int 0, .int 0, .int 0, .int 0, .int 0, .long 0, .ref m15, .ref m16, .ref m17, .ref m18, .ref m19, .ref m20, .int 0, .ref m22, .ref m23, .ref m24, .ref m25, .ref m26, .ref m27, .ref m28, .ref m29, .ref m30, .ref m31, .ref m32, .ref m33, .ref m34, .int 0, .int 0, .ref m37, .ref m38, .ref m39, .ref m40, .ref m41, .ref m42, .ref m43, .ref m44, .ref m45, .ref m46])), (m1, .inl (k_tape, 200, .inl f_4))]) [0, 1] rfl
  have hDc := hD.sub (ws' := [(h0, .inr (9, [.int 0, .ref m1, .int 4, .int 0, .int 0, .ref m5, .ref m6, .ref m7, .int 0, .int 0, .int 0, .int 0, .int 0, .int 0, .long 0, .ref m15, .ref m16, .ref m17, .ref m18, .ref m19, .ref m20, .int 0, .ref m22, .ref m23, .ref m24, .ref m25, .ref m26, .ref m27, .ref m28, .ref m29, .ref m30, .ref m31, .ref m32, .ref m33, .ref m34, .int 0, .int 0, .ref m37, .ref m38, .ref m39, .ref m40, .ref m41, .ref m42, .ref m43, .ref m44, .ref m45, .ref m46])), (m1, .inl (k_tape, 200, .inl f_4))]) [0, 1] (by decide) rfl
  have hKc := hK.sub (tys' := [(k_tape, .byte)]) [0] rfl
  have hFc := va_free (wc := [(h0, .inr (9, [.int 0, .ref m1, .int 4, .int 0, .int 0, .ref m5, .ref m6, .ref m7, .int 0, .int 0, .int 0, .int 0, .int 0, .int 0, .long 0, .ref m15, .ref m16, .ref m17, .ref m18, .ref m19, .ref m20, .int 0, .ref m22, .ref m23, .ref m24, .ref m25, .ref m26, .ref m27, .ref m28, .ref m29, .ref m30, .ref m31, .ref m32, .ref m33, .ref m34, .int 0, .int 0, .ref m37, .ref m38, .ref m39, .ref m40, .ref m41, .ref m42, .ref m43, .ref m44, .ref m45, .ref m46])), (m1, .inl (k_tape, 200, .inl f_4))]) hD hS hA [0, 1] rfl
  refine va_callv (va_runV (As := [.int p1]) (rest := []) ⟨hx, hb, hml, hown, hts⟩ (c_X9_four_4 l dC dI h0 m1 m5 m6 m7 m15 m16 m17 m18 m19 m20 m22 m23 m24 m25 m26 m27 m28 m29 m30 m31 m32 m33 m34 m37 m38 m39 m40 m41 m42 m43 m44 m45 m46 k_tape f_4 p1 H.size) (cwV 1 hts gX9_feed_X9_four rfl rfl rfl (by decide +kernel) ⟨Nat.le_of_ble_eq_true rfl, Nat.le_of_ble_eq_true rfl⟩) ⟨c_blind, va_recv hKc hPc (ci := 9) (q0 := 0) rfl rfl, c_pre hPc hKc hDc hN⟩ rfl rfl hl.1 rfl (lv_room (Nat.le_of_ble_eq_true rfl)) dX9_feed_27 ⟨Nat.le_of_ble_eq_true rfl, Nat.le_of_ble_eq_true rfl⟩) hS (fun q _ h => hFc q h) hFc (fun u9 t9 H1 locs ht hvm hw hB hz1 hk1 hS => ?_)
  obtain ⟨f_6, hP1, hK1, hD1⟩ := hB
  rw [ht] at hP1
  have hK1 := va_K.moved hvm.symm hK1
  obtain ⟨hP, hD⟩ := va_join (wr := []) (w1 := [(h0, .inr (9, [.int 0, .ref m1, .int 8, .int 0, .int 0, .ref m5, .ref m6, .ref m7, .int 0, .int 0, .int 0, .int 0, .int 0, .int 0, .long 0, .ref m15, .ref m16, .ref m17, .ref m18, .ref m19, .ref m20, .int 0, .ref m22, .ref m23, .ref m24, .ref m25, .ref m26, .ref m27, .ref m28, .ref m29, .ref m30, .ref m31, .ref m32, .ref m33, .ref m34, .int 0, .int 0, .ref m37, .ref m38, .ref m39, .ref m40, .ref m41, .ref m42, .ref m43, .ref m44, .ref m45, .ref m46])), (m1, .inl (k_tape, 200, .inl f_6))]) hP hD [0, 1] [] rfl rfl (by decide) (by decide) hk1 hFc hP1 hD1
  have hK := (hK.sub (tys' := [(k_tape, .byte)]) [0] rfl).app hK1
  generalize H1 = H at hP hS ⊢
  have hK : va_K (dC, dI) vwCl [(k_tape, .byte)] s := hK
  have hP : va_P (dC, dI) vwCl [(h0, .inr (9, [.int 0, .ref m1, .int 8, .int 0, .int 0, .ref m5, .ref m6, .ref m7, .int 0, .int 0, .int 0, .int 0, .int 0, .int 0, .long 0, .ref m15, .ref m16, .ref m17, .ref m18, .ref m19, .ref m20, .int 0, .ref m22, .ref m23, .ref m24, .ref m25, .ref m26, .ref m27, .ref m28, .ref m29, .ref m30, .ref m31, .ref m32, .ref m33, .ref m34, .int 0, .int 0, .ref m37, .ref m38, .ref m39, .ref m40, .ref m41, .ref m42, .ref m43, .ref m44, .ref m45, .ref m46])), (m1, .inl (k_tape, 200, .inl f_6))] H := hP
  have hD : va_D A [(h0, .inr (9, [.int 0, .ref m1, .int 8, .int 0, .int 0, .ref m5, .ref m6, .ref m7, .int 0, .int 0, .int 0, .int 0, .int 0, .int 0, .long 0, .ref m15, .ref m16, .ref m17, .ref m18, .ref m19, .ref m20, .int 0, .ref m22, .ref m23, .ref m24, .ref m25, .ref m26, .ref m27, .ref m28, .ref m29, .ref m30, .ref m31, .ref m32, .ref m33, .ref m34, .int 0, .int 0, .ref m37, .ref m38, .ref m39, .ref m40, .ref m41, .ref m42, .ref m43, .ref m44, .ref m45, .ref m46])), (m1, .inl (k_tape, 200, .inl f_6))] := hD
  refine W.widen (k := 0) (n := 0) (Nat.le_of_ble_eq_true rfl) (Nat.le_of_ble_eq_true rfl) ?_
  refine lv_aload_n hx hb dX9_feed_30 rfl (lv_at hl 0 rfl) ?_
  refine lv_iload_n hx hb dX9_feed_31 rfl (lv_at hl 3 rfl) ?_
  have hPc := hP.sub (ws' := [(h0, .inr (9, [.int 0, .ref m1, .int 8, .int 0, .int 0, .ref m5, .ref m6, .ref m7, .int 0, .int 0, .int 0, .int 0, .int 0, .int 0, .long 0, .ref m15, .ref m16, .ref m17, .ref m18, .ref m19, .ref m20, .int 0, .ref m22, .ref m23, .ref m24, .ref m25, .ref m26, .ref m27, .ref m28, .ref m29, .ref m30, .ref m31, .ref m32, .ref m33, .ref m34, .int 0, .int 0, .ref m37, .ref m38, .ref m39, .ref m40, .ref m41, .ref m42, .ref m43, .ref m44, .ref m45, .ref m46])), (m1, .inl (k_tape, 200, .inl f_6))]) [0, 1] rfl
  have hDc := hD.sub (ws' := [(h0, .inr (9, [.int 0, .ref m1, .int 8, .int 0, .int 0, .ref m5, .ref m6, .ref m7, .int 0, .int 0, .int 0, .int 0, .int 0, .int 0, .long 0, .ref m15, .ref m16, .ref m17, .ref m18, .ref m19, .ref m20, .int 0, .ref m22, .ref m23, .ref m24, .ref m25, .ref m26, .ref m27, .ref m28, .ref m29, .ref m30, .ref m31, .ref m32, .ref m33, .ref m34, .int 0, .int 0, .ref m37, .ref m38, .ref m39, .ref m40, .ref m41, .ref m42, .ref m43, .ref m44, .ref m45, .ref m46])), (m1, .inl (k_tape, 200, .inl f_6))]) [0, 1] (by decide) rfl
  have hKc := hK.sub (tys' := [(k_tape, .byte)]) [0] rfl
  have hFc := va_free (wc := [(h0, .inr (9, [.int 0, .ref m1, .int 8, .int 0, .int 0, .ref m5, .ref m6, .ref m7, .int 0, .int 0, .int 0, .int 0, .int 0, .int 0, .long 0, .ref m15, .ref m16, .ref m17, .ref m18, .ref m19, .ref m20, .int 0, .ref m22, .ref m23, .ref m24, .ref m25, .ref m26, .ref m27, .ref m28, .ref m29, .ref m30, .ref m31, .ref m32, .ref m33, .ref m34, .int 0, .int 0, .ref m37, .ref m38, .ref m39, .ref m40, .ref m41, .ref m42, .ref m43, .ref m44, .ref m45, .ref m46])), (m1, .inl (k_tape, 200, .inl f_6))]) hD hS hA [0, 1] rfl
  refine va_callv (va_runV (As := [.int p2]) (rest := []) ⟨hx, hb, hml, hown, hts⟩ (c_X9_four_8 l dC dI h0 m1 m5 m6 m7 m15 m16 m17 m18 m19 m20 m22 m23 m24 m25 m26 m27 m28 m29 m30 m31 m32 m33 m34 m37 m38 m39 m40 m41 m42 m43 m44 m45 m46 k_tape f_6 p2 H.size) (cwV 1 hts gX9_feed_X9_four rfl rfl rfl (by decide +kernel) ⟨Nat.le_of_ble_eq_true rfl, Nat.le_of_ble_eq_true rfl⟩) ⟨c_blind, va_recv hKc hPc (ci := 9) (q0 := 0) rfl rfl, c_pre hPc hKc hDc hN⟩ rfl rfl hl.1 rfl (lv_room (Nat.le_of_ble_eq_true rfl)) dX9_feed_32 ⟨Nat.le_of_ble_eq_true rfl, Nat.le_of_ble_eq_true rfl⟩) hS (fun q _ h => hFc q h) hFc (fun u9 t9 H1 locs ht hvm hw hB hz1 hk1 hS => ?_)
  obtain ⟨f_8, hP1, hK1, hD1⟩ := hB
  rw [ht] at hP1
  have hK1 := va_K.moved hvm.symm hK1
  obtain ⟨hP, hD⟩ := va_join (wr := []) (w1 := [(h0, .inr (9, [.int 0, .ref m1, .int 12, .int 0, .int 0, .ref m5, .ref m6, .ref m7, .int 0, .int 0, .int 0, .int 0, .int 0, .int 0, .long 0, .ref m15, .ref m16, .ref m17, .ref m18, .ref m19, .ref m20, .int 0, .ref m22, .ref m23, .ref m24, .ref m25, .ref m26, .ref m27, .ref m28, .ref m29, .ref m30, .ref m31, .ref m32, .ref m33, .ref m34, .int 0, .int 0, .ref m37, .ref m38, .ref m39, .ref m40, .ref m41, .ref m42, .ref m43, .ref m44, .ref m45, .ref m46])), (m1, .inl (k_tape, 200, .inl f_8))]) hP hD [0, 1] [] rfl rfl (by decide) (by decide) hk1 hFc hP1 hD1
  have hK := (hK.sub (tys' := [(k_tape, .byte)]) [0] rfl).app hK1
  generalize H1 = H at hP hS ⊢
  have hK : va_K (dC, dI) vwCl [(k_tape, .byte)] s := hK
  have hP : va_P (dC, dI) vwCl [(h0, .inr (9, [.int 0, .ref m1, .int 12, .int 0, .int 0, .ref m5, .ref m6, .ref m7, .int 0, .int 0, .int 0, .int 0, .int 0, .int 0, .long 0, .ref m15, .ref m16, .ref m17, .ref m18, .ref m19, .ref m20, .int 0, .ref m22, .ref m23, .ref m24, .ref m25, .ref m26, .ref m27, .ref m28, .ref m29, .ref m30, .ref m31, .ref m32, .ref m33, .ref m34, .int 0, .int 0, .ref m37, .ref m38, .ref m39, .ref m40, .ref m41, .ref m42, .ref m43, .ref m44, .ref m45, .ref m46])), (m1, .inl (k_tape, 200, .inl f_8))] H := hP
  have hD : va_D A [(h0, .inr (9, [.int 0, .ref m1, .int 12, .int 0, .int 0, .ref m5, .ref m6, .ref m7, .int 0, .int 0, .int 0, .int 0, .int 0, .int 0, .long 0, .ref m15, .ref m16, .ref m17, .ref m18, .ref m19, .ref m20, .int 0, .ref m22, .ref m23, .ref m24, .ref m25, .ref m26, .ref m27, .ref m28, .ref m29, .ref m30, .ref m31, .ref m32, .ref m33, .ref m34, .int 0, .int 0, .ref m37, .ref m38, .ref m39, .ref m40, .ref m41, .ref m42, .ref m43, .ref m44, .ref m45, .ref m46])), (m1, .inl (k_tape, 200, .inl f_8))] := hD
  refine W.widen (k := 0) (n := 0) (Nat.le_of_ble_eq_true rfl) (Nat.le_of_ble_eq_true rfl) ?_
  refine lv_aload_n hx hb dX9_feed_35 rfl (lv_at hl 0 rfl) ?_
  refine lv_iload hx hb dX9_feed_36 (lv_at hl 4 rfl) ?_
  have hPc := hP.sub (ws' := [(h0, .inr (9, [.int 0, .ref m1, .int 12, .int 0, .int 0, .ref m5, .ref m6, .ref m7, .int 0, .int 0, .int 0, .int 0, .int 0, .int 0, .long 0, .ref m15, .ref m16, .ref m17, .ref m18, .ref m19, .ref m20, .int 0, .ref m22, .ref m23, .ref m24, .ref m25, .ref m26, .ref m27, .ref m28, .ref m29, .ref m30, .ref m31, .ref m32, .ref m33, .ref m34, .int 0, .int 0, .ref m37, .ref m38, .ref m39, .ref m40, .ref m41, .ref m42, .ref m43, .ref m44, .ref m45, .ref m46])), (m1, .inl (k_tape, 200, .inl f_8))]) [0, 1] rfl
  have hDc := hD.sub (ws' := [(h0, .inr (9, [.int 0, .ref m1, .int 12, .int 0, .int 0, .ref m5, .ref m6, .ref m7, .int 0, .int 0, .int 0, .int 0, .int 0, .int 0, .long 0, .ref m15, .ref m16, .ref m17, .ref m18, .ref m19, .ref m20, .int 0, .ref m22, .ref m23, .ref m24, .ref m25, .ref m26, .ref m27, .ref m28, .ref m29, .ref m30, .ref m31, .ref m32, .ref m33, .ref m34, .int 0, .int 0, .ref m37, .ref m38, .ref m39, .ref m40, .ref m41, .ref m42, .ref m43, .ref m44, .ref m45, .ref m46])), (m1, .inl (k_tape, 200, .inl f_8))]) [0, 1] (by decide) rfl
  have hKc := hK.sub (tys' := [(k_tape, .byte)]) [0] rfl
  have hFc := va_free (wc := [(h0, .inr (9, [.int 0, .ref m1, .int 12, .int 0, .int 0, .ref m5, .ref m6, .ref m7, .int 0, .int 0, .int 0, .int 0, .int 0, .int 0, .long 0, .ref m15, .ref m16, .ref m17, .ref m18, .ref m19, .ref m20, .int 0, .ref m22, .ref m23, .ref m24, .ref m25, .ref m26, .ref m27, .ref m28, .ref m29, .ref m30, .ref m31, .ref m32, .ref m33, .ref m34, .int 0, .int 0, .ref m37, .ref m38, .ref m39, .ref m40, .ref m41, .ref m42, .ref m43, .ref m44, .ref m45, .ref m46])), (m1, .inl (k_tape, 200, .inl f_8))]) hD hS hA [0, 1] rfl
  refine va_callv (va_runV (As := [.int p3]) (rest := []) ⟨hx, hb, hml, hown, hts⟩ (c_X9_four_12 l dC dI h0 m1 m5 m6 m7 m15 m16 m17 m18 m19 m20 m22 m23 m24 m25 m26 m27 m28 m29 m30 m31 m32 m33 m34 m37 m38 m39 m40 m41 m42 m43 m44 m45 m46 k_tape f_8 p3 H.size) (cwV 1 hts gX9_feed_X9_four rfl rfl rfl (by decide +kernel) ⟨Nat.le_of_ble_eq_true rfl, Nat.le_of_ble_eq_true rfl⟩) ⟨c_blind, va_recv hKc hPc (ci := 9) (q0 := 0) rfl rfl, c_pre hPc hKc hDc hN⟩ rfl rfl hl.1 rfl (lv_room (Nat.le_of_ble_eq_true rfl)) dX9_feed_38 ⟨Nat.le_of_ble_eq_true rfl, Nat.le_of_ble_eq_true rfl⟩) hS (fun q _ h => hFc q h) hFc (fun u9 t9 H1 locs ht hvm hw hB hz1 hk1 hS => ?_)
  obtain ⟨f_10, hP1, hK1, hD1⟩ := hB
  rw [ht] at hP1
  have hK1 := va_K.moved hvm.symm hK1
  obtain ⟨hP, hD⟩ := va_join (wr := []) (w1 := [(h0, .inr (9, [.int 0, .ref m1, .int 16, .int 0, .int 0, .ref m5, .ref m6, .ref m7, .int 0, .int 0, .int 0, .int 0, .int 0, .int 0, .long 0, .ref m15, .ref m16, .ref m17, .ref m18, .ref m19, .ref m20, .int 0, .ref m22, .ref m23, .ref m24, .ref m25, .ref m26, .ref m27, .ref m28, .ref m29, .ref m30, .ref m31, .ref m32, .ref m33, .ref m34, .int 0, .int 0, .ref m37, .ref m38, .ref m39, .ref m40, .ref m41, .ref m42, .ref m43, .ref m44, .ref m45, .ref m46])), (m1, .inl (k_tape, 200, .inl f_10))]) hP hD [0, 1] [] rfl rfl (by decide) (by decide) hk1 hFc hP1 hD1
  have hK := (hK.sub (tys' := [(k_tape, .byte)]) [0] rfl).app hK1
  generalize H1 = H at hP hS ⊢
  have hK : va_K (dC, dI) vwCl [(k_tape, .byte)] s := hK
  have hP : va_P (dC, dI) vwCl [(h0, .inr (9, [.int 0, .ref m1, .int 16, .int 0, .int 0, .ref m5, .ref m6, .ref m7, .int 0, .int 0, .int 0, .int 0, .int 0, .int 0, .long 0, .ref m15, .ref m16, .ref m17, .ref m18, .ref m19, .ref m20, .int 0, .ref m22, .ref m23, .ref m24, .ref m25, .ref m26, .ref m27, .ref m28, .ref m29, .ref m30, .ref m31, .ref m32, .ref m33, .ref m34, .int 0, .int 0, .ref m37, .ref m38, .ref m39, .ref m40, .ref m41, .ref m42, .ref m43, .ref m44, .ref m45, .ref m46])), (m1, .inl (k_tape, 200, .inl f_10))] H := hP
  have hD : va_D A [(h0, .inr (9, [.int 0, .ref m1, .int 16, .int 0, .int 0, .ref m5, .ref m6, .ref m7, .int 0, .int 0, .int 0, .int 0, .int 0, .int 0, .long 0, .ref m15, .ref m16, .ref m17, .ref m18, .ref m19, .ref m20, .int 0, .ref m22, .ref m23, .ref m24, .ref m25, .ref m26, .ref m27, .ref m28, .ref m29, .ref m30, .ref m31, .ref m32, .ref m33, .ref m34, .int 0, .int 0, .ref m37, .ref m38, .ref m39, .ref m40, .ref m41, .ref m42, .ref m43, .ref m44, .ref m45, .ref m46])), (m1, .inl (k_tape, 200, .inl f_10))] := hD
  refine W.widen (k := 0) (n := 0) (Nat.le_of_ble_eq_true rfl) (Nat.le_of_ble_eq_true rfl) ?_
  refine lv_aload_n hx hb dX9_feed_41 rfl (lv_at hl 0 rfl) ?_
  refine lv_iload hx hb dX9_feed_42 (lv_at hl 5 rfl) ?_
  have hPc := hP.sub (ws' := [(h0, .inr (9, [.int 0, .ref m1, .int 16, .int 0, .int 0, .ref m5, .ref m6, .ref m7, .int 0, .int 0, .int 0, .int 0, .int 0, .int 0, .long 0, .ref m15, .ref m16, .ref m17, .ref m18, .ref m19, .ref m20, .int 0, .ref m22, .ref m23, .ref m24, .ref m25, .ref m26, .ref m27, .ref m28, .ref m29, .ref m30, .ref m31, .ref m32, .ref m33, .ref m34, .int 0, .int 0, .ref m37, .ref m38, .ref m39, .ref m40, .ref m41, .ref m42, .ref m43, .ref m44, .ref m45, .ref m46])), (m1, .inl (k_tape, 200, .inl f_10))]) [0, 1] rfl
  have hDc := hD.sub (ws' := [(h0, .inr (9, [.int 0, .ref m1, .int 16, .int 0, .int 0, .ref m5, .ref m6, .ref m7, .int 0, .int 0, .int 0, .int 0, .int 0, .int 0, .long 0, .ref m15, .ref m16, .ref m17, .ref m18, .ref m19, .ref m20, .int 0, .ref m22, .ref m23, .ref m24, .ref m25, .ref m26, .ref m27, .ref m28, .ref m29, .ref m30, .ref m31, .ref m32, .ref m33, .ref m34, .int 0, .int 0, .ref m37, .ref m38, .ref m39, .ref m40, .ref m41, .ref m42, .ref m43, .ref m44, .ref m45, .ref m46])), (m1, .inl (k_tape, 200, .inl f_10))]) [0, 1] (by decide) rfl
  have hKc := hK.sub (tys' := [(k_tape, .byte)]) [0] rfl
  have hFc := va_free (wc := [(h0, .inr (9, [.int 0, .ref m1, .int 16, .int 0, .int 0, .ref m5, .ref m6, .ref m7, .int 0, .int 0, .int 0, .int 0, .int 0, .int 0, .long 0, .ref m15, .ref m16, .ref m17, .ref m18, .ref m19, .ref m20, .int 0, .ref m22, .ref m23, .ref m24, .ref m25, .ref m26, .ref m27, .ref m28, .ref m29, .ref m30, .ref m31, .ref m32, .ref m33, .ref m34, .int 0, .int 0, .ref m37, .ref m38, .ref m39, .ref m40, .ref m41, .ref m42, .ref m43, .ref m44, .ref m45, .ref m46])), (m1, .inl (k_tape, 200, .inl f_10))]) hD hS hA [0, 1] rfl
  refine va_callv (va_runV (As := [.int p4]) (rest := []) ⟨hx, hb, hml, hown, hts⟩ (c_X9_four_16 l dC dI h0 m1 m5 m6 m7 m15 m16 m17 m18 m19 m20 m22 m23 m24 m25 m26 m27 m28 m29 m30 m31 m32 m33 m34 m37 m38 m39 m40 m41 m42 m43 m44 m45 m46 k_tape f_10 p4 H.size) (cwV 1 hts gX9_feed_X9_four rfl rfl rfl (by decide +kernel) ⟨Nat.le_of_ble_eq_true rfl, Nat.le_of_ble_eq_true rfl⟩) ⟨c_blind, va_recv hKc hPc (ci := 9) (q0 := 0) rfl rfl, c_pre hPc hKc hDc hN⟩ rfl rfl hl.1 rfl (lv_room (Nat.le_of_ble_eq_true rfl)) dX9_feed_44 ⟨Nat.le_of_ble_eq_true rfl, Nat.le_of_ble_eq_true rfl⟩) hS (fun q _ h => hFc q h) hFc (fun u9 t9 H1 locs ht hvm hw hB hz1 hk1 hS => ?_)
  obtain ⟨f_12, hP1, hK1, hD1⟩ := hB
  rw [ht] at hP1
  have hK1 := va_K.moved hvm.symm hK1
  obtain ⟨hP, hD⟩ := va_join (wr := []) (w1 := [(h0, .inr (9, [.int 0, .ref m1, .int 20, .int 0, .int 0, .ref m5, .ref m6, .ref m7, .int 0, .int 0, .int 0, .int 0, .int 0, .int 0, .long 0, .ref m15, .ref m16, .ref m17, .ref m18, .ref m19, .ref m20, .int 0, .ref m22, .ref m23, .ref m24, .ref m25, .ref m26, .ref m27, .ref m28, .ref m29, .ref m30, .ref m31, .ref m32, .ref m33, .ref m34, .int 0, .int 0, .ref m37, .ref m38, .ref m39, .ref m40, .ref m41, .ref m42, .ref m43, .ref m44, .ref m45, .ref m46])), (m1, .inl (k_tape, 200, .inl f_12))]) hP hD [0, 1] [] rfl rfl (by decide) (by decide) hk1 hFc hP1 hD1
  have hK := (hK.sub (tys' := [(k_tape, .byte)]) [0] rfl).app hK1
  generalize H1 = H at hP hS ⊢
  have hK : va_K (dC, dI) vwCl [(k_tape, .byte)] s := hK
  have hP : va_P (dC, dI) vwCl [(h0, .inr (9, [.int 0, .ref m1, .int 20, .int 0, .int 0, .ref m5, .ref m6, .ref m7, .int 0, .int 0, .int 0, .int 0, .int 0, .int 0, .long 0, .ref m15, .ref m16, .ref m17, .ref m18, .ref m19, .ref m20, .int 0, .ref m22, .ref m23, .ref m24, .ref m25, .ref m26, .ref m27, .ref m28, .ref m29, .ref m30, .ref m31, .ref m32, .ref m33, .ref m34, .int 0, .int 0, .ref m37, .ref m38, .ref m39, .ref m40, .ref m41, .ref m42, .ref m43, .ref m44, .ref m45, .ref m46])), (m1, .inl (k_tape, 200, .inl f_12))] H := hP
  have hD : va_D A [(h0, .inr (9, [.int 0, .ref m1, .int 20, .int 0, .int 0, .ref m5, .ref m6, .ref m7, .int 0, .int 0, .int 0, .int 0, .int 0, .int 0, .long 0, .ref m15, .ref m16, .ref m17, .ref m18, .ref m19, .ref m20, .int 0, .ref m22, .ref m23, .ref m24, .ref m25, .ref m26, .ref m27, .ref m28, .ref m29, .ref m30, .ref m31, .ref m32, .ref m33, .ref m34, .int 0, .int 0, .ref m37, .ref m38, .ref m39, .ref m40, .ref m41, .ref m42, .ref m43, .ref m44, .ref m45, .ref m46])), (m1, .inl (k_tape, 200, .inl f_12))] := hD
  refine W.widen (k := 0) (n := 0) (Nat.le_of_ble_eq_true rfl) (Nat.le_of_ble_eq_true rfl) ?_
  refine lv_aload_n hx hb dX9_feed_47 rfl (lv_at hl 0 rfl) ?_
  refine va_get (D := (dC, dI)) (ci := 9) (v := .int 20) (C := RX9) (T := TX9) (N := 47) hx hb hts hin9 hown hK hP 0 rfl rfl 2 (by decide) (hts (.fieldLink RX9 115 "YamRidersModel" "length" "I") (by decide +kernel)) (fun _ h9 => h9) rfl dX9_feed_48 ?_
  have hP9 := hP.sub (ws' := []) [] rfl
  have hD9 := hD.sub (ws' := []) [] (by decide) rfl
  have hK9 := hK.sub (tys' := []) [] rfl
  refine W.widen (k := 0) (n := 0) (Nat.le_of_ble_eq_true rfl) (Nat.le_of_ble_eq_true rfl) ?_
  exact W.iret (v := 20) hx hb hr (fun t9 ht hW => ⟨⟨_, (), rfl, rfl, by rw [ht]; exact hP9, va_K.moved hW.alike hK9, hD9⟩, hS.F ht⟩) hS.2.2 dX9_feed_51

set_option maxHeartbeats 4000000 in
set_option maxRecDepth 100000 in
theorem c_X9_end (l : Launch) (dC : Nat → ClassId) (dI : Nat → Nat → Nat) (h0 : Nat) (m1 : Nat) (m5 : Nat) (m6 : Nat) (m7 : Nat) (m15 : Nat) (m16 : Nat) (m17 : Nat) (m18 : Nat) (m19 : Nat) (m20 : Nat) (m22 : Nat) (m23 : Nat) (m24 : Nat) (m25 : Nat) (m26 : Nat) (m27 : Nat) (m28 : Nat) (m29 : Nat) (m30 : Nat) (m31 : Nat) (m32 : Nat) (m33 : Nat) (m34 : Nat) (m37 : Nat) (m38 : Nat) (m39 : Nat) (m40 : Nat) (m41 : Nat) (m42 : Nat) (m43 : Nat) (m44 : Nat) (m45 : Nat) (m46 : Nat) (p0 : Int32) (sz : Nat) : Met l yX9_end wsX9_end ({ frames := 0, cells := 0, slots := 0, locals := 0 }) (va_Pc [.ref h0, .int p0] (cP dC dI [(h0, .inr (9, [.int 0, .ref m1, .int 0, .int 0, .int 0, .ref m5, .ref m6, .ref m7, .int 0, .int 0, .int 0, .int 0, .int 0, .int 0, .long 0, .ref m15, .ref m16, .ref m17, .ref m18, .ref m19, .ref m20, .int 0, .ref m22, .ref m23, .ref m24, .ref m25, .ref m26, .ref m27, .ref m28, .ref m29, .ref m30, .ref m31, .ref m32, .ref m33, .ref m34, .int 0, .int 0, .ref m37, .ref m38, .ref m39, .ref m40, .ref m41, .ref m42, .ref m43, .ref m44, .ref m45, .ref m46]))] [] sz)) (va_Qi (fun (r : Int32) (_ : Unit) => r = (if p0 < 0 then 0 else (if p0 ≤ 0 then 1 else 0))) (fun (_ : Unit) t9 => cQ dC dI [] [] (va_A [(h0, .inr (9, [.int 0, .ref m1, .int 0, .int 0, .int 0, .ref m5, .ref m6, .ref m7, .int 0, .int 0, .int 0, .int 0, .int 0, .int 0, .long 0, .ref m15, .ref m16, .ref m17, .ref m18, .ref m19, .ref m20, .int 0, .ref m22, .ref m23, .ref m24, .ref m25, .ref m26, .ref m27, .ref m28, .ref m29, .ref m30, .ref m31, .ref m32, .ref m33, .ref m34, .int 0, .int 0, .ref m37, .ref m38, .ref m39, .ref m40, .ref m41, .ref m42, .ref m43, .ref m44, .ref m45, .ref m46]))] sz) t9) (va_A [(h0, .inr (9, [.int 0, .ref m1, .int 0, .int 0, .int 0, .ref m5, .ref m6, .ref m7, .int 0, .int 0, .int 0, .int 0, .int 0, .int 0, .long 0, .ref m15, .ref m16, .ref m17, .ref m18, .ref m19, .ref m20, .int 0, .ref m22, .ref m23, .ref m24, .ref m25, .ref m26, .ref m27, .ref m28, .ref m29, .ref m30, .ref m31, .ref m32, .ref m33, .ref m34, .int 0, .int 0, .ref m37, .ref m38, .ref m39, .ref m40, .ref m41, .ref m42, .ref m43, .ref m44, .ref m45, .ref m46]))] sz)) 0 0 (va_A [(h0, .inr (9, [.int 0, .ref m1, .int 0, .int 0, .int 0, .ref m5, .ref m6, .ref m7, .int 0, .int 0, .int 0, .int 0, .int 0, .int 0, .long 0, .ref m15, .ref m16, .ref m17, .ref m18, .ref m19, .ref m20, .int 0, .ref m22, .ref m23, .ref m24, .ref m25, .ref m26, .ref m27, .ref m28, .ref m29, .ref m30, .ref m31, .ref m32, .ref m33, .ref m34, .int 0, .int 0, .ref m37, .ref m38, .ref m39, .ref m40, .ref m41, .ref m42, .ref m43, .ref m44, .ref m45, .ref m46]))] sz) := by
  refine Met.ofW (cc := cX9_end) (maxL := 2) (ret := (some .boolean)) (by decide) rfl ?_
  intro p e s m args below meth c s₁ B hml hv
  obtain ⟨rfl, hsz, hP, hK, hD0, hN⟩ := hv
  have hx := B.exec
  have hb := B.bytes
  have hr := B.returns
  have hts := atoms_spec (ws := wsX9_end) B.pre
  have hown : s.vm.findClass RX9 = some m.cls := findClass_of_methodNamed B.named
  have hlocks := B.notSynchronized
  subst hsz
  have hin9 : ∀ w ∈ u_ws RX9 TX9 47, w ∈ wsX9_end := by decide +kernel
  have hD := hD0.self (sz := s.heap.size)
  generalize hAe : va_A [(h0, .inr (9, [.int 0, .ref m1, .int 0, .int 0, .int 0, .ref m5, .ref m6, .ref m7, .int 0, .int 0, .int 0, .int 0, .int 0, .int 0, .long 0, .ref m15, .ref m16, .ref m17, .ref m18, .ref m19, .ref m20, .int 0, .ref m22, .ref m23, .ref m24, .ref m25, .ref m26, .ref m27, .ref m28, .ref m29, .ref m30, .ref m31, .ref m32, .ref m33, .ref m34, .int 0, .int 0, .ref m37, .ref m38, .ref m39, .ref m40, .ref m41, .ref m42, .ref m43, .ref m44, .ref m45, .ref m46]))] s.heap.size = A at hD ⊢
  have hA : ∀ q : Nat, s.heap.size ≤ q → A q := fun q h => by rw [← hAe]; exact Or.inr h
  have hS : va_S A s.heap s.heap [] := va_S.rf
  have hP : va_P (dC, dI) vwCl [(h0, .inr (9, [.int 0, .ref m1, .int 0, .int 0, .int 0, .ref m5, .ref m6, .ref m7, .int 0, .int 0, .int 0, .int 0, .int 0, .int 0, .long 0, .ref m15, .ref m16, .ref m17, .ref m18, .ref m19, .ref m20, .int 0, .ref m22, .ref m23, .ref m24, .ref m25, .ref m26, .ref m27, .ref m28, .ref m29, .ref m30, .ref m31, .ref m32, .ref m33, .ref m34, .int 0, .int 0, .ref m37, .ref m38, .ref m39, .ref m40, .ref m41, .ref m42, .ref m43, .ref m44, .ref m45, .ref m46]))] s.heap := hP
  have hl := lv_entry ([.ref h0, .int p0]) (n := 2) (Nat.le_of_ble_eq_true rfl)
  rw [lg_entry_eq]
  generalize (lg_sl ([.ref h0, .int p0]) ++ List.replicate (2 - (lg_sl ([.ref h0, .int p0])).length) Slot.unset).toArray = ls at hl ⊢
  have hl : lv_has ls 2 [(0, .ref h0), (1, .int p0)] := hl
  refine lv_aload_n hx hb dX9_end_0 rfl (lv_at hl 0 rfl) ?_
  refine lv_iconst (v := 0) hx hb dX9_end_1 (by decide) ?_
  refine va_put (D := (dC, dI)) (ci := 9) (v := .int 0) (ty := (tyX9 0)) (C := RX9) (T := TX9) (N := 47) hx hb hts hin9 tyX9 tyX9_ok nmX9 hown hK hP hD hS 0 rfl rfl 0 (by decide) (hts (.fieldLink RX9 111 "YamRidersModel" "thrown" "I") (by decide +kernel)) (fun _ h9 => h9) rfl (by decide +kernel) rfl rfl (Nat.le_of_ble_eq_true rfl) dX9_end_2 (fun H locs hP hD hS => ?_)
  have hP : va_P (dC, dI) vwCl [(h0, .inr (9, [.int 0, .ref m1, .int 0, .int 0, .int 0, .ref m5, .ref m6, .ref m7, .int 0, .int 0, .int 0, .int 0, .int 0, .int 0, .long 0, .ref m15, .ref m16, .ref m17, .ref m18, .ref m19, .ref m20, .int 0, .ref m22, .ref m23, .ref m24, .ref m25, .ref m26, .ref m27, .ref m28, .ref m29, .ref m30, .ref m31, .ref m32, .ref m33, .ref m34, .int 0, .int 0, .ref m37, .ref m38, .ref m39, .ref m40, .ref m41, .ref m42, .ref m43, .ref m44, .ref m45, .ref m46]))] H := hP
  have hD : va_D A [(h0, .inr (9, [.int 0, .ref m1, .int 0, .int 0, .int 0, .ref m5, .ref m6, .ref m7, .int 0, .int 0, .int 0, .int 0, .int 0, .int 0, .long 0, .ref m15, .ref m16, .ref m17, .ref m18, .ref m19, .ref m20, .int 0, .ref m22, .ref m23, .ref m24, .ref m25, .ref m26, .ref m27, .ref m28, .ref m29, .ref m30, .ref m31, .ref m32, .ref m33, .ref m34, .int 0, .int 0, .ref m37, .ref m38, .ref m39, .ref m40, .ref m41, .ref m42, .ref m43, .ref m44, .ref m45, .ref m46]))] := hD
  refine lv_iload_n hx hb dX9_end_5 rfl (lv_at hl 1 rfl) ?_
  refine lv_if_lt (tgt := 17) hx hb dX9_end_6 (by decide) (fun c_1 => ?_) (fun c_1 => ?_)
  · refine lv_iconst (v := 0) hx hb dX9_end_17 (by decide) ?_
    have hP9 := hP.sub (ws' := []) [] rfl
    have hD9 := hD.sub (ws' := []) [] (by decide) rfl
    have hK9 := hK.sub (tys' := []) [] rfl
    refine W.widen (k := 0) (n := 0) (Nat.le_of_ble_eq_true rfl) (Nat.le_of_ble_eq_true rfl) ?_
    exact W.zret (v := 0) hx hb hr rfl (fun t9 ht hW => ⟨⟨_, (), rfl, (by rw [if_pos c_1]), by rw [ht]; exact hP9, va_K.moved hW.alike hK9, hD9⟩, hS.F ht⟩) hS.2.2 dX9_end_18
  · refine lv_iload_n hx hb dX9_end_9 rfl (lv_at hl 1 rfl) ?_
    refine lv_aload_n hx hb dX9_end_10 rfl (lv_at hl 0 rfl) ?_
    refine va_get (D := (dC, dI)) (ci := 9) (v := .int 0) (C := RX9) (T := TX9) (N := 47) hx hb hts hin9 hown hK hP 0 rfl rfl 2 (by decide) (hts (.fieldLink RX9 115 "YamRidersModel" "length" "I") (by decide +kernel)) (fun _ h9 => h9) rfl dX9_end_11 ?_
    refine lv_icmp_le (tgt := 19) hx hb dX9_end_14 (by decide) (fun c_2 => ?_) (fun c_2 => ?_)
    · refine lv_aload_n hx hb dX9_end_19 rfl (lv_at hl 0 rfl) ?_
      refine lv_iload_n hx hb dX9_end_20 rfl (lv_at hl 1 rfl) ?_
      refine va_put (D := (dC, dI)) (ci := 9) (v := .int p0) (ty := (tyX9 2)) (C := RX9) (T := TX9) (N := 47) hx hb hts hin9 tyX9 tyX9_ok nmX9 hown hK hP hD hS 0 rfl rfl 2 (by decide) (hts (.fieldLink RX9 115 "YamRidersModel" "length" "I") (by decide +kernel)) (fun _ h9 => h9) rfl (by decide +kernel) rfl rfl (Nat.le_of_ble_eq_true rfl) dX9_end_21 (fun H locs hP hD hS => ?_)
      have hP : va_P (dC, dI) vwCl [(h0, .inr (9, [.int 0, .ref m1, .int p0, .int 0, .int 0, .ref m5, .ref m6, .ref m7, .int 0, .int 0, .int 0, .int 0, .int 0, .int 0, .long 0, .ref m15, .ref m16, .ref m17, .ref m18, .ref m19, .ref m20, .int 0, .ref m22, .ref m23, .ref m24, .ref m25, .ref m26, .ref m27, .ref m28, .ref m29, .ref m30, .ref m31, .ref m32, .ref m33, .ref m34, .int 0, .int 0, .ref m37, .ref m38, .ref m39, .ref m40, .ref m41, .ref m42, .ref m43, .ref m44, .ref m45, .ref m46]))] H := hP
      have hD : va_D A [(h0, .inr (9, [.int 0, .ref m1, .int p0, .int 0, .int 0, .ref m5, .ref m6, .ref m7, .int 0, .int 0, .int 0, .int 0, .int 0, .int 0, .long 0, .ref m15, .ref m16, .ref m17, .ref m18, .ref m19, .ref m20, .int 0, .ref m22, .ref m23, .ref m24, .ref m25, .ref m26, .ref m27, .ref m28, .ref m29, .ref m30, .ref m31, .ref m32, .ref m33, .ref m34, .int 0, .int 0, .ref m37, .ref m38, .ref m39, .ref m40, .ref m41, .ref m42, .ref m43, .ref m44, .ref m45, .ref m46]))] := hD
      refine lv_iconst (v := 1) hx hb dX9_end_24 (by decide) ?_
      have hP9 := hP.sub (ws' := []) [] rfl
      have hD9 := hD.sub (ws' := []) [] (by decide) rfl
      have hK9 := hK.sub (tys' := []) [] rfl
      refine W.widen (k := 0) (n := 0) (Nat.le_of_ble_eq_true rfl) (Nat.le_of_ble_eq_true rfl) ?_
      exact W.zret (v := 1) hx hb hr rfl (fun t9 ht hW => ⟨⟨_, (), rfl, (by rw [if_neg c_1, if_pos c_2]), by rw [ht]; exact hP9, va_K.moved hW.alike hK9, hD9⟩, hS.F ht⟩) hS.2.2 dX9_end_25
    · refine lv_iconst (v := 0) hx hb dX9_end_17 (by decide) ?_
      have hP9 := hP.sub (ws' := []) [] rfl
      have hD9 := hD.sub (ws' := []) [] (by decide) rfl
      have hK9 := hK.sub (tys' := []) [] rfl
      refine W.widen (k := 0) (n := 0) (Nat.le_of_ble_eq_true rfl) (Nat.le_of_ble_eq_true rfl) ?_
      exact W.zret (v := 0) hx hb hr rfl (fun t9 ht hW => ⟨⟨_, (), rfl, (by rw [if_neg c_1, if_neg c_2]), by rw [ht]; exact hP9, va_K.moved hW.alike hK9, hD9⟩, hS.F ht⟩) hS.2.2 dX9_end_18

set_option maxHeartbeats 4000000 in
set_option maxRecDepth 100000 in
theorem c_X9_fault (l : Launch) (dC : Nat → ClassId) (dI : Nat → Nat → Nat) (h0 : Nat) (m1 : Nat) (m5 : Nat) (m6 : Nat) (m7 : Nat) (m15 : Nat) (m16 : Nat) (m17 : Nat) (m18 : Nat) (m19 : Nat) (m20 : Nat) (m22 : Nat) (m23 : Nat) (m24 : Nat) (m25 : Nat) (m26 : Nat) (m27 : Nat) (m28 : Nat) (m29 : Nat) (m30 : Nat) (m31 : Nat) (m32 : Nat) (m33 : Nat) (m34 : Nat) (m37 : Nat) (m38 : Nat) (m39 : Nat) (m40 : Nat) (m41 : Nat) (m42 : Nat) (m43 : Nat) (m44 : Nat) (m45 : Nat) (m46 : Nat) (sz : Nat) : Met l yX9_fault wsX9_fault ({ frames := 0, cells := 0, slots := 0, locals := 0 }) (va_Pc [.ref h0] (cP dC dI [(h0, .inr (9, [.int 0, .ref m1, .int 0, .int 0, .int 0, .ref m5, .ref m6, .ref m7, .int 0, .int 0, .int 0, .int 0, .int 0, .int 0, .long 0, .ref m15, .ref m16, .ref m17, .ref m18, .ref m19, .ref m20, .int 0, .ref m22, .ref m23, .ref m24, .ref m25, .ref m26, .ref m27, .ref m28, .ref m29, .ref m30, .ref m31, .ref m32, .ref m33, .ref m34, .int 0, .int 0, .ref m37, .ref m38, .ref m39, .ref m40, .ref m41, .ref m42, .ref m43, .ref m44, .ref m45, .ref m46]))] [] sz)) (va_Qi (fun (r : Int32) (_ : Unit) => r = 0) (fun (_ : Unit) t9 => cQ dC dI [] [] (va_A [(h0, .inr (9, [.int 0, .ref m1, .int 0, .int 0, .int 0, .ref m5, .ref m6, .ref m7, .int 0, .int 0, .int 0, .int 0, .int 0, .int 0, .long 0, .ref m15, .ref m16, .ref m17, .ref m18, .ref m19, .ref m20, .int 0, .ref m22, .ref m23, .ref m24, .ref m25, .ref m26, .ref m27, .ref m28, .ref m29, .ref m30, .ref m31, .ref m32, .ref m33, .ref m34, .int 0, .int 0, .ref m37, .ref m38, .ref m39, .ref m40, .ref m41, .ref m42, .ref m43, .ref m44, .ref m45, .ref m46]))] sz) t9) (va_A [(h0, .inr (9, [.int 0, .ref m1, .int 0, .int 0, .int 0, .ref m5, .ref m6, .ref m7, .int 0, .int 0, .int 0, .int 0, .int 0, .int 0, .long 0, .ref m15, .ref m16, .ref m17, .ref m18, .ref m19, .ref m20, .int 0, .ref m22, .ref m23, .ref m24, .ref m25, .ref m26, .ref m27, .ref m28, .ref m29, .ref m30, .ref m31, .ref m32, .ref m33, .ref m34, .int 0, .int 0, .ref m37, .ref m38, .ref m39, .ref m40, .ref m41, .ref m42, .ref m43, .ref m44, .ref m45, .ref m46]))] sz)) 0 0 (va_A [(h0, .inr (9, [.int 0, .ref m1, .int 0, .int 0, .int 0, .ref m5, .ref m6, .ref m7, .int 0, .int 0, .int 0, .int 0, .int 0, .int 0, .long 0, .ref m15, .ref m16, .ref m17, .ref m18, .ref m19, .ref m20, .int 0, .ref m22, .ref m23, .ref m24, .ref m25, .ref m26, .ref m27, .ref m28, .ref m29, .ref m30, .ref m31, .ref m32, .ref m33, .ref m34, .int 0, .int 0, .ref m37, .ref m38, .ref m39, .ref m40, .ref m41, .ref m42, .ref m43, .ref m44, .ref m45, .ref m46]))] sz) := by
  refine Met.ofW (cc := cX9_fault) (maxL := 1) (ret := (some .int)) (by decide) rfl ?_
  intro p e s m args below meth c s₁ B hml hv
  obtain ⟨rfl, hsz, hP, hK, hD0, hN⟩ := hv
  have hx := B.exec
  have hb := B.bytes
  have hr := B.returns
  have hts := atoms_spec (ws := wsX9_fault) B.pre
  have hown : s.vm.findClass RX9 = some m.cls := findClass_of_methodNamed B.named
  have hlocks := B.notSynchronized
  subst hsz
  have hin9 : ∀ w ∈ u_ws RX9 TX9 47, w ∈ wsX9_fault := by decide +kernel
  have hD := hD0.self (sz := s.heap.size)
  generalize hAe : va_A [(h0, .inr (9, [.int 0, .ref m1, .int 0, .int 0, .int 0, .ref m5, .ref m6, .ref m7, .int 0, .int 0, .int 0, .int 0, .int 0, .int 0, .long 0, .ref m15, .ref m16, .ref m17, .ref m18, .ref m19, .ref m20, .int 0, .ref m22, .ref m23, .ref m24, .ref m25, .ref m26, .ref m27, .ref m28, .ref m29, .ref m30, .ref m31, .ref m32, .ref m33, .ref m34, .int 0, .int 0, .ref m37, .ref m38, .ref m39, .ref m40, .ref m41, .ref m42, .ref m43, .ref m44, .ref m45, .ref m46]))] s.heap.size = A at hD ⊢
  have hA : ∀ q : Nat, s.heap.size ≤ q → A q := fun q h => by rw [← hAe]; exact Or.inr h
  have hS : va_S A s.heap s.heap [] := va_S.rf
  have hP : va_P (dC, dI) vwCl [(h0, .inr (9, [.int 0, .ref m1, .int 0, .int 0, .int 0, .ref m5, .ref m6, .ref m7, .int 0, .int 0, .int 0, .int 0, .int 0, .int 0, .long 0, .ref m15, .ref m16, .ref m17, .ref m18, .ref m19, .ref m20, .int 0, .ref m22, .ref m23, .ref m24, .ref m25, .ref m26, .ref m27, .ref m28, .ref m29, .ref m30, .ref m31, .ref m32, .ref m33, .ref m34, .int 0, .int 0, .ref m37, .ref m38, .ref m39, .ref m40, .ref m41, .ref m42, .ref m43, .ref m44, .ref m45, .ref m46]))] s.heap := hP
  have hl := lv_entry ([.ref h0]) (n := 1) (Nat.le_of_ble_eq_true rfl)
  rw [lg_entry_eq]
  generalize (lg_sl ([.ref h0]) ++ List.replicate (1 - (lg_sl ([.ref h0])).length) Slot.unset).toArray = ls at hl ⊢
  have hl : lv_has ls 1 [(0, .ref h0)] := hl
  refine lv_aload_n hx hb dX9_fault_0 rfl (lv_at hl 0 rfl) ?_
  refine lv_iconst (v := 0) hx hb dX9_fault_1 (by decide) ?_
  refine va_put (D := (dC, dI)) (ci := 9) (v := .int 0) (ty := (tyX9 0)) (C := RX9) (T := TX9) (N := 47) hx hb hts hin9 tyX9 tyX9_ok nmX9 hown hK hP hD hS 0 rfl rfl 0 (by decide) (hts (.fieldLink RX9 111 "YamRidersModel" "thrown" "I") (by decide +kernel)) (fun _ h9 => h9) rfl (by decide +kernel) rfl rfl (Nat.le_of_ble_eq_true rfl) dX9_fault_2 (fun H locs hP hD hS => ?_)
  have hP : va_P (dC, dI) vwCl [(h0, .inr (9, [.int 0, .ref m1, .int 0, .int 0, .int 0, .ref m5, .ref m6, .ref m7, .int 0, .int 0, .int 0, .int 0, .int 0, .int 0, .long 0, .ref m15, .ref m16, .ref m17, .ref m18, .ref m19, .ref m20, .int 0, .ref m22, .ref m23, .ref m24, .ref m25, .ref m26, .ref m27, .ref m28, .ref m29, .ref m30, .ref m31, .ref m32, .ref m33, .ref m34, .int 0, .int 0, .ref m37, .ref m38, .ref m39, .ref m40, .ref m41, .ref m42, .ref m43, .ref m44, .ref m45, .ref m46]))] H := hP
  have hD : va_D A [(h0, .inr (9, [.int 0, .ref m1, .int 0, .int 0, .int 0, .ref m5, .ref m6, .ref m7, .int 0, .int 0, .int 0, .int 0, .int 0, .int 0, .long 0, .ref m15, .ref m16, .ref m17, .ref m18, .ref m19, .ref m20, .int 0, .ref m22, .ref m23, .ref m24, .ref m25, .ref m26, .ref m27, .ref m28, .ref m29, .ref m30, .ref m31, .ref m32, .ref m33, .ref m34, .int 0, .int 0, .ref m37, .ref m38, .ref m39, .ref m40, .ref m41, .ref m42, .ref m43, .ref m44, .ref m45, .ref m46]))] := hD
  refine lv_aload_n hx hb dX9_fault_5 rfl (lv_at hl 0 rfl) ?_
  refine va_get (D := (dC, dI)) (ci := 9) (v := .int 0) (C := RX9) (T := TX9) (N := 47) hx hb hts hin9 hown hK hP 0 rfl rfl 11 (by decide) (hts (.fieldLink RX9 152 "YamRidersModel" "fault" "I") (by decide +kernel)) (fun _ h9 => h9) rfl dX9_fault_6 ?_
  have hP9 := hP.sub (ws' := []) [] rfl
  have hD9 := hD.sub (ws' := []) [] (by decide) rfl
  have hK9 := hK.sub (tys' := []) [] rfl
  refine W.widen (k := 0) (n := 0) (Nat.le_of_ble_eq_true rfl) (Nat.le_of_ble_eq_true rfl) ?_
  exact W.iret (v := 0) hx hb hr (fun t9 ht hW => ⟨⟨_, (), rfl, rfl, by rw [ht]; exact hP9, va_K.moved hW.alike hK9, hD9⟩, hS.F ht⟩) hS.2.2 dX9_fault_9

set_option maxHeartbeats 4000000 in
set_option maxRecDepth 100000 in
theorem c_X9_road (l : Launch) (dC : Nat → ClassId) (dI : Nat → Nat → Nat) (h0 : Nat) (m1 : Nat) (m5 : Nat) (m6 : Nat) (m7 : Nat) (m15 : Nat) (m16 : Nat) (m17 : Nat) (m18 : Nat) (m19 : Nat) (m20 : Nat) (m22 : Nat) (m23 : Nat) (m24 : Nat) (m25 : Nat) (m26 : Nat) (m27 : Nat) (m28 : Nat) (m29 : Nat) (m30 : Nat) (m31 : Nat) (m32 : Nat) (m33 : Nat) (m34 : Nat) (m37 : Nat) (m38 : Nat) (m39 : Nat) (m40 : Nat) (m41 : Nat) (m42 : Nat) (m43 : Nat) (m44 : Nat) (m45 : Nat) (m46 : Nat) (k_hours : ClassId) (k_snow : ClassId) (p0 : Int32) (p1 : Int32) (p2 : Int32) (sz : Nat) : Met l yX9_road wsX9_road ({ frames := 1, cells := 0, slots := 0, locals := 20 }) (va_Pc [.ref h0, .int p0, .int p1, .int p2] (cP dC dI [(h0, .inr (9, [.int 0, .ref m1, .int 0, .int 0, .int 0, .ref m5, .ref m6, .ref m7, .int 0, .int 0, .int 0, .int 0, .int 0, .int 0, .long 0, .ref m15, .ref m16, .ref m17, .ref m18, .ref m19, .ref m20, .int 0, .ref m22, .ref m23, .ref m24, .ref m25, .ref m26, .ref m27, .ref m28, .ref m29, .ref m30, .ref m31, .ref m32, .ref m33, .ref m34, .int 0, .int 0, .ref m37, .ref m38, .ref m39, .ref m40, .ref m41, .ref m42, .ref m43, .ref m44, .ref m45, .ref m46])), (m15, .inl (k_hours, 144, .inl (fun _ => 0))), (m16, .inl (k_snow, 144, .inl (fun _ => 0)))] [(k_hours, .int), (k_snow, .int)] sz)) (va_Qi (fun (r : Int32) (_ : Unit) => r = (if (sp_st p0) = 0 then 0 else (if (sp_st p1) = 0 then 0 else (if p0 = p1 then 0 else (if p2 < 0 then 0 else (if p2 ≤ 24 then 1 else 0)))))) (fun (_ : Unit) t9 => cQ dC dI [] [] (va_A [(h0, .inr (9, [.int 0, .ref m1, .int 0, .int 0, .int 0, .ref m5, .ref m6, .ref m7, .int 0, .int 0, .int 0, .int 0, .int 0, .int 0, .long 0, .ref m15, .ref m16, .ref m17, .ref m18, .ref m19, .ref m20, .int 0, .ref m22, .ref m23, .ref m24, .ref m25, .ref m26, .ref m27, .ref m28, .ref m29, .ref m30, .ref m31, .ref m32, .ref m33, .ref m34, .int 0, .int 0, .ref m37, .ref m38, .ref m39, .ref m40, .ref m41, .ref m42, .ref m43, .ref m44, .ref m45, .ref m46])), (m15, .inl (k_hours, 144, .inl (fun _ => 0))), (m16, .inl (k_snow, 144, .inl (fun _ => 0)))] sz) t9) (va_A [(h0, .inr (9, [.int 0, .ref m1, .int 0, .int 0, .int 0, .ref m5, .ref m6, .ref m7, .int 0, .int 0, .int 0, .int 0, .int 0, .int 0, .long 0, .ref m15, .ref m16, .ref m17, .ref m18, .ref m19, .ref m20, .int 0, .ref m22, .ref m23, .ref m24, .ref m25, .ref m26, .ref m27, .ref m28, .ref m29, .ref m30, .ref m31, .ref m32, .ref m33, .ref m34, .int 0, .int 0, .ref m37, .ref m38, .ref m39, .ref m40, .ref m41, .ref m42, .ref m43, .ref m44, .ref m45, .ref m46])), (m15, .inl (k_hours, 144, .inl (fun _ => 0))), (m16, .inl (k_snow, 144, .inl (fun _ => 0)))] sz)) 0 0 (va_A [(h0, .inr (9, [.int 0, .ref m1, .int 0, .int 0, .int 0, .ref m5, .ref m6, .ref m7, .int 0, .int 0, .int 0, .int 0, .int 0, .int 0, .long 0, .ref m15, .ref m16, .ref m17, .ref m18, .ref m19, .ref m20, .int 0, .ref m22, .ref m23, .ref m24, .ref m25, .ref m26, .ref m27, .ref m28, .ref m29, .ref m30, .ref m31, .ref m32, .ref m33, .ref m34, .int 0, .int 0, .ref m37, .ref m38, .ref m39, .ref m40, .ref m41, .ref m42, .ref m43, .ref m44, .ref m45, .ref m46])), (m15, .inl (k_hours, 144, .inl (fun _ => 0))), (m16, .inl (k_snow, 144, .inl (fun _ => 0)))] sz) := by
  refine Met.ofW (cc := cX9_road) (maxL := 4) (ret := (some .boolean)) (by decide) rfl ?_
  intro p e s m args below meth c s₁ B hml hv
  obtain ⟨rfl, hsz, hP, hK, hD0, hN⟩ := hv
  have hx := B.exec
  have hb := B.bytes
  have hr := B.returns
  have hts := atoms_spec (ws := wsX9_road) B.pre
  have hown : s.vm.findClass RX9 = some m.cls := findClass_of_methodNamed B.named
  have hlocks := B.notSynchronized
  subst hsz
  have hin9 : ∀ w ∈ u_ws RX9 TX9 47, w ∈ wsX9_road := by decide +kernel
  have hD := hD0.self (sz := s.heap.size)
  generalize hAe : va_A [(h0, .inr (9, [.int 0, .ref m1, .int 0, .int 0, .int 0, .ref m5, .ref m6, .ref m7, .int 0, .int 0, .int 0, .int 0, .int 0, .int 0, .long 0, .ref m15, .ref m16, .ref m17, .ref m18, .ref m19, .ref m20, .int 0, .ref m22, .ref m23, .ref m24, .ref m25, .ref m26, .ref m27, .ref m28, .ref m29, .ref m30, .ref m31, .ref m32, .ref m33, .ref m34, .int 0, .int 0, .ref m37, .ref m38, .ref m39, .ref m40, .ref m41, .ref m42, .ref m43, .ref m44, .ref m45, .ref m46])), (m15, .inl (k_hours, 144, .inl (fun _ => 0))), (m16, .inl (k_snow, 144, .inl (fun _ => 0)))] s.heap.size = A at hD ⊢
  have hA : ∀ q : Nat, s.heap.size ≤ q → A q := fun q h => by rw [← hAe]; exact Or.inr h
  have hS : va_S A s.heap s.heap [] := va_S.rf
  have hP : va_P (dC, dI) vwCl [(h0, .inr (9, [.int 0, .ref m1, .int 0, .int 0, .int 0, .ref m5, .ref m6, .ref m7, .int 0, .int 0, .int 0, .int 0, .int 0, .int 0, .long 0, .ref m15, .ref m16, .ref m17, .ref m18, .ref m19, .ref m20, .int 0, .ref m22, .ref m23, .ref m24, .ref m25, .ref m26, .ref m27, .ref m28, .ref m29, .ref m30, .ref m31, .ref m32, .ref m33, .ref m34, .int 0, .int 0, .ref m37, .ref m38, .ref m39, .ref m40, .ref m41, .ref m42, .ref m43, .ref m44, .ref m45, .ref m46])), (m15, .inl (k_hours, 144, .inl (fun _ => 0))), (m16, .inl (k_snow, 144, .inl (fun _ => 0)))] s.heap := hP
  have hl := lv_entry ([.ref h0, .int p0, .int p1, .int p2]) (n := 4) (Nat.le_of_ble_eq_true rfl)
  rw [lg_entry_eq]
  generalize (lg_sl ([.ref h0, .int p0, .int p1, .int p2]) ++ List.replicate (4 - (lg_sl ([.ref h0, .int p0, .int p1, .int p2])).length) Slot.unset).toArray = ls at hl ⊢
  have hl : lv_has ls 4 [(0, .ref h0), (1, .int p0), (2, .int p1), (3, .int p2)] := hl
  refine lv_aload_n hx hb dX9_road_0 rfl (lv_at hl 0 rfl) ?_
  refine lv_iconst (v := 0) hx hb dX9_road_1 (by decide) ?_
  refine va_put (D := (dC, dI)) (ci := 9) (v := .int 0) (ty := (tyX9 0)) (C := RX9) (T := TX9) (N := 47) hx hb hts hin9 tyX9 tyX9_ok nmX9 hown hK hP hD hS 0 rfl rfl 0 (by decide) (hts (.fieldLink RX9 111 "YamRidersModel" "thrown" "I") (by decide +kernel)) (fun _ h9 => h9) rfl (by decide +kernel) rfl rfl (Nat.le_of_ble_eq_true rfl) dX9_road_2 (fun H locs hP hD hS => ?_)
  have hP : va_P (dC, dI) vwCl [(h0, .inr (9, [.int 0, .ref m1, .int 0, .int 0, .int 0, .ref m5, .ref m6, .ref m7, .int 0, .int 0, .int 0, .int 0, .int 0, .int 0, .long 0, .ref m15, .ref m16, .ref m17, .ref m18, .ref m19, .ref m20, .int 0, .ref m22, .ref m23, .ref m24, .ref m25, .ref m26, .ref m27, .ref m28, .ref m29, .ref m30, .ref m31, .ref m32, .ref m33, .ref m34, .int 0, .int 0, .ref m37, .ref m38, .ref m39, .ref m40, .ref m41, .ref m42, .ref m43, .ref m44, .ref m45, .ref m46])), (m15, .inl (k_hours, 144, .inl (fun _ => 0))), (m16, .inl (k_snow, 144, .inl (fun _ => 0)))] H := hP
  have hD : va_D A [(h0, .inr (9, [.int 0, .ref m1, .int 0, .int 0, .int 0, .ref m5, .ref m6, .ref m7, .int 0, .int 0, .int 0, .int 0, .int 0, .int 0, .long 0, .ref m15, .ref m16, .ref m17, .ref m18, .ref m19, .ref m20, .int 0, .ref m22, .ref m23, .ref m24, .ref m25, .ref m26, .ref m27, .ref m28, .ref m29, .ref m30, .ref m31, .ref m32, .ref m33, .ref m34, .int 0, .int 0, .ref m37, .ref m38, .ref m39, .ref m40, .ref m41, .ref m42, .ref m43, .ref m44, .ref m45, .ref m46])), (m15, .inl (k_hours, 144, .inl (fun _ => 0))), (m16, .inl (k_snow, 144, .inl (fun _ => 0)))] := hD
  refine lv_iload_n hx hb dX9_road_5 rfl (lv_at hl 1 rfl) ?_
  have hPc := hP.sub (ws' := []) [] rfl
  have hDc := hD.sub (ws' := []) [] (by decide) rfl
  have hKc := hK.sub (tys' := []) [] rfl
  refine cs_i (va_runS (As := [.int p0]) (rest := []) ⟨hx, hb, hml, hown, hts⟩ (c_X9_isStation l dC dI p0 H.size) (va_cwS 1 hts gX9_road_X9_isStation rfl rfl rfl (by decide +kernel) ⟨Nat.le_of_ble_eq_true rfl, Nat.le_of_ble_eq_true rfl⟩) ⟨c_blind, c_pre hPc hKc hDc hN⟩ rfl rfl hl.1 rfl (lv_room (Nat.le_of_ble_eq_true rfl)) dX9_road_6 ⟨Nat.le_of_ble_eq_true rfl, Nat.le_of_ble_eq_true rfl⟩) (fun r_1 hr_1 => ?_)
  subst hr_1
  refine lv_if_eq (tgt := 34) hx hb dX9_road_9 (by decide) (fun c_2 => ?_) (fun c_2 => ?_)
  · refine lv_iconst (v := 0) hx hb dX9_road_34 (by decide) ?_
    have hP9 := hP.sub (ws' := []) [] rfl
    have hD9 := hD.sub (ws' := []) [] (by decide) rfl
    have hK9 := hK.sub (tys' := []) [] rfl
    refine W.widen (k := 0) (n := 0) (Nat.le_of_ble_eq_true rfl) (Nat.le_of_ble_eq_true rfl) ?_
    exact W.zret (v := 0) hx hb hr rfl (fun t9 ht hW => ⟨⟨_, (), rfl, (by rw [if_pos c_2]), by rw [ht]; exact hP9, va_K.moved hW.alike hK9, hD9⟩, hS.F ht⟩) hS.2.2 dX9_road_35
  · refine lv_iload_n hx hb dX9_road_12 rfl (lv_at hl 2 rfl) ?_
    have hPc := hP.sub (ws' := []) [] rfl
    have hDc := hD.sub (ws' := []) [] (by decide) rfl
    have hKc := hK.sub (tys' := []) [] rfl
    refine cs_i (va_runS (As := [.int p1]) (rest := []) ⟨hx, hb, hml, hown, hts⟩ (c_X9_isStation l dC dI p1 H.size) (va_cwS 1 hts gX9_road_X9_isStation rfl rfl rfl (by decide +kernel) ⟨Nat.le_of_ble_eq_true rfl, Nat.le_of_ble_eq_true rfl⟩) ⟨c_blind, c_pre hPc hKc hDc hN⟩ rfl rfl hl.1 rfl (lv_room (Nat.le_of_ble_eq_true rfl)) dX9_road_13 ⟨Nat.le_of_ble_eq_true rfl, Nat.le_of_ble_eq_true rfl⟩) (fun r_3 hr_3 => ?_)
    subst hr_3
    refine lv_if_eq (tgt := 34) hx hb dX9_road_16 (by decide) (fun c_4 => ?_) (fun c_4 => ?_)
    · refine lv_iconst (v := 0) hx hb dX9_road_34 (by decide) ?_
      have hP9 := hP.sub (ws' := []) [] rfl
      have hD9 := hD.sub (ws' := []) [] (by decide) rfl
      have hK9 := hK.sub (tys' := []) [] rfl
      refine W.widen (k := 0) (n := 0) (Nat.le_of_ble_eq_true rfl) (Nat.le_of_ble_eq_true rfl) ?_
      exact W.zret (v := 0) hx hb hr rfl (fun t9 ht hW => ⟨⟨_, (), rfl, (by rw [if_neg c_2, if_pos c_4]), by rw [ht]; exact hP9, va_K.moved hW.alike hK9, hD9⟩, hS.F ht⟩) hS.2.2 dX9_road_35
    · refine lv_iload_n hx hb dX9_road_19 rfl (lv_at hl 1 rfl) ?_
      refine lv_iload_n hx hb dX9_road_20 rfl (lv_at hl 2 rfl) ?_
      refine lv_icmp_eq (tgt := 34) hx hb dX9_road_21 (by decide) (fun c_5 => ?_) (fun c_5 => ?_)
      · refine lv_iconst (v := 0) hx hb dX9_road_34 (by decide) ?_
        have hP9 := hP.sub (ws' := []) [] rfl
        have hD9 := hD.sub (ws' := []) [] (by decide) rfl
        have hK9 := hK.sub (tys' := []) [] rfl
        refine W.widen (k := 0) (n := 0) (Nat.le_of_ble_eq_true rfl) (Nat.le_of_ble_eq_true rfl) ?_
        exact W.zret (v := 0) hx hb hr rfl (fun t9 ht hW => ⟨⟨_, (), rfl, (by rw [if_neg c_2, if_neg c_4, if_pos c_5]), by rw [ht]; exact hP9, va_K.moved hW.alike hK9, hD9⟩, hS.F ht⟩) hS.2.2 dX9_road_35
      · refine lv_iload_n hx hb dX9_road_24 rfl (lv_at hl 3 rfl) ?_
        refine lv_if_lt (tgt := 34) hx hb dX9_road_25 (by decide) (fun c_6 => ?_) (fun c_6 => ?_)
        · refine lv_iconst (v := 0) hx hb dX9_road_34 (by decide) ?_
          have hP9 := hP.sub (ws' := []) [] rfl
          have hD9 := hD.sub (ws' := []) [] (by decide) rfl
          have hK9 := hK.sub (tys' := []) [] rfl
          refine W.widen (k := 0) (n := 0) (Nat.le_of_ble_eq_true rfl) (Nat.le_of_ble_eq_true rfl) ?_
          exact W.zret (v := 0) hx hb hr rfl (fun t9 ht hW => ⟨⟨_, (), rfl, (by rw [if_neg c_2, if_neg c_4, if_neg c_5, if_pos c_6]), by rw [ht]; exact hP9, va_K.moved hW.alike hK9, hD9⟩, hS.F ht⟩) hS.2.2 dX9_road_35
        · refine lv_iload_n hx hb dX9_road_28 rfl (lv_at hl 3 rfl) ?_
          refine lv_bipush (v := 24) hx hb dX9_road_29 (by decide) ?_
          refine lv_icmp_le (tgt := 36) hx hb dX9_road_31 (by decide) (fun c_7 => ?_) (fun c_7 => ?_)
          · refine lv_aload_n hx hb dX9_road_36 rfl (lv_at hl 0 rfl) ?_
            refine va_get (D := (dC, dI)) (ci := 9) (v := .ref m15) (C := RX9) (T := TX9) (N := 47) hx hb hts hin9 hown hK hP 0 rfl rfl 15 (by decide) (hts (.fieldLink RX9 24 "YamRidersModel" "hours" "[I") (by decide +kernel)) (fun _ h9 => h9) rfl dX9_road_37 ?_
            refine lv_bipush (v := 12) hx hb dX9_road_40 (by decide) ?_
            refine lv_iload_n hx hb dX9_road_42 rfl (lv_at hl 1 rfl) ?_
            refine lv_imul hx hb dX9_road_43 ?_
            refine lv_iload_n hx hb dX9_road_44 rfl (lv_at hl 2 rfl) ?_
            refine lv_iadd hx hb dX9_road_45 ?_
            refine lv_iload_n hx hb dX9_road_46 rfl (lv_at hl 3 rfl) ?_
            refine va_iast hx hb hK hP hD hS 1 0 rfl rfl (ix144 c_2 c_4) dX9_road_47 (fun H locs hP hD hS => ?_)
            have hP : va_P (dC, dI) vwCl [(h0, .inr (9, [.int 0, .ref m1, .int 0, .int 0, .int 0, .ref m5, .ref m6, .ref m7, .int 0, .int 0, .int 0, .int 0, .int 0, .int 0, .long 0, .ref m15, .ref m16, .ref m17, .ref m18, .ref m19, .ref m20, .int 0, .ref m22, .ref m23, .ref m24, .ref m25, .ref m26, .ref m27, .ref m28, .ref m29, .ref m30, .ref m31, .ref m32, .ref m33, .ref m34, .int 0, .int 0, .ref m37, .ref m38, .ref m39, .ref m40, .ref m41, .ref m42, .ref m43, .ref m44, .ref m45, .ref m46])), (m15, .inl (k_hours, 144, .inl (upd (fun _ => 0) ((12 * p0) + p1).toNatClampNeg p2))), (m16, .inl (k_snow, 144, .inl (fun _ => 0)))] H := hP
            have hD : va_D A [(h0, .inr (9, [.int 0, .ref m1, .int 0, .int 0, .int 0, .ref m5, .ref m6, .ref m7, .int 0, .int 0, .int 0, .int 0, .int 0, .int 0, .long 0, .ref m15, .ref m16, .ref m17, .ref m18, .ref m19, .ref m20, .int 0, .ref m22, .ref m23, .ref m24, .ref m25, .ref m26, .ref m27, .ref m28, .ref m29, .ref m30, .ref m31, .ref m32, .ref m33, .ref m34, .int 0, .int 0, .ref m37, .ref m38, .ref m39, .ref m40, .ref m41, .ref m42, .ref m43, .ref m44, .ref m45, .ref m46])), (m15, .inl (k_hours, 144, .inl (upd (fun _ => 0) ((12 * p0) + p1).toNatClampNeg p2))), (m16, .inl (k_snow, 144, .inl (fun _ => 0)))] := hD
            obtain ⟨f_8, ef_8⟩ : ∃ w9 : Nat → Int32, w9 = upd (fun _ => 0) ((12 * p0) + p1).toNatClampNeg p2 := ⟨_, rfl⟩
            rw [← ef_8] at hP hD
            refine lv_aload_n hx hb dX9_road_48 rfl (lv_at hl 0 rfl) ?_
            refine va_get (D := (dC, dI)) (ci := 9) (v := .ref m15) (C := RX9) (T := TX9) (N := 47) hx hb hts hin9 hown hK hP 0 rfl rfl 15 (by decide) (hts (.fieldLink RX9 24 "YamRidersModel" "hours" "[I") (by decide +kernel)) (fun _ h9 => h9) rfl dX9_road_49 ?_
            refine lv_bipush (v := 12) hx hb dX9_road_52 (by decide) ?_
            refine lv_iload_n hx hb dX9_road_54 rfl (lv_at hl 2 rfl) ?_
            refine lv_imul hx hb dX9_road_55 ?_
            refine lv_iload_n hx hb dX9_road_56 rfl (lv_at hl 1 rfl) ?_
            refine lv_iadd hx hb dX9_road_57 ?_
            refine lv_iload_n hx hb dX9_road_58 rfl (lv_at hl 3 rfl) ?_
            refine va_iast hx hb hK hP hD hS 1 0 rfl rfl (ix144 c_4 c_2) dX9_road_59 (fun H locs hP hD hS => ?_)
            have hP : va_P (dC, dI) vwCl [(h0, .inr (9, [.int 0, .ref m1, .int 0, .int 0, .int 0, .ref m5, .ref m6, .ref m7, .int 0, .int 0, .int 0, .int 0, .int 0, .int 0, .long 0, .ref m15, .ref m16, .ref m17, .ref m18, .ref m19, .ref m20, .int 0, .ref m22, .ref m23, .ref m24, .ref m25, .ref m26, .ref m27, .ref m28, .ref m29, .ref m30, .ref m31, .ref m32, .ref m33, .ref m34, .int 0, .int 0, .ref m37, .ref m38, .ref m39, .ref m40, .ref m41, .ref m42, .ref m43, .ref m44, .ref m45, .ref m46])), (m15, .inl (k_hours, 144, .inl (upd f_8 ((12 * p1) + p0).toNatClampNeg p2))), (m16, .inl (k_snow, 144, .inl (fun _ => 0)))] H := hP
            have hD : va_D A [(h0, .inr (9, [.int 0, .ref m1, .int 0, .int 0, .int 0, .ref m5, .ref m6, .ref m7, .int 0, .int 0, .int 0, .int 0, .int 0, .int 0, .long 0, .ref m15, .ref m16, .ref m17, .ref m18, .ref m19, .ref m20, .int 0, .ref m22, .ref m23, .ref m24, .ref m25, .ref m26, .ref m27, .ref m28, .ref m29, .ref m30, .ref m31, .ref m32, .ref m33, .ref m34, .int 0, .int 0, .ref m37, .ref m38, .ref m39, .ref m40, .ref m41, .ref m42, .ref m43, .ref m44, .ref m45, .ref m46])), (m15, .inl (k_hours, 144, .inl (upd f_8 ((12 * p1) + p0).toNatClampNeg p2))), (m16, .inl (k_snow, 144, .inl (fun _ => 0)))] := hD
            obtain ⟨f_9, ef_9⟩ : ∃ w9 : Nat → Int32, w9 = upd f_8 ((12 * p1) + p0).toNatClampNeg p2 := ⟨_, rfl⟩
            rw [← ef_9] at hP hD
            refine lv_aload_n hx hb dX9_road_60 rfl (lv_at hl 0 rfl) ?_
            refine va_get (D := (dC, dI)) (ci := 9) (v := .ref m16) (C := RX9) (T := TX9) (N := 47) hx hb hts hin9 hown hK hP 0 rfl rfl 16 (by decide) (hts (.fieldLink RX9 27 "YamRidersModel" "snow" "[I") (by decide +kernel)) (fun _ h9 => h9) rfl dX9_road_61 ?_
            refine lv_bipush (v := 12) hx hb dX9_road_64 (by decide) ?_
            refine lv_iload_n hx hb dX9_road_66 rfl (lv_at hl 1 rfl) ?_
            refine lv_imul hx hb dX9_road_67 ?_
            refine lv_iload_n hx hb dX9_road_68 rfl (lv_at hl 2 rfl) ?_
            refine lv_iadd hx hb dX9_road_69 ?_
            refine lv_iconst (v := 0) hx hb dX9_road_70 (by decide) ?_
            refine va_iast hx hb hK hP hD hS 2 1 rfl rfl (ix144 c_2 c_4) dX9_road_71 (fun H locs hP hD hS => ?_)
            have hP : va_P (dC, dI) vwCl [(h0, .inr (9, [.int 0, .ref m1, .int 0, .int 0, .int 0, .ref m5, .ref m6, .ref m7, .int 0, .int 0, .int 0, .int 0, .int 0, .int 0, .long 0, .ref m15, .ref m16, .ref m17, .ref m18, .ref m19, .ref m20, .int 0, .ref m22, .ref m23, .ref m24, .ref m25, .ref m26, .ref m27, .ref m28, .ref m29, .ref m30, .ref m31, .ref m32, .ref m33, .ref m34, .int 0, .int 0, .ref m37, .ref m38, .ref m39, .ref m40, .ref m41, .ref m42, .ref m43, .ref m44, .ref m45, .ref m46])), (m15, .inl (k_hours, 144, .inl f_9)), (m16, .inl (k_snow, 144, .inl (upd (fun _ => 0) ((12 * p0) + p1).toNatClampNeg 0)))] H := hP
            have hD : va_D A [(h0, .inr (9, [.int 0, .ref m1, .int 0, .int 0, .int 0, .ref m5, .ref m6, .ref m7, .int 0, .int 0, .int 0, .int 0, .int 0, .int 0, .long 0, .ref m15, .ref m16, .ref m17, .ref m18, .ref m19, .ref m20, .int 0, .ref m22, .ref m23, .ref m24, .ref m25, .ref m26, .ref m27, .ref m28, .ref m29, .ref m30, .ref m31, .ref m32, .ref m33, .ref m34, .int 0, .int 0, .ref m37, .ref m38, .ref m39, .ref m40, .ref m41, .ref m42, .ref m43, .ref m44, .ref m45, .ref m46])), (m15, .inl (k_hours, 144, .inl f_9)), (m16, .inl (k_snow, 144, .inl (upd (fun _ => 0) ((12 * p0) + p1).toNatClampNeg 0)))] := hD
            obtain ⟨f_10, ef_10⟩ : ∃ w9 : Nat → Int32, w9 = upd (fun _ => 0) ((12 * p0) + p1).toNatClampNeg 0 := ⟨_, rfl⟩
            rw [← ef_10] at hP hD
            refine lv_aload_n hx hb dX9_road_72 rfl (lv_at hl 0 rfl) ?_
            refine va_get (D := (dC, dI)) (ci := 9) (v := .ref m16) (C := RX9) (T := TX9) (N := 47) hx hb hts hin9 hown hK hP 0 rfl rfl 16 (by decide) (hts (.fieldLink RX9 27 "YamRidersModel" "snow" "[I") (by decide +kernel)) (fun _ h9 => h9) rfl dX9_road_73 ?_
            refine lv_bipush (v := 12) hx hb dX9_road_76 (by decide) ?_
            refine lv_iload_n hx hb dX9_road_78 rfl (lv_at hl 2 rfl) ?_
            refine lv_imul hx hb dX9_road_79 ?_
            refine lv_iload_n hx hb dX9_road_80 rfl (lv_at hl 1 rfl) ?_
            refine lv_iadd hx hb dX9_road_81 ?_
            refine lv_iconst (v := 0) hx hb dX9_road_82 (by decide) ?_
            refine va_iast hx hb hK hP hD hS 2 1 rfl rfl (ix144 c_4 c_2) dX9_road_83 (fun H locs hP hD hS => ?_)
            have hP : va_P (dC, dI) vwCl [(h0, .inr (9, [.int 0, .ref m1, .int 0, .int 0, .int 0, .ref m5, .ref m6, .ref m7, .int 0, .int 0, .int 0, .int 0, .int 0, .int 0, .long 0, .ref m15, .ref m16, .ref m17, .ref m18, .ref m19, .ref m20, .int 0, .ref m22, .ref m23, .ref m24, .ref m25, .ref m26, .ref m27, .ref m28, .ref m29, .ref m30, .ref m31, .ref m32, .ref m33, .ref m34, .int 0, .int 0, .ref m37, .ref m38, .ref m39, .ref m40, .ref m41, .ref m42, .ref m43, .ref m44, .ref m45, .ref m46])), (m15, .inl (k_hours, 144, .inl f_9)), (m16, .inl (k_snow, 144, .inl (upd f_10 ((12 * p1) + p0).toNatClampNeg 0)))] H := hP
            have hD : va_D A [(h0, .inr (9, [.int 0, .ref m1, .int 0, .int 0, .int 0, .ref m5, .ref m6, .ref m7, .int 0, .int 0, .int 0, .int 0, .int 0, .int 0, .long 0, .ref m15, .ref m16, .ref m17, .ref m18, .ref m19, .ref m20, .int 0, .ref m22, .ref m23, .ref m24, .ref m25, .ref m26, .ref m27, .ref m28, .ref m29, .ref m30, .ref m31, .ref m32, .ref m33, .ref m34, .int 0, .int 0, .ref m37, .ref m38, .ref m39, .ref m40, .ref m41, .ref m42, .ref m43, .ref m44, .ref m45, .ref m46])), (m15, .inl (k_hours, 144, .inl f_9)), (m16, .inl (k_snow, 144, .inl (upd f_10 ((12 * p1) + p0).toNatClampNeg 0)))] := hD
            obtain ⟨f_11, ef_11⟩ : ∃ w9 : Nat → Int32, w9 = upd f_10 ((12 * p1) + p0).toNatClampNeg 0 := ⟨_, rfl⟩
            rw [← ef_11] at hP hD
            refine lv_iconst (v := 1) hx hb dX9_road_84 (by decide) ?_
            have hP9 := hP.sub (ws' := []) [] rfl
            have hD9 := hD.sub (ws' := []) [] (by decide) rfl
            have hK9 := hK.sub (tys' := []) [] rfl
            refine W.widen (k := 0) (n := 0) (Nat.le_of_ble_eq_true rfl) (Nat.le_of_ble_eq_true rfl) ?_
            exact W.zret (v := 1) hx hb hr rfl (fun t9 ht hW => ⟨⟨_, (), rfl, (by rw [if_neg c_2, if_neg c_4, if_neg c_5, if_neg c_6, if_pos c_7]), by rw [ht]; exact hP9, va_K.moved hW.alike hK9, hD9⟩, hS.F ht⟩) hS.2.2 dX9_road_85
          · refine lv_iconst (v := 0) hx hb dX9_road_34 (by decide) ?_
            have hP9 := hP.sub (ws' := []) [] rfl
            have hD9 := hD.sub (ws' := []) [] (by decide) rfl
            have hK9 := hK.sub (tys' := []) [] rfl
            refine W.widen (k := 0) (n := 0) (Nat.le_of_ble_eq_true rfl) (Nat.le_of_ble_eq_true rfl) ?_
            exact W.zret (v := 0) hx hb hr rfl (fun t9 ht hW => ⟨⟨_, (), rfl, (by rw [if_neg c_2, if_neg c_4, if_neg c_5, if_neg c_6, if_neg c_7]), by rw [ht]; exact hP9, va_K.moved hW.alike hK9, hD9⟩, hS.F ht⟩) hS.2.2 dX9_road_35

set_option maxHeartbeats 4000000 in
set_option maxRecDepth 100000 in
theorem c_X9_roadOf (l : Launch) (dC : Nat → ClassId) (dI : Nat → Nat → Nat) (h0 : Nat) (m1 : Nat) (m5 : Nat) (m6 : Nat) (m7 : Nat) (m15 : Nat) (m16 : Nat) (m17 : Nat) (m18 : Nat) (m19 : Nat) (m20 : Nat) (m22 : Nat) (m23 : Nat) (m24 : Nat) (m25 : Nat) (m26 : Nat) (m27 : Nat) (m28 : Nat) (m29 : Nat) (m30 : Nat) (m31 : Nat) (m32 : Nat) (m33 : Nat) (m34 : Nat) (m37 : Nat) (m38 : Nat) (m39 : Nat) (m40 : Nat) (m41 : Nat) (m42 : Nat) (m43 : Nat) (m44 : Nat) (m45 : Nat) (m46 : Nat) (k_hours : ClassId) (p0 : Int32) (p1 : Int32) (sz : Nat) (hu : ¬ sp_st p0 = 0) (hv : ¬ sp_st p1 = 0) : Met l yX9_roadOf wsX9_roadOf ({ frames := 0, cells := 0, slots := 0, locals := 0 }) (va_Pc [.ref h0, .int p0, .int p1] (cP dC dI [(h0, .inr (9, [.int 0, .ref m1, .int 0, .int 0, .int 0, .ref m5, .ref m6, .ref m7, .int 0, .int 0, .int 0, .int 0, .int 0, .int 0, .long 0, .ref m15, .ref m16, .ref m17, .ref m18, .ref m19, .ref m20, .int 0, .ref m22, .ref m23, .ref m24, .ref m25, .ref m26, .ref m27, .ref m28, .ref m29, .ref m30, .ref m31, .ref m32, .ref m33, .ref m34, .int 0, .int 0, .ref m37, .ref m38, .ref m39, .ref m40, .ref m41, .ref m42, .ref m43, .ref m44, .ref m45, .ref m46])), (m15, .inl (k_hours, 144, .inl (fun _ => 0)))] [(k_hours, .int)] sz)) (vp_Si (fun r => r = 0)) 0 0 (fun _ => False) := by
  refine Met.ofW (cc := cX9_roadOf) (maxL := 3) (ret := (some .int)) (by decide) rfl ?_
  intro p e s m args below meth c s₁ B hml hv
  obtain ⟨rfl, hsz, hP, hK, hD0, hN⟩ := hv
  have hx := B.exec
  have hb := B.bytes
  have hr := B.returns
  have hts := atoms_spec (ws := wsX9_roadOf) B.pre
  have hown : s.vm.findClass RX9 = some m.cls := findClass_of_methodNamed B.named
  have hlocks := B.notSynchronized
  subst hsz
  have hin9 : ∀ w ∈ u_ws RX9 TX9 47, w ∈ wsX9_roadOf := by decide +kernel
  have hD := hD0
  have hP : va_P (dC, dI) vwCl [(h0, .inr (9, [.int 0, .ref m1, .int 0, .int 0, .int 0, .ref m5, .ref m6, .ref m7, .int 0, .int 0, .int 0, .int 0, .int 0, .int 0, .long 0, .ref m15, .ref m16, .ref m17, .ref m18, .ref m19, .ref m20, .int 0, .ref m22, .ref m23, .ref m24, .ref m25, .ref m26, .ref m27, .ref m28, .ref m29, .ref m30, .ref m31, .ref m32, .ref m33, .ref m34, .int 0, .int 0, .ref m37, .ref m38, .ref m39, .ref m40, .ref m41, .ref m42, .ref m43, .ref m44, .ref m45, .ref m46])), (m15, .inl (k_hours, 144, .inl (fun _ => 0)))] s.heap := hP
  have hl := lv_entry ([.ref h0, .int p0, .int p1]) (n := 3) (Nat.le_of_ble_eq_true rfl)
  rw [lg_entry_eq]
  generalize (lg_sl ([.ref h0, .int p0, .int p1]) ++ List.replicate (3 - (lg_sl ([.ref h0, .int p0, .int p1])).length) Slot.unset).toArray = ls at hl ⊢
  have hl : lv_has ls 3 [(0, .ref h0), (1, .int p0), (2, .int p1)] := hl
  refine lv_aload_n hx hb dX9_roadOf_0 rfl (lv_at hl 0 rfl) ?_
  refine va_get (D := (dC, dI)) (ci := 9) (v := .ref m15) (C := RX9) (T := TX9) (N := 47) hx hb hts hin9 hown hK hP 0 rfl rfl 15 (by decide) (hts (.fieldLink RX9 24 "YamRidersModel" "hours" "[I") (by decide +kernel)) (fun _ h9 => h9) rfl dX9_roadOf_1 ?_
  refine lv_bipush (v := 12) hx hb dX9_roadOf_4 (by decide) ?_
  refine lv_iload_n hx hb dX9_roadOf_6 rfl (lv_at hl 1 rfl) ?_
  refine lv_imul hx hb dX9_roadOf_7 ?_
  refine lv_iload_n hx hb dX9_roadOf_8 rfl (lv_at hl 2 rfl) ?_
  refine lv_iadd hx hb dX9_roadOf_9 ?_
  refine va_iald hx hb hK hP 1 0 rfl rfl (ix144 hu hv) dX9_roadOf_10 ?_
  refine lv_topi (fun v_1 ev_1 => ?_)
  obtain rfl : v_1 = 0 := ev_1.trans rfl
  exact W.iret (v := 0) hx hb hr (fun t9 ht hW => ⟨_, rfl, rfl, ht⟩) (fun q h => nomatch h) dX9_roadOf_11

set_option maxHeartbeats 4000000 in
set_option maxRecDepth 100000 in
theorem c_X9_snow (l : Launch) (dC : Nat → ClassId) (dI : Nat → Nat → Nat) (h0 : Nat) (m1 : Nat) (m5 : Nat) (m6 : Nat) (m7 : Nat) (m15 : Nat) (m16 : Nat) (m17 : Nat) (m18 : Nat) (m19 : Nat) (m20 : Nat) (m22 : Nat) (m23 : Nat) (m24 : Nat) (m25 : Nat) (m26 : Nat) (m27 : Nat) (m28 : Nat) (m29 : Nat) (m30 : Nat) (m31 : Nat) (m32 : Nat) (m33 : Nat) (m34 : Nat) (m37 : Nat) (m38 : Nat) (m39 : Nat) (m40 : Nat) (m41 : Nat) (m42 : Nat) (m43 : Nat) (m44 : Nat) (m45 : Nat) (m46 : Nat) (k_hours : ClassId) (p0 : Int32) (p1 : Int32) (p2 : Int32) (sz : Nat) : Met l yX9_snow wsX9_snow ({ frames := 1, cells := 0, slots := 0, locals := 22 }) (va_Pc [.ref h0, .int p0, .int p1, .int p2] (cP dC dI [(h0, .inr (9, [.int 0, .ref m1, .int 0, .int 0, .int 0, .ref m5, .ref m6, .ref m7, .int 0, .int 0, .int 0, .int 0, .int 0, .int 0, .long 0, .ref m15, .ref m16, .ref m17, .ref m18, .ref m19, .ref m20, .int 0, .ref m22, .ref m23, .ref m24, .ref m25, .ref m26, .ref m27, .ref m28, .ref m29, .ref m30, .ref m31, .ref m32, .ref m33, .ref m34, .int 0, .int 0, .ref m37, .ref m38, .ref m39, .ref m40, .ref m41, .ref m42, .ref m43, .ref m44, .ref m45, .ref m46])), (m15, .inl (k_hours, 144, .inl (fun _ => 0)))] [(k_hours, .int)] sz)) (va_Qi (fun (r : Int32) (_ : Unit) => r = 0) (fun (_ : Unit) t9 => cQ dC dI [] [] (va_A [(h0, .inr (9, [.int 0, .ref m1, .int 0, .int 0, .int 0, .ref m5, .ref m6, .ref m7, .int 0, .int 0, .int 0, .int 0, .int 0, .int 0, .long 0, .ref m15, .ref m16, .ref m17, .ref m18, .ref m19, .ref m20, .int 0, .ref m22, .ref m23, .ref m24, .ref m25, .ref m26, .ref m27, .ref m28, .ref m29, .ref m30, .ref m31, .ref m32, .ref m33, .ref m34, .int 0, .int 0, .ref m37, .ref m38, .ref m39, .ref m40, .ref m41, .ref m42, .ref m43, .ref m44, .ref m45, .ref m46])), (m15, .inl (k_hours, 144, .inl (fun _ => 0)))] sz) t9) (va_A [(h0, .inr (9, [.int 0, .ref m1, .int 0, .int 0, .int 0, .ref m5, .ref m6, .ref m7, .int 0, .int 0, .int 0, .int 0, .int 0, .int 0, .long 0, .ref m15, .ref m16, .ref m17, .ref m18, .ref m19, .ref m20, .int 0, .ref m22, .ref m23, .ref m24, .ref m25, .ref m26, .ref m27, .ref m28, .ref m29, .ref m30, .ref m31, .ref m32, .ref m33, .ref m34, .int 0, .int 0, .ref m37, .ref m38, .ref m39, .ref m40, .ref m41, .ref m42, .ref m43, .ref m44, .ref m45, .ref m46])), (m15, .inl (k_hours, 144, .inl (fun _ => 0)))] sz)) 0 0 (va_A [(h0, .inr (9, [.int 0, .ref m1, .int 0, .int 0, .int 0, .ref m5, .ref m6, .ref m7, .int 0, .int 0, .int 0, .int 0, .int 0, .int 0, .long 0, .ref m15, .ref m16, .ref m17, .ref m18, .ref m19, .ref m20, .int 0, .ref m22, .ref m23, .ref m24, .ref m25, .ref m26, .ref m27, .ref m28, .ref m29, .ref m30, .ref m31, .ref m32, .ref m33, .ref m34, .int 0, .int 0, .ref m37, .ref m38, .ref m39, .ref m40, .ref m41, .ref m42, .ref m43, .ref m44, .ref m45, .ref m46])), (m15, .inl (k_hours, 144, .inl (fun _ => 0)))] sz) := by
  refine Met.ofW (cc := cX9_snow) (maxL := 4) (ret := (some .boolean)) (by decide) rfl ?_
  intro p e s m args below meth c s₁ B hml hv
  obtain ⟨rfl, hsz, hP, hK, hD0, hN⟩ := hv
  have hx := B.exec
  have hb := B.bytes
  have hr := B.returns
  have hts := atoms_spec (ws := wsX9_snow) B.pre
  have hown : s.vm.findClass RX9 = some m.cls := findClass_of_methodNamed B.named
  have hlocks := B.notSynchronized
  subst hsz
  have hin9 : ∀ w ∈ u_ws RX9 TX9 47, w ∈ wsX9_snow := by decide +kernel
  have hD := hD0.self (sz := s.heap.size)
  generalize hAe : va_A [(h0, .inr (9, [.int 0, .ref m1, .int 0, .int 0, .int 0, .ref m5, .ref m6, .ref m7, .int 0, .int 0, .int 0, .int 0, .int 0, .int 0, .long 0, .ref m15, .ref m16, .ref m17, .ref m18, .ref m19, .ref m20, .int 0, .ref m22, .ref m23, .ref m24, .ref m25, .ref m26, .ref m27, .ref m28, .ref m29, .ref m30, .ref m31, .ref m32, .ref m33, .ref m34, .int 0, .int 0, .ref m37, .ref m38, .ref m39, .ref m40, .ref m41, .ref m42, .ref m43, .ref m44, .ref m45, .ref m46])), (m15, .inl (k_hours, 144, .inl (fun _ => 0)))] s.heap.size = A at hD ⊢
  have hA : ∀ q : Nat, s.heap.size ≤ q → A q := fun q h => by rw [← hAe]; exact Or.inr h
  have hS : va_S A s.heap s.heap [] := va_S.rf
  have hP : va_P (dC, dI) vwCl [(h0, .inr (9, [.int 0, .ref m1, .int 0, .int 0, .int 0, .ref m5, .ref m6, .ref m7, .int 0, .int 0, .int 0, .int 0, .int 0, .int 0, .long 0, .ref m15, .ref m16, .ref m17, .ref m18, .ref m19, .ref m20, .int 0, .ref m22, .ref m23, .ref m24, .ref m25, .ref m26, .ref m27, .ref m28, .ref m29, .ref m30, .ref m31, .ref m32, .ref m33, .ref m34, .int 0, .int 0, .ref m37, .ref m38, .ref m39, .ref m40, .ref m41, .ref m42, .ref m43, .ref m44, .ref m45, .ref m46])), (m15, .inl (k_hours, 144, .inl (fun _ => 0)))] s.heap := hP
  have hl := lv_entry ([.ref h0, .int p0, .int p1, .int p2]) (n := 4) (Nat.le_of_ble_eq_true rfl)
  rw [lg_entry_eq]
  generalize (lg_sl ([.ref h0, .int p0, .int p1, .int p2]) ++ List.replicate (4 - (lg_sl ([.ref h0, .int p0, .int p1, .int p2])).length) Slot.unset).toArray = ls at hl ⊢
  have hl : lv_has ls 4 [(0, .ref h0), (1, .int p0), (2, .int p1), (3, .int p2)] := hl
  refine lv_aload_n hx hb dX9_snow_0 rfl (lv_at hl 0 rfl) ?_
  refine lv_iconst (v := 0) hx hb dX9_snow_1 (by decide) ?_
  refine va_put (D := (dC, dI)) (ci := 9) (v := .int 0) (ty := (tyX9 0)) (C := RX9) (T := TX9) (N := 47) hx hb hts hin9 tyX9 tyX9_ok nmX9 hown hK hP hD hS 0 rfl rfl 0 (by decide) (hts (.fieldLink RX9 111 "YamRidersModel" "thrown" "I") (by decide +kernel)) (fun _ h9 => h9) rfl (by decide +kernel) rfl rfl (Nat.le_of_ble_eq_true rfl) dX9_snow_2 (fun H locs hP hD hS => ?_)
  have hP : va_P (dC, dI) vwCl [(h0, .inr (9, [.int 0, .ref m1, .int 0, .int 0, .int 0, .ref m5, .ref m6, .ref m7, .int 0, .int 0, .int 0, .int 0, .int 0, .int 0, .long 0, .ref m15, .ref m16, .ref m17, .ref m18, .ref m19, .ref m20, .int 0, .ref m22, .ref m23, .ref m24, .ref m25, .ref m26, .ref m27, .ref m28, .ref m29, .ref m30, .ref m31, .ref m32, .ref m33, .ref m34, .int 0, .int 0, .ref m37, .ref m38, .ref m39, .ref m40, .ref m41, .ref m42, .ref m43, .ref m44, .ref m45, .ref m46])), (m15, .inl (k_hours, 144, .inl (fun _ => 0)))] H := hP
  have hD : va_D A [(h0, .inr (9, [.int 0, .ref m1, .int 0, .int 0, .int 0, .ref m5, .ref m6, .ref m7, .int 0, .int 0, .int 0, .int 0, .int 0, .int 0, .long 0, .ref m15, .ref m16, .ref m17, .ref m18, .ref m19, .ref m20, .int 0, .ref m22, .ref m23, .ref m24, .ref m25, .ref m26, .ref m27, .ref m28, .ref m29, .ref m30, .ref m31, .ref m32, .ref m33, .ref m34, .int 0, .int 0, .ref m37, .ref m38, .ref m39, .ref m40, .ref m41, .ref m42, .ref m43, .ref m44, .ref m45, .ref m46])), (m15, .inl (k_hours, 144, .inl (fun _ => 0)))] := hD
  refine lv_iload_n hx hb dX9_snow_5 rfl (lv_at hl 1 rfl) ?_
  have hPc := hP.sub (ws' := []) [] rfl
  have hDc := hD.sub (ws' := []) [] (by decide) rfl
  have hKc := hK.sub (tys' := []) [] rfl
  refine cs_i (va_runS (As := [.int p0]) (rest := []) ⟨hx, hb, hml, hown, hts⟩ (c_X9_isStation l dC dI p0 H.size) (va_cwS 1 hts gX9_snow_X9_isStation rfl rfl rfl (by decide +kernel) ⟨Nat.le_of_ble_eq_true rfl, Nat.le_of_ble_eq_true rfl⟩) ⟨c_blind, c_pre hPc hKc hDc hN⟩ rfl rfl hl.1 rfl (lv_room (Nat.le_of_ble_eq_true rfl)) dX9_snow_6 ⟨Nat.le_of_ble_eq_true rfl, Nat.le_of_ble_eq_true rfl⟩) (fun r_1 hr_1 => ?_)
  subst hr_1
  refine lv_if_eq (tgt := 38) hx hb dX9_snow_9 (by decide) (fun c_2 => ?_) (fun c_2 => ?_)
  · refine lv_iconst (v := 0) hx hb dX9_snow_38 (by decide) ?_
    have hP9 := hP.sub (ws' := []) [] rfl
    have hD9 := hD.sub (ws' := []) [] (by decide) rfl
    have hK9 := hK.sub (tys' := []) [] rfl
    refine W.widen (k := 0) (n := 0) (Nat.le_of_ble_eq_true rfl) (Nat.le_of_ble_eq_true rfl) ?_
    exact W.zret (v := 0) hx hb hr rfl (fun t9 ht hW => ⟨⟨_, (), rfl, rfl, by rw [ht]; exact hP9, va_K.moved hW.alike hK9, hD9⟩, hS.F ht⟩) hS.2.2 dX9_snow_39
  · refine lv_iload_n hx hb dX9_snow_12 rfl (lv_at hl 2 rfl) ?_
    have hPc := hP.sub (ws' := []) [] rfl
    have hDc := hD.sub (ws' := []) [] (by decide) rfl
    have hKc := hK.sub (tys' := []) [] rfl
    refine cs_i (va_runS (As := [.int p1]) (rest := []) ⟨hx, hb, hml, hown, hts⟩ (c_X9_isStation l dC dI p1 H.size) (va_cwS 1 hts gX9_snow_X9_isStation rfl rfl rfl (by decide +kernel) ⟨Nat.le_of_ble_eq_true rfl, Nat.le_of_ble_eq_true rfl⟩) ⟨c_blind, c_pre hPc hKc hDc hN⟩ rfl rfl hl.1 rfl (lv_room (Nat.le_of_ble_eq_true rfl)) dX9_snow_13 ⟨Nat.le_of_ble_eq_true rfl, Nat.le_of_ble_eq_true rfl⟩) (fun r_3 hr_3 => ?_)
    subst hr_3
    refine lv_if_eq (tgt := 38) hx hb dX9_snow_16 (by decide) (fun c_4 => ?_) (fun c_4 => ?_)
    · refine lv_iconst (v := 0) hx hb dX9_snow_38 (by decide) ?_
      have hP9 := hP.sub (ws' := []) [] rfl
      have hD9 := hD.sub (ws' := []) [] (by decide) rfl
      have hK9 := hK.sub (tys' := []) [] rfl
      refine W.widen (k := 0) (n := 0) (Nat.le_of_ble_eq_true rfl) (Nat.le_of_ble_eq_true rfl) ?_
      exact W.zret (v := 0) hx hb hr rfl (fun t9 ht hW => ⟨⟨_, (), rfl, rfl, by rw [ht]; exact hP9, va_K.moved hW.alike hK9, hD9⟩, hS.F ht⟩) hS.2.2 dX9_snow_39
    · refine lv_aload_n hx hb dX9_snow_19 rfl (lv_at hl 0 rfl) ?_
      refine lv_iload_n hx hb dX9_snow_20 rfl (lv_at hl 1 rfl) ?_
      refine lv_iload_n hx hb dX9_snow_21 rfl (lv_at hl 2 rfl) ?_
      have hPc := hP.sub (ws' := [(h0, .inr (9, [.int 0, .ref m1, .int 0, .int 0, .int 0, .ref m5, .ref m6, .ref m7, .int 0, .int 0, .int 0, .int 0, .int 0, .int 0, .long 0, .ref m15, .ref m16, .ref m17, .ref m18, .ref m19, .ref m20, .int 0, .ref m22, .ref m23, .ref m24, .ref m25, .ref m26, .ref m27, .ref m28, .ref m29, .ref m30, .ref m31, .ref m32, .ref m33, .ref m34, .int 0, .int 0, .ref m37, .ref m38, .ref m39, .ref m40, .ref m41, .ref m42, .ref m43, .ref m44, .ref m45, .ref m46])), (m15, .inl (k_hours, 144, .inl (fun _ => 0)))]) [0, 1] rfl
      have hDc := hD.sub (ws' := [(h0, .inr (9, [.int 0, .ref m1, .int 0, .int 0, .int 0, .ref m5, .ref m6, .ref m7, .int 0, .int 0, .int 0, .int 0, .int 0, .int 0, .long 0, .ref m15, .ref m16, .ref m17, .ref m18, .ref m19, .ref m20, .int 0, .ref m22, .ref m23, .ref m24, .ref m25, .ref m26, .ref m27, .ref m28, .ref m29, .ref m30, .ref m31, .ref m32, .ref m33, .ref m34, .int 0, .int 0, .ref m37, .ref m38, .ref m39, .ref m40, .ref m41, .ref m42, .ref m43, .ref m44, .ref m45, .ref m46])), (m15, .inl (k_hours, 144, .inl (fun _ => 0)))]) [0, 1] (by decide) rfl
      have hKc := hK.sub (tys' := [(k_hours, .int)]) [0] rfl
      refine cs_i (va_runV (As := [.int p0, .int p1]) (rest := []) ⟨hx, hb, hml, hown, hts⟩ (c_X9_roadOf l dC dI h0 m1 m5 m6 m7 m15 m16 m17 m18 m19 m20 m22 m23 m24 m25 m26 m27 m28 m29 m30 m31 m32 m33 m34 m37 m38 m39 m40 m41 m42 m43 m44 m45 m46 k_hours p0 p1 H.size c_2 c_4) (cwV 2 hts gX9_snow_X9_roadOf rfl rfl rfl (by decide +kernel) ⟨Nat.le_of_ble_eq_true rfl, Nat.le_of_ble_eq_true rfl⟩) ⟨c_blind, va_recv hKc hPc (ci := 9) (q0 := 0) rfl rfl, c_pre hPc hKc hDc hN⟩ rfl rfl hl.1 rfl (lv_room (Nat.le_of_ble_eq_true rfl)) dX9_snow_22 ⟨Nat.le_of_ble_eq_true rfl, Nat.le_of_ble_eq_true rfl⟩) (fun r_5 hr_5 => ?_)
      subst hr_5
      refine lv_if_eq (tgt := 38) hx hb dX9_snow_25 (by decide) (fun _ => ?_) (fun c_6 => by first | exact absurd c_6 (by decide) | exact absurd (by decide) c_6)
      refine lv_iconst (v := 0) hx hb dX9_snow_38 (by decide) ?_
      have hP9 := hP.sub (ws' := []) [] rfl
      have hD9 := hD.sub (ws' := []) [] (by decide) rfl
      have hK9 := hK.sub (tys' := []) [] rfl
      refine W.widen (k := 0) (n := 0) (Nat.le_of_ble_eq_true rfl) (Nat.le_of_ble_eq_true rfl) ?_
      exact W.zret (v := 0) hx hb hr rfl (fun t9 ht hW => ⟨⟨_, (), rfl, rfl, by rw [ht]; exact hP9, va_K.moved hW.alike hK9, hD9⟩, hS.F ht⟩) hS.2.2 dX9_snow_39

set_option maxHeartbeats 4000000 in
set_option maxRecDepth 100000 in
theorem c_X9_fodder (l : Launch) (dC : Nat → ClassId) (dI : Nat → Nat → Nat) (h0 : Nat) (m1 : Nat) (m5 : Nat) (m6 : Nat) (m7 : Nat) (m15 : Nat) (m16 : Nat) (m17 : Nat) (m18 : Nat) (m19 : Nat) (m20 : Nat) (m22 : Nat) (m23 : Nat) (m24 : Nat) (m25 : Nat) (m26 : Nat) (m27 : Nat) (m28 : Nat) (m29 : Nat) (m30 : Nat) (m31 : Nat) (m32 : Nat) (m33 : Nat) (m34 : Nat) (m37 : Nat) (m38 : Nat) (m39 : Nat) (m40 : Nat) (m41 : Nat) (m42 : Nat) (m43 : Nat) (m44 : Nat) (m45 : Nat) (m46 : Nat) (k_fodder : ClassId) (p0 : Int32) (p1 : Int32) (sz : Nat) : Met l yX9_fodder wsX9_fodder ({ frames := 1, cells := 0, slots := 0, locals := 20 }) (va_Pc [.ref h0, .int p0, .int p1] (cP dC dI [(h0, .inr (9, [.int 0, .ref m1, .int 0, .int 0, .int 0, .ref m5, .ref m6, .ref m7, .int 0, .int 0, .int 0, .int 0, .int 0, .int 0, .long 0, .ref m15, .ref m16, .ref m17, .ref m18, .ref m19, .ref m20, .int 0, .ref m22, .ref m23, .ref m24, .ref m25, .ref m26, .ref m27, .ref m28, .ref m29, .ref m30, .ref m31, .ref m32, .ref m33, .ref m34, .int 0, .int 0, .ref m37, .ref m38, .ref m39, .ref m40, .ref m41, .ref m42, .ref m43, .ref m44, .ref m45, .ref m46])), (m18, .inl (k_fodder, 12, .inl (fun _ => 0)))] [(k_fodder, .int)] sz)) (va_Qi (fun (r : Int32) (_ : Unit) => r = (if (sp_st p0) = 0 then (-1) else (if p1 < 1 then (-1) else (if 10000 < p1 then (-1) else (if (0 + p1) ≤ 100000 then 0 + p1 else (-1)))))) (fun (_ : Unit) t9 => cQ dC dI [] [] (va_A [(h0, .inr (9, [.int 0, .ref m1, .int 0, .int 0, .int 0, .ref m5, .ref m6, .ref m7, .int 0, .int 0, .int 0, .int 0, .int 0, .int 0, .long 0, .ref m15, .ref m16, .ref m17, .ref m18, .ref m19, .ref m20, .int 0, .ref m22, .ref m23, .ref m24, .ref m25, .ref m26, .ref m27, .ref m28, .ref m29, .ref m30, .ref m31, .ref m32, .ref m33, .ref m34, .int 0, .int 0, .ref m37, .ref m38, .ref m39, .ref m40, .ref m41, .ref m42, .ref m43, .ref m44, .ref m45, .ref m46])), (m18, .inl (k_fodder, 12, .inl (fun _ => 0)))] sz) t9) (va_A [(h0, .inr (9, [.int 0, .ref m1, .int 0, .int 0, .int 0, .ref m5, .ref m6, .ref m7, .int 0, .int 0, .int 0, .int 0, .int 0, .int 0, .long 0, .ref m15, .ref m16, .ref m17, .ref m18, .ref m19, .ref m20, .int 0, .ref m22, .ref m23, .ref m24, .ref m25, .ref m26, .ref m27, .ref m28, .ref m29, .ref m30, .ref m31, .ref m32, .ref m33, .ref m34, .int 0, .int 0, .ref m37, .ref m38, .ref m39, .ref m40, .ref m41, .ref m42, .ref m43, .ref m44, .ref m45, .ref m46])), (m18, .inl (k_fodder, 12, .inl (fun _ => 0)))] sz)) 0 0 (va_A [(h0, .inr (9, [.int 0, .ref m1, .int 0, .int 0, .int 0, .ref m5, .ref m6, .ref m7, .int 0, .int 0, .int 0, .int 0, .int 0, .int 0, .long 0, .ref m15, .ref m16, .ref m17, .ref m18, .ref m19, .ref m20, .int 0, .ref m22, .ref m23, .ref m24, .ref m25, .ref m26, .ref m27, .ref m28, .ref m29, .ref m30, .ref m31, .ref m32, .ref m33, .ref m34, .int 0, .int 0, .ref m37, .ref m38, .ref m39, .ref m40, .ref m41, .ref m42, .ref m43, .ref m44, .ref m45, .ref m46])), (m18, .inl (k_fodder, 12, .inl (fun _ => 0)))] sz) := by
  refine Met.ofW (cc := cX9_fodder) (maxL := 3) (ret := (some .int)) (by decide) rfl ?_
  intro p e s m args below meth c s₁ B hml hv
  obtain ⟨rfl, hsz, hP, hK, hD0, hN⟩ := hv
  have hx := B.exec
  have hb := B.bytes
  have hr := B.returns
  have hts := atoms_spec (ws := wsX9_fodder) B.pre
  have hown : s.vm.findClass RX9 = some m.cls := findClass_of_methodNamed B.named
  have hlocks := B.notSynchronized
  subst hsz
  have hin9 : ∀ w ∈ u_ws RX9 TX9 47, w ∈ wsX9_fodder := by decide +kernel
  have hD := hD0.self (sz := s.heap.size)
  generalize hAe : va_A [(h0, .inr (9, [.int 0, .ref m1, .int 0, .int 0, .int 0, .ref m5, .ref m6, .ref m7, .int 0, .int 0, .int 0, .int 0, .int 0, .int 0, .long 0, .ref m15, .ref m16, .ref m17, .ref m18, .ref m19, .ref m20, .int 0, .ref m22, .ref m23, .ref m24, .ref m25, .ref m26, .ref m27, .ref m28, .ref m29, .ref m30, .ref m31, .ref m32, .ref m33, .ref m34, .int 0, .int 0, .ref m37, .ref m38, .ref m39, .ref m40, .ref m41, .ref m42, .ref m43, .ref m44, .ref m45, .ref m46])), (m18, .inl (k_fodder, 12, .inl (fun _ => 0)))] s.heap.size = A at hD ⊢
  have hA : ∀ q : Nat, s.heap.size ≤ q → A q := fun q h => by rw [← hAe]; exact Or.inr h
  have hS : va_S A s.heap s.heap [] := va_S.rf
  have hP : va_P (dC, dI) vwCl [(h0, .inr (9, [.int 0, .ref m1, .int 0, .int 0, .int 0, .ref m5, .ref m6, .ref m7, .int 0, .int 0, .int 0, .int 0, .int 0, .int 0, .long 0, .ref m15, .ref m16, .ref m17, .ref m18, .ref m19, .ref m20, .int 0, .ref m22, .ref m23, .ref m24, .ref m25, .ref m26, .ref m27, .ref m28, .ref m29, .ref m30, .ref m31, .ref m32, .ref m33, .ref m34, .int 0, .int 0, .ref m37, .ref m38, .ref m39, .ref m40, .ref m41, .ref m42, .ref m43, .ref m44, .ref m45, .ref m46])), (m18, .inl (k_fodder, 12, .inl (fun _ => 0)))] s.heap := hP
  have hl := lv_entry ([.ref h0, .int p0, .int p1]) (n := 3) (Nat.le_of_ble_eq_true rfl)
  rw [lg_entry_eq]
  generalize (lg_sl ([.ref h0, .int p0, .int p1]) ++ List.replicate (3 - (lg_sl ([.ref h0, .int p0, .int p1])).length) Slot.unset).toArray = ls at hl ⊢
  have hl : lv_has ls 3 [(0, .ref h0), (1, .int p0), (2, .int p1)] := hl
  refine lv_aload_n hx hb dX9_fodder_0 rfl (lv_at hl 0 rfl) ?_
  refine lv_iconst (v := 0) hx hb dX9_fodder_1 (by decide) ?_
  refine va_put (D := (dC, dI)) (ci := 9) (v := .int 0) (ty := (tyX9 0)) (C := RX9) (T := TX9) (N := 47) hx hb hts hin9 tyX9 tyX9_ok nmX9 hown hK hP hD hS 0 rfl rfl 0 (by decide) (hts (.fieldLink RX9 111 "YamRidersModel" "thrown" "I") (by decide +kernel)) (fun _ h9 => h9) rfl (by decide +kernel) rfl rfl (Nat.le_of_ble_eq_true rfl) dX9_fodder_2 (fun H locs hP hD hS => ?_)
  have hP : va_P (dC, dI) vwCl [(h0, .inr (9, [.int 0, .ref m1, .int 0, .int 0, .int 0, .ref m5, .ref m6, .ref m7, .int 0, .int 0, .int 0, .int 0, .int 0, .int 0, .long 0, .ref m15, .ref m16, .ref m17, .ref m18, .ref m19, .ref m20, .int 0, .ref m22, .ref m23, .ref m24, .ref m25, .ref m26, .ref m27, .ref m28, .ref m29, .ref m30, .ref m31, .ref m32, .ref m33, .ref m34, .int 0, .int 0, .ref m37, .ref m38, .ref m39, .ref m40, .ref m41, .ref m42, .ref m43, .ref m44, .ref m45, .ref m46])), (m18, .inl (k_fodder, 12, .inl (fun _ => 0)))] H := hP
  have hD : va_D A [(h0, .inr (9, [.int 0, .ref m1, .int 0, .int 0, .int 0, .ref m5, .ref m6, .ref m7, .int 0, .int 0, .int 0, .int 0, .int 0, .int 0, .long 0, .ref m15, .ref m16, .ref m17, .ref m18, .ref m19, .ref m20, .int 0, .ref m22, .ref m23, .ref m24, .ref m25, .ref m26, .ref m27, .ref m28, .ref m29, .ref m30, .ref m31, .ref m32, .ref m33, .ref m34, .int 0, .int 0, .ref m37, .ref m38, .ref m39, .ref m40, .ref m41, .ref m42, .ref m43, .ref m44, .ref m45, .ref m46])), (m18, .inl (k_fodder, 12, .inl (fun _ => 0)))] := hD
  refine lv_iload_n hx hb dX9_fodder_5 rfl (lv_at hl 1 rfl) ?_
  have hPc := hP.sub (ws' := []) [] rfl
  have hDc := hD.sub (ws' := []) [] (by decide) rfl
  have hKc := hK.sub (tys' := []) [] rfl
  refine cs_i (va_runS (As := [.int p0]) (rest := []) ⟨hx, hb, hml, hown, hts⟩ (c_X9_isStation l dC dI p0 H.size) (va_cwS 1 hts gX9_fodder_X9_isStation rfl rfl rfl (by decide +kernel) ⟨Nat.le_of_ble_eq_true rfl, Nat.le_of_ble_eq_true rfl⟩) ⟨c_blind, c_pre hPc hKc hDc hN⟩ rfl rfl hl.1 rfl (lv_room (Nat.le_of_ble_eq_true rfl)) dX9_fodder_6 ⟨Nat.le_of_ble_eq_true rfl, Nat.le_of_ble_eq_true rfl⟩) (fun r_1 hr_1 => ?_)
  subst hr_1
  refine lv_if_eq (tgt := 37) hx hb dX9_fodder_9 (by decide) (fun c_2 => ?_) (fun c_2 => ?_)
  · refine lv_iconst (v := (-1)) hx hb dX9_fodder_37 (by decide) ?_
    have hP9 := hP.sub (ws' := []) [] rfl
    have hD9 := hD.sub (ws' := []) [] (by decide) rfl
    have hK9 := hK.sub (tys' := []) [] rfl
    refine W.widen (k := 0) (n := 0) (Nat.le_of_ble_eq_true rfl) (Nat.le_of_ble_eq_true rfl) ?_
    exact W.iret (v := (-1)) hx hb hr (fun t9 ht hW => ⟨⟨_, (), rfl, (by rw [if_pos c_2]), by rw [ht]; exact hP9, va_K.moved hW.alike hK9, hD9⟩, hS.F ht⟩) hS.2.2 dX9_fodder_38
  · refine lv_iload_n hx hb dX9_fodder_12 rfl (lv_at hl 2 rfl) ?_
    refine lv_iconst (v := 1) hx hb dX9_fodder_13 (by decide) ?_
    refine lv_icmp_lt (tgt := 37) hx hb dX9_fodder_14 (by decide) (fun c_3 => ?_) (fun c_3 => ?_)
    · refine lv_iconst (v := (-1)) hx hb dX9_fodder_37 (by decide) ?_
      have hP9 := hP.sub (ws' := []) [] rfl
      have hD9 := hD.sub (ws' := []) [] (by decide) rfl
      have hK9 := hK.sub (tys' := []) [] rfl
      refine W.widen (k := 0) (n := 0) (Nat.le_of_ble_eq_true rfl) (Nat.le_of_ble_eq_true rfl) ?_
      exact W.iret (v := (-1)) hx hb hr (fun t9 ht hW => ⟨⟨_, (), rfl, (by rw [if_neg c_2, if_pos c_3]), by rw [ht]; exact hP9, va_K.moved hW.alike hK9, hD9⟩, hS.F ht⟩) hS.2.2 dX9_fodder_38
    · refine lv_iload_n hx hb dX9_fodder_17 rfl (lv_at hl 2 rfl) ?_
      refine lv_sipush (v := 10000) hx hb dX9_fodder_18 (by decide) ?_
      refine lv_icmp_gt (tgt := 37) hx hb dX9_fodder_21 (by decide) (fun c_4 => ?_) (fun c_4 => ?_)
      · refine lv_iconst (v := (-1)) hx hb dX9_fodder_37 (by decide) ?_
        have hP9 := hP.sub (ws' := []) [] rfl
        have hD9 := hD.sub (ws' := []) [] (by decide) rfl
        have hK9 := hK.sub (tys' := []) [] rfl
        refine W.widen (k := 0) (n := 0) (Nat.le_of_ble_eq_true rfl) (Nat.le_of_ble_eq_true rfl) ?_
        exact W.iret (v := (-1)) hx hb hr (fun t9 ht hW => ⟨⟨_, (), rfl, (by rw [if_neg c_2, if_neg c_3, if_pos c_4]), by rw [ht]; exact hP9, va_K.moved hW.alike hK9, hD9⟩, hS.F ht⟩) hS.2.2 dX9_fodder_38
      · refine lv_aload_n hx hb dX9_fodder_24 rfl (lv_at hl 0 rfl) ?_
        refine va_get (D := (dC, dI)) (ci := 9) (v := .ref m18) (C := RX9) (T := TX9) (N := 47) hx hb hts hin9 hown hK hP 0 rfl rfl 18 (by decide) (hts (.fieldLink RX9 33 "YamRidersModel" "fodder" "[I") (by decide +kernel)) (fun _ h9 => h9) rfl dX9_fodder_25 ?_
        refine lv_iload_n hx hb dX9_fodder_28 rfl (lv_at hl 1 rfl) ?_
        refine va_iald hx hb hK hP 1 0 rfl rfl (st_in c_2) dX9_fodder_29 ?_
        refine lv_topi (fun v_5 ev_5 => ?_)
        obtain rfl : v_5 = 0 := ev_5.trans rfl
        refine lv_iload_n hx hb dX9_fodder_30 rfl (lv_at hl 2 rfl) ?_
        refine lv_iadd hx hb dX9_fodder_31 ?_
        refine lv_ldc (v := 100000) hx hb hown (hts (.constant RX9 201 (100000)) (by decide +kernel)) dX9_fodder_32 ?_
        refine lv_icmp_le (tgt := 39) hx hb dX9_fodder_34 (by decide) (fun c_6 => ?_) (fun c_6 => ?_)
        · refine lv_aload_n hx hb dX9_fodder_39 rfl (lv_at hl 0 rfl) ?_
          refine va_get (D := (dC, dI)) (ci := 9) (v := .ref m18) (C := RX9) (T := TX9) (N := 47) hx hb hts hin9 hown hK hP 0 rfl rfl 18 (by decide) (hts (.fieldLink RX9 33 "YamRidersModel" "fodder" "[I") (by decide +kernel)) (fun _ h9 => h9) rfl dX9_fodder_40 ?_
          refine lv_iload_n hx hb dX9_fodder_43 rfl (lv_at hl 1 rfl) ?_
          refine lv_dup2_11 hx hb dX9_fodder_44 rfl rfl ?_
          refine va_iald hx hb hK hP 1 0 rfl rfl (st_in c_2) dX9_fodder_45 ?_
          refine lv_topi (fun v_7 ev_7 => ?_)
          obtain rfl : v_7 = 0 := ev_7.trans rfl
          refine lv_iload_n hx hb dX9_fodder_46 rfl (lv_at hl 2 rfl) ?_
          refine lv_iadd hx hb dX9_fodder_47 ?_
          refine va_iast hx hb hK hP hD hS 1 0 rfl rfl (st_in c_2) dX9_fodder_48 (fun H locs hP hD hS => ?_)
          have hP : va_P (dC, dI) vwCl [(h0, .inr (9, [.int 0, .ref m1, .int 0, .int 0, .int 0, .ref m5, .ref m6, .ref m7, .int 0, .int 0, .int 0, .int 0, .int 0, .int 0, .long 0, .ref m15, .ref m16, .ref m17, .ref m18, .ref m19, .ref m20, .int 0, .ref m22, .ref m23, .ref m24, .ref m25, .ref m26, .ref m27, .ref m28, .ref m29, .ref m30, .ref m31, .ref m32, .ref m33, .ref m34, .int 0, .int 0, .ref m37, .ref m38, .ref m39, .ref m40, .ref m41, .ref m42, .ref m43, .ref m44, .ref m45, .ref m46])), (m18, .inl (k_fodder, 12, .inl (upd (fun _ => 0) p0.toNatClampNeg (0 + p1))))] H := hP
          have hD : va_D A [(h0, .inr (9, [.int 0, .ref m1, .int 0, .int 0, .int 0, .ref m5, .ref m6, .ref m7, .int 0, .int 0, .int 0, .int 0, .int 0, .int 0, .long 0, .ref m15, .ref m16, .ref m17, .ref m18, .ref m19, .ref m20, .int 0, .ref m22, .ref m23, .ref m24, .ref m25, .ref m26, .ref m27, .ref m28, .ref m29, .ref m30, .ref m31, .ref m32, .ref m33, .ref m34, .int 0, .int 0, .ref m37, .ref m38, .ref m39, .ref m40, .ref m41, .ref m42, .ref m43, .ref m44, .ref m45, .ref m46])), (m18, .inl (k_fodder, 12, .inl (upd (fun _ => 0) p0.toNatClampNeg (0 + p1))))] := hD
          obtain ⟨f_8, ef_8⟩ : ∃ w9 : Nat → Int32, w9 = upd (fun _ => 0) p0.toNatClampNeg (0 + p1) := ⟨_, rfl⟩
          rw [← ef_8] at hP hD
          refine lv_aload_n hx hb dX9_fodder_49 rfl (lv_at hl 0 rfl) ?_
          refine va_get (D := (dC, dI)) (ci := 9) (v := .ref m18) (C := RX9) (T := TX9) (N := 47) hx hb hts hin9 hown hK hP 0 rfl rfl 18 (by decide) (hts (.fieldLink RX9 33 "YamRidersModel" "fodder" "[I") (by decide +kernel)) (fun _ h9 => h9) rfl dX9_fodder_50 ?_
          refine lv_iload_n hx hb dX9_fodder_53 rfl (lv_at hl 1 rfl) ?_
          refine va_iald hx hb hK hP 1 0 rfl rfl (st_in c_2) dX9_fodder_54 ?_
          refine lv_topi (fun v_9 ev_9 => ?_)
          obtain rfl : v_9 = 0 + p1 := ev_9.trans (by rw [ef_8]; exact pk_us)
          have hP9 := hP.sub (ws' := []) [] rfl
          have hD9 := hD.sub (ws' := []) [] (by decide) rfl
          have hK9 := hK.sub (tys' := []) [] rfl
          refine W.widen (k := 0) (n := 0) (Nat.le_of_ble_eq_true rfl) (Nat.le_of_ble_eq_true rfl) ?_
          exact W.iret (v := 0 + p1) hx hb hr (fun t9 ht hW => ⟨⟨_, (), rfl, (by rw [if_neg c_2, if_neg c_3, if_neg c_4, if_pos c_6]), by rw [ht]; exact hP9, va_K.moved hW.alike hK9, hD9⟩, hS.F ht⟩) hS.2.2 dX9_fodder_55
        · refine lv_iconst (v := (-1)) hx hb dX9_fodder_37 (by decide) ?_
          have hP9 := hP.sub (ws' := []) [] rfl
          have hD9 := hD.sub (ws' := []) [] (by decide) rfl
          have hK9 := hK.sub (tys' := []) [] rfl
          refine W.widen (k := 0) (n := 0) (Nat.le_of_ble_eq_true rfl) (Nat.le_of_ble_eq_true rfl) ?_
          exact W.iret (v := (-1)) hx hb hr (fun t9 ht hW => ⟨⟨_, (), rfl, (by rw [if_neg c_2, if_neg c_3, if_neg c_4, if_neg c_6]), by rw [ht]; exact hP9, va_K.moved hW.alike hK9, hD9⟩, hS.F ht⟩) hS.2.2 dX9_fodder_38

set_option maxHeartbeats 4000000 in
set_option maxRecDepth 100000 in
theorem c_X9_horse (l : Launch) (dC : Nat → ClassId) (dI : Nat → Nat → Nat) (h0 : Nat) (m1 : Nat) (m5 : Nat) (m6 : Nat) (m7 : Nat) (m15 : Nat) (m16 : Nat) (m17 : Nat) (m18 : Nat) (m19 : Nat) (m20 : Nat) (m22 : Nat) (m23 : Nat) (m24 : Nat) (m25 : Nat) (m26 : Nat) (m27 : Nat) (m28 : Nat) (m29 : Nat) (m30 : Nat) (m31 : Nat) (m32 : Nat) (m33 : Nat) (m34 : Nat) (m37 : Nat) (m38 : Nat) (m39 : Nat) (m40 : Nat) (m41 : Nat) (m42 : Nat) (m43 : Nat) (m44 : Nat) (m45 : Nat) (m46 : Nat) (k_strength : ClassId) (k_stands : ClassId) (p0 : Int32) (p1 : Int32) (sz : Nat) : Met l yX9_horse wsX9_horse ({ frames := 1, cells := 0, slots := 0, locals := 20 }) (va_Pc [.ref h0, .int p0, .int p1] (cP dC dI [(h0, .inr (9, [.int 0, .ref m1, .int 0, .int 0, .int 0, .ref m5, .ref m6, .ref m7, .int 0, .int 0, .int 0, .int 0, .int 0, .int 0, .long 0, .ref m15, .ref m16, .ref m17, .ref m18, .ref m19, .ref m20, .int 0, .ref m22, .ref m23, .ref m24, .ref m25, .ref m26, .ref m27, .ref m28, .ref m29, .ref m30, .ref m31, .ref m32, .ref m33, .ref m34, .int 0, .int 0, .ref m37, .ref m38, .ref m39, .ref m40, .ref m41, .ref m42, .ref m43, .ref m44, .ref m45, .ref m46])), (m19, .inl (k_strength, 60, .inl (fun _ => 0))), (m20, .inl (k_stands, 60, .inl (fun _ => 0)))] [(k_strength, .int), (k_stands, .int)] sz)) (va_Qi (fun (r : Int32) (_ : Unit) => r = (if (sp_st p0) = 0 then (-1) else (if p1 < 0 then (-1) else (if p1 ≤ 100 then 0 else (-1))))) (fun (_ : Unit) t9 => cQ dC dI [] [] (va_A [(h0, .inr (9, [.int 0, .ref m1, .int 0, .int 0, .int 0, .ref m5, .ref m6, .ref m7, .int 0, .int 0, .int 0, .int 0, .int 0, .int 0, .long 0, .ref m15, .ref m16, .ref m17, .ref m18, .ref m19, .ref m20, .int 0, .ref m22, .ref m23, .ref m24, .ref m25, .ref m26, .ref m27, .ref m28, .ref m29, .ref m30, .ref m31, .ref m32, .ref m33, .ref m34, .int 0, .int 0, .ref m37, .ref m38, .ref m39, .ref m40, .ref m41, .ref m42, .ref m43, .ref m44, .ref m45, .ref m46])), (m19, .inl (k_strength, 60, .inl (fun _ => 0))), (m20, .inl (k_stands, 60, .inl (fun _ => 0)))] sz) t9) (va_A [(h0, .inr (9, [.int 0, .ref m1, .int 0, .int 0, .int 0, .ref m5, .ref m6, .ref m7, .int 0, .int 0, .int 0, .int 0, .int 0, .int 0, .long 0, .ref m15, .ref m16, .ref m17, .ref m18, .ref m19, .ref m20, .int 0, .ref m22, .ref m23, .ref m24, .ref m25, .ref m26, .ref m27, .ref m28, .ref m29, .ref m30, .ref m31, .ref m32, .ref m33, .ref m34, .int 0, .int 0, .ref m37, .ref m38, .ref m39, .ref m40, .ref m41, .ref m42, .ref m43, .ref m44, .ref m45, .ref m46])), (m19, .inl (k_strength, 60, .inl (fun _ => 0))), (m20, .inl (k_stands, 60, .inl (fun _ => 0)))] sz)) 0 0 (va_A [(h0, .inr (9, [.int 0, .ref m1, .int 0, .int 0, .int 0, .ref m5, .ref m6, .ref m7, .int 0, .int 0, .int 0, .int 0, .int 0, .int 0, .long 0, .ref m15, .ref m16, .ref m17, .ref m18, .ref m19, .ref m20, .int 0, .ref m22, .ref m23, .ref m24, .ref m25, .ref m26, .ref m27, .ref m28, .ref m29, .ref m30, .ref m31, .ref m32, .ref m33, .ref m34, .int 0, .int 0, .ref m37, .ref m38, .ref m39, .ref m40, .ref m41, .ref m42, .ref m43, .ref m44, .ref m45, .ref m46])), (m19, .inl (k_strength, 60, .inl (fun _ => 0))), (m20, .inl (k_stands, 60, .inl (fun _ => 0)))] sz) := by
  refine Met.ofW (cc := cX9_horse) (maxL := 3) (ret := (some .int)) (by decide) rfl ?_
  intro p e s m args below meth c s₁ B hml hv
  obtain ⟨rfl, hsz, hP, hK, hD0, hN⟩ := hv
  have hx := B.exec
  have hb := B.bytes
  have hr := B.returns
  have hts := atoms_spec (ws := wsX9_horse) B.pre
  have hown : s.vm.findClass RX9 = some m.cls := findClass_of_methodNamed B.named
  have hlocks := B.notSynchronized
  subst hsz
  have hin9 : ∀ w ∈ u_ws RX9 TX9 47, w ∈ wsX9_horse := by decide +kernel
  have hD := hD0.self (sz := s.heap.size)
  generalize hAe : va_A [(h0, .inr (9, [.int 0, .ref m1, .int 0, .int 0, .int 0, .ref m5, .ref m6, .ref m7, .int 0, .int 0, .int 0, .int 0, .int 0, .int 0, .long 0, .ref m15, .ref m16, .ref m17, .ref m18, .ref m19, .ref m20, .int 0, .ref m22, .ref m23, .ref m24, .ref m25, .ref m26, .ref m27, .ref m28, .ref m29, .ref m30, .ref m31, .ref m32, .ref m33, .ref m34, .int 0, .int 0, .ref m37, .ref m38, .ref m39, .ref m40, .ref m41, .ref m42, .ref m43, .ref m44, .ref m45, .ref m46])), (m19, .inl (k_strength, 60, .inl (fun _ => 0))), (m20, .inl (k_stands, 60, .inl (fun _ => 0)))] s.heap.size = A at hD ⊢
  have hA : ∀ q : Nat, s.heap.size ≤ q → A q := fun q h => by rw [← hAe]; exact Or.inr h
  have hS : va_S A s.heap s.heap [] := va_S.rf
  have hP : va_P (dC, dI) vwCl [(h0, .inr (9, [.int 0, .ref m1, .int 0, .int 0, .int 0, .ref m5, .ref m6, .ref m7, .int 0, .int 0, .int 0, .int 0, .int 0, .int 0, .long 0, .ref m15, .ref m16, .ref m17, .ref m18, .ref m19, .ref m20, .int 0, .ref m22, .ref m23, .ref m24, .ref m25, .ref m26, .ref m27, .ref m28, .ref m29, .ref m30, .ref m31, .ref m32, .ref m33, .ref m34, .int 0, .int 0, .ref m37, .ref m38, .ref m39, .ref m40, .ref m41, .ref m42, .ref m43, .ref m44, .ref m45, .ref m46])), (m19, .inl (k_strength, 60, .inl (fun _ => 0))), (m20, .inl (k_stands, 60, .inl (fun _ => 0)))] s.heap := hP
  have hl := lv_entry ([.ref h0, .int p0, .int p1]) (n := 3) (Nat.le_of_ble_eq_true rfl)
  rw [lg_entry_eq]
  generalize (lg_sl ([.ref h0, .int p0, .int p1]) ++ List.replicate (3 - (lg_sl ([.ref h0, .int p0, .int p1])).length) Slot.unset).toArray = ls at hl ⊢
  have hl : lv_has ls 3 [(0, .ref h0), (1, .int p0), (2, .int p1)] := hl
  refine lv_aload_n hx hb dX9_horse_0 rfl (lv_at hl 0 rfl) ?_
  refine lv_iconst (v := 0) hx hb dX9_horse_1 (by decide) ?_
  refine va_put (D := (dC, dI)) (ci := 9) (v := .int 0) (ty := (tyX9 0)) (C := RX9) (T := TX9) (N := 47) hx hb hts hin9 tyX9 tyX9_ok nmX9 hown hK hP hD hS 0 rfl rfl 0 (by decide) (hts (.fieldLink RX9 111 "YamRidersModel" "thrown" "I") (by decide +kernel)) (fun _ h9 => h9) rfl (by decide +kernel) rfl rfl (Nat.le_of_ble_eq_true rfl) dX9_horse_2 (fun H locs hP hD hS => ?_)
  have hP : va_P (dC, dI) vwCl [(h0, .inr (9, [.int 0, .ref m1, .int 0, .int 0, .int 0, .ref m5, .ref m6, .ref m7, .int 0, .int 0, .int 0, .int 0, .int 0, .int 0, .long 0, .ref m15, .ref m16, .ref m17, .ref m18, .ref m19, .ref m20, .int 0, .ref m22, .ref m23, .ref m24, .ref m25, .ref m26, .ref m27, .ref m28, .ref m29, .ref m30, .ref m31, .ref m32, .ref m33, .ref m34, .int 0, .int 0, .ref m37, .ref m38, .ref m39, .ref m40, .ref m41, .ref m42, .ref m43, .ref m44, .ref m45, .ref m46])), (m19, .inl (k_strength, 60, .inl (fun _ => 0))), (m20, .inl (k_stands, 60, .inl (fun _ => 0)))] H := hP
  have hD : va_D A [(h0, .inr (9, [.int 0, .ref m1, .int 0, .int 0, .int 0, .ref m5, .ref m6, .ref m7, .int 0, .int 0, .int 0, .int 0, .int 0, .int 0, .long 0, .ref m15, .ref m16, .ref m17, .ref m18, .ref m19, .ref m20, .int 0, .ref m22, .ref m23, .ref m24, .ref m25, .ref m26, .ref m27, .ref m28, .ref m29, .ref m30, .ref m31, .ref m32, .ref m33, .ref m34, .int 0, .int 0, .ref m37, .ref m38, .ref m39, .ref m40, .ref m41, .ref m42, .ref m43, .ref m44, .ref m45, .ref m46])), (m19, .inl (k_strength, 60, .inl (fun _ => 0))), (m20, .inl (k_stands, 60, .inl (fun _ => 0)))] := hD
  refine lv_aload_n hx hb dX9_horse_5 rfl (lv_at hl 0 rfl) ?_
  refine va_get (D := (dC, dI)) (ci := 9) (v := .int 0) (C := RX9) (T := TX9) (N := 47) hx hb hts hin9 hown hK hP 0 rfl rfl 21 (by decide) (hts (.fieldLink RX9 202 "YamRidersModel" "horses" "I") (by decide +kernel)) (fun _ h9 => h9) rfl dX9_horse_6 ?_
  refine lv_bipush (v := 60) hx hb dX9_horse_9 (by decide) ?_
  refine lv_icmp_eq (tgt := 31) hx hb dX9_horse_11 (by decide) (fun c_1 => by first | exact absurd c_1 (by decide) | exact absurd (by decide) c_1) (fun _ => ?_)
  refine lv_iload_n hx hb dX9_horse_14 rfl (lv_at hl 1 rfl) ?_
  have hPc := hP.sub (ws' := []) [] rfl
  have hDc := hD.sub (ws' := []) [] (by decide) rfl
  have hKc := hK.sub (tys' := []) [] rfl
  refine cs_i (va_runS (As := [.int p0]) (rest := []) ⟨hx, hb, hml, hown, hts⟩ (c_X9_isStation l dC dI p0 H.size) (va_cwS 1 hts gX9_horse_X9_isStation rfl rfl rfl (by decide +kernel) ⟨Nat.le_of_ble_eq_true rfl, Nat.le_of_ble_eq_true rfl⟩) ⟨c_blind, c_pre hPc hKc hDc hN⟩ rfl rfl hl.1 rfl (lv_room (Nat.le_of_ble_eq_true rfl)) dX9_horse_15 ⟨Nat.le_of_ble_eq_true rfl, Nat.le_of_ble_eq_true rfl⟩) (fun r_2 hr_2 => ?_)
  subst hr_2
  refine lv_if_eq (tgt := 31) hx hb dX9_horse_18 (by decide) (fun c_3 => ?_) (fun c_3 => ?_)
  · refine lv_iconst (v := (-1)) hx hb dX9_horse_31 (by decide) ?_
    have hP9 := hP.sub (ws' := []) [] rfl
    have hD9 := hD.sub (ws' := []) [] (by decide) rfl
    have hK9 := hK.sub (tys' := []) [] rfl
    refine W.widen (k := 0) (n := 0) (Nat.le_of_ble_eq_true rfl) (Nat.le_of_ble_eq_true rfl) ?_
    exact W.iret (v := (-1)) hx hb hr (fun t9 ht hW => ⟨⟨_, (), rfl, (by rw [if_pos c_3]), by rw [ht]; exact hP9, va_K.moved hW.alike hK9, hD9⟩, hS.F ht⟩) hS.2.2 dX9_horse_32
  · refine lv_iload_n hx hb dX9_horse_21 rfl (lv_at hl 2 rfl) ?_
    refine lv_if_lt (tgt := 31) hx hb dX9_horse_22 (by decide) (fun c_4 => ?_) (fun c_4 => ?_)
    · refine lv_iconst (v := (-1)) hx hb dX9_horse_31 (by decide) ?_
      have hP9 := hP.sub (ws' := []) [] rfl
      have hD9 := hD.sub (ws' := []) [] (by decide) rfl
      have hK9 := hK.sub (tys' := []) [] rfl
      refine W.widen (k := 0) (n := 0) (Nat.le_of_ble_eq_true rfl) (Nat.le_of_ble_eq_true rfl) ?_
      exact W.iret (v := (-1)) hx hb hr (fun t9 ht hW => ⟨⟨_, (), rfl, (by rw [if_neg c_3, if_pos c_4]), by rw [ht]; exact hP9, va_K.moved hW.alike hK9, hD9⟩, hS.F ht⟩) hS.2.2 dX9_horse_32
    · refine lv_iload_n hx hb dX9_horse_25 rfl (lv_at hl 2 rfl) ?_
      refine lv_bipush (v := 100) hx hb dX9_horse_26 (by decide) ?_
      refine lv_icmp_le (tgt := 33) hx hb dX9_horse_28 (by decide) (fun c_5 => ?_) (fun c_5 => ?_)
      · refine lv_aload_n hx hb dX9_horse_33 rfl (lv_at hl 0 rfl) ?_
        refine va_get (D := (dC, dI)) (ci := 9) (v := .ref m19) (C := RX9) (T := TX9) (N := 47) hx hb hts hin9 hown hK hP 0 rfl rfl 19 (by decide) (hts (.fieldLink RX9 36 "YamRidersModel" "strength" "[I") (by decide +kernel)) (fun _ h9 => h9) rfl dX9_horse_34 ?_
        refine lv_aload_n hx hb dX9_horse_37 rfl (lv_at hl 0 rfl) ?_
        refine va_get (D := (dC, dI)) (ci := 9) (v := .int 0) (C := RX9) (T := TX9) (N := 47) hx hb hts hin9 hown hK hP 0 rfl rfl 21 (by decide) (hts (.fieldLink RX9 202 "YamRidersModel" "horses" "I") (by decide +kernel)) (fun _ h9 => h9) rfl dX9_horse_38 ?_
        refine lv_iload_n hx hb dX9_horse_41 rfl (lv_at hl 2 rfl) ?_
        refine va_iast hx hb hK hP hD hS 1 0 rfl rfl (by unfold vp_in; decide) dX9_horse_42 (fun H locs hP hD hS => ?_)
        have hP : va_P (dC, dI) vwCl [(h0, .inr (9, [.int 0, .ref m1, .int 0, .int 0, .int 0, .ref m5, .ref m6, .ref m7, .int 0, .int 0, .int 0, .int 0, .int 0, .int 0, .long 0, .ref m15, .ref m16, .ref m17, .ref m18, .ref m19, .ref m20, .int 0, .ref m22, .ref m23, .ref m24, .ref m25, .ref m26, .ref m27, .ref m28, .ref m29, .ref m30, .ref m31, .ref m32, .ref m33, .ref m34, .int 0, .int 0, .ref m37, .ref m38, .ref m39, .ref m40, .ref m41, .ref m42, .ref m43, .ref m44, .ref m45, .ref m46])), (m19, .inl (k_strength, 60, .inl (upd (fun _ => 0) (0 : Int32).toNatClampNeg p1))), (m20, .inl (k_stands, 60, .inl (fun _ => 0)))] H := hP
        have hD : va_D A [(h0, .inr (9, [.int 0, .ref m1, .int 0, .int 0, .int 0, .ref m5, .ref m6, .ref m7, .int 0, .int 0, .int 0, .int 0, .int 0, .int 0, .long 0, .ref m15, .ref m16, .ref m17, .ref m18, .ref m19, .ref m20, .int 0, .ref m22, .ref m23, .ref m24, .ref m25, .ref m26, .ref m27, .ref m28, .ref m29, .ref m30, .ref m31, .ref m32, .ref m33, .ref m34, .int 0, .int 0, .ref m37, .ref m38, .ref m39, .ref m40, .ref m41, .ref m42, .ref m43, .ref m44, .ref m45, .ref m46])), (m19, .inl (k_strength, 60, .inl (upd (fun _ => 0) (0 : Int32).toNatClampNeg p1))), (m20, .inl (k_stands, 60, .inl (fun _ => 0)))] := hD
        obtain ⟨f_6, ef_6⟩ : ∃ w9 : Nat → Int32, w9 = upd (fun _ => 0) (0 : Int32).toNatClampNeg p1 := ⟨_, rfl⟩
        rw [← ef_6] at hP hD
        refine lv_aload_n hx hb dX9_horse_43 rfl (lv_at hl 0 rfl) ?_
        refine va_get (D := (dC, dI)) (ci := 9) (v := .ref m20) (C := RX9) (T := TX9) (N := 47) hx hb hts hin9 hown hK hP 0 rfl rfl 20 (by decide) (hts (.fieldLink RX9 39 "YamRidersModel" "stands" "[I") (by decide +kernel)) (fun _ h9 => h9) rfl dX9_horse_44 ?_
        refine lv_aload_n hx hb dX9_horse_47 rfl (lv_at hl 0 rfl) ?_
        refine va_get (D := (dC, dI)) (ci := 9) (v := .int 0) (C := RX9) (T := TX9) (N := 47) hx hb hts hin9 hown hK hP 0 rfl rfl 21 (by decide) (hts (.fieldLink RX9 202 "YamRidersModel" "horses" "I") (by decide +kernel)) (fun _ h9 => h9) rfl dX9_horse_48 ?_
        refine lv_iload_n hx hb dX9_horse_51 rfl (lv_at hl 1 rfl) ?_
        refine va_iast hx hb hK hP hD hS 2 1 rfl rfl (by unfold vp_in; decide) dX9_horse_52 (fun H locs hP hD hS => ?_)
        have hP : va_P (dC, dI) vwCl [(h0, .inr (9, [.int 0, .ref m1, .int 0, .int 0, .int 0, .ref m5, .ref m6, .ref m7, .int 0, .int 0, .int 0, .int 0, .int 0, .int 0, .long 0, .ref m15, .ref m16, .ref m17, .ref m18, .ref m19, .ref m20, .int 0, .ref m22, .ref m23, .ref m24, .ref m25, .ref m26, .ref m27, .ref m28, .ref m29, .ref m30, .ref m31, .ref m32, .ref m33, .ref m34, .int 0, .int 0, .ref m37, .ref m38, .ref m39, .ref m40, .ref m41, .ref m42, .ref m43, .ref m44, .ref m45, .ref m46])), (m19, .inl (k_strength, 60, .inl f_6)), (m20, .inl (k_stands, 60, .inl (upd (fun _ => 0) (0 : Int32).toNatClampNeg p0)))] H := hP
        have hD : va_D A [(h0, .inr (9, [.int 0, .ref m1, .int 0, .int 0, .int 0, .ref m5, .ref m6, .ref m7, .int 0, .int 0, .int 0, .int 0, .int 0, .int 0, .long 0, .ref m15, .ref m16, .ref m17, .ref m18, .ref m19, .ref m20, .int 0, .ref m22, .ref m23, .ref m24, .ref m25, .ref m26, .ref m27, .ref m28, .ref m29, .ref m30, .ref m31, .ref m32, .ref m33, .ref m34, .int 0, .int 0, .ref m37, .ref m38, .ref m39, .ref m40, .ref m41, .ref m42, .ref m43, .ref m44, .ref m45, .ref m46])), (m19, .inl (k_strength, 60, .inl f_6)), (m20, .inl (k_stands, 60, .inl (upd (fun _ => 0) (0 : Int32).toNatClampNeg p0)))] := hD
        obtain ⟨f_7, ef_7⟩ : ∃ w9 : Nat → Int32, w9 = upd (fun _ => 0) (0 : Int32).toNatClampNeg p0 := ⟨_, rfl⟩
        rw [← ef_7] at hP hD
        refine lv_aload_n hx hb dX9_horse_53 rfl (lv_at hl 0 rfl) ?_
        refine lv_dup hx hb dX9_horse_54 rfl ?_
        refine va_get (D := (dC, dI)) (ci := 9) (v := .int 0) (C := RX9) (T := TX9) (N := 47) hx hb hts hin9 hown hK hP 0 rfl rfl 21 (by decide) (hts (.fieldLink RX9 202 "YamRidersModel" "horses" "I") (by decide +kernel)) (fun _ h9 => h9) rfl dX9_horse_55 ?_
        refine lv_iconst (v := 1) hx hb dX9_horse_58 (by decide) ?_
        refine lv_iadd hx hb dX9_horse_59 ?_
        refine lv_topi (fun y_8 ey_8 => ?_)
        obtain rfl : y_8 = 1 := ey_8.trans (by decide)
        refine va_put (D := (dC, dI)) (ci := 9) (v := .int 1) (ty := (tyX9 21)) (C := RX9) (T := TX9) (N := 47) hx hb hts hin9 tyX9 tyX9_ok nmX9 hown hK hP hD hS 0 rfl rfl 21 (by decide) (hts (.fieldLink RX9 202 "YamRidersModel" "horses" "I") (by decide +kernel)) (fun _ h9 => h9) rfl (by decide +kernel) rfl rfl (Nat.le_of_ble_eq_true rfl) dX9_horse_60 (fun H locs hP hD hS => ?_)
        have hP : va_P (dC, dI) vwCl [(h0, .inr (9, [.int 0, .ref m1, .int 0, .int 0, .int 0, .ref m5, .ref m6, .ref m7, .int 0, .int 0, .int 0, .int 0, .int 0, .int 0, .long 0, .ref m15, .ref m16, .ref m17, .ref m18, .ref m19, .ref m20, .int 1, .ref m22, .ref m23, .ref m24, .ref m25, .ref m26, .ref m27, .ref m28, .ref m29, .ref m30, .ref m31, .ref m32, .ref m33, .ref m34, .int 0, .int 0, .ref m37, .ref m38, .ref m39, .ref m40, .ref m41, .ref m42, .ref m43, .ref m44, .ref m45, .ref m46])), (m19, .inl (k_strength, 60, .inl f_6)), (m20, .inl (k_stands, 60, .inl f_7))] H := hP
        have hD : va_D A [(h0, .inr (9, [.int 0, .ref m1, .int 0, .int 0, .int 0, .ref m5, .ref m6, .ref m7, .int 0, .int 0, .int 0, .int 0, .int 0, .int 0, .long 0, .ref m15, .ref m16, .ref m17, .ref m18, .ref m19, .ref m20, .int 1, .ref m22, .ref m23, .ref m24, .ref m25, .ref m26, .ref m27, .ref m28, .ref m29, .ref m30, .ref m31, .ref m32, .ref m33, .ref m34, .int 0, .int 0, .ref m37, .ref m38, .ref m39, .ref m40, .ref m41, .ref m42, .ref m43, .ref m44, .ref m45, .ref m46])), (m19, .inl (k_strength, 60, .inl f_6)), (m20, .inl (k_stands, 60, .inl f_7))] := hD
        refine lv_aload_n hx hb dX9_horse_63 rfl (lv_at hl 0 rfl) ?_
        refine va_get (D := (dC, dI)) (ci := 9) (v := .int 1) (C := RX9) (T := TX9) (N := 47) hx hb hts hin9 hown hK hP 0 rfl rfl 21 (by decide) (hts (.fieldLink RX9 202 "YamRidersModel" "horses" "I") (by decide +kernel)) (fun _ h9 => h9) rfl dX9_horse_64 ?_
        refine lv_iconst (v := 1) hx hb dX9_horse_67 (by decide) ?_
        refine lv_isub hx hb dX9_horse_68 ?_
        refine lv_topi (fun y_9 ey_9 => ?_)
        obtain rfl : y_9 = 0 := ey_9.trans (by decide)
        have hP9 := hP.sub (ws' := []) [] rfl
        have hD9 := hD.sub (ws' := []) [] (by decide) rfl
        have hK9 := hK.sub (tys' := []) [] rfl
        refine W.widen (k := 0) (n := 0) (Nat.le_of_ble_eq_true rfl) (Nat.le_of_ble_eq_true rfl) ?_
        exact W.iret (v := 0) hx hb hr (fun t9 ht hW => ⟨⟨_, (), rfl, (by rw [if_neg c_3, if_neg c_4, if_pos c_5]), by rw [ht]; exact hP9, va_K.moved hW.alike hK9, hD9⟩, hS.F ht⟩) hS.2.2 dX9_horse_69
      · refine lv_iconst (v := (-1)) hx hb dX9_horse_31 (by decide) ?_
        have hP9 := hP.sub (ws' := []) [] rfl
        have hD9 := hD.sub (ws' := []) [] (by decide) rfl
        have hK9 := hK.sub (tys' := []) [] rfl
        refine W.widen (k := 0) (n := 0) (Nat.le_of_ble_eq_true rfl) (Nat.le_of_ble_eq_true rfl) ?_
        exact W.iret (v := (-1)) hx hb hr (fun t9 ht hW => ⟨⟨_, (), rfl, (by rw [if_neg c_3, if_neg c_4, if_neg c_5]), by rw [ht]; exact hP9, va_K.moved hW.alike hK9, hD9⟩, hS.F ht⟩) hS.2.2 dX9_horse_32

set_option maxHeartbeats 4000000 in
set_option maxRecDepth 100000 in
theorem c_X9_tablet (l : Launch) (dC : Nat → ClassId) (dI : Nat → Nat → Nat) (h0 : Nat) (m1 : Nat) (m5 : Nat) (m6 : Nat) (m7 : Nat) (m15 : Nat) (m16 : Nat) (m17 : Nat) (m18 : Nat) (m19 : Nat) (m20 : Nat) (m22 : Nat) (m23 : Nat) (m24 : Nat) (m25 : Nat) (m26 : Nat) (m27 : Nat) (m28 : Nat) (m29 : Nat) (m30 : Nat) (m31 : Nat) (m32 : Nat) (m33 : Nat) (m34 : Nat) (m37 : Nat) (m38 : Nat) (m39 : Nat) (m40 : Nat) (m41 : Nat) (m42 : Nat) (m43 : Nat) (m44 : Nat) (m45 : Nat) (m46 : Nat) (k_rank : ClassId) (k_voidSince : ClassId) (p0 : Int32) (sz : Nat) : Met l yX9_tablet wsX9_tablet ({ frames := 0, cells := 0, slots := 0, locals := 0 }) (va_Pc [.ref h0, .int p0] (cP dC dI [(h0, .inr (9, [.int 0, .ref m1, .int 0, .int 0, .int 0, .ref m5, .ref m6, .ref m7, .int 0, .int 0, .int 0, .int 0, .int 0, .int 0, .long 0, .ref m15, .ref m16, .ref m17, .ref m18, .ref m19, .ref m20, .int 0, .ref m22, .ref m23, .ref m24, .ref m25, .ref m26, .ref m27, .ref m28, .ref m29, .ref m30, .ref m31, .ref m32, .ref m33, .ref m34, .int 0, .int 0, .ref m37, .ref m38, .ref m39, .ref m40, .ref m41, .ref m42, .ref m43, .ref m44, .ref m45, .ref m46])), (m22, .inl (k_rank, 20, .inl (fun _ => 0))), (m23, .inl (k_voidSince, 240, .inl (fun _ => 0)))] [(k_rank, .int), (k_voidSince, .int)] sz)) (va_Qi (fun (r : Int32) (_ : Unit) => r = (if p0 < 1 then (-1) else (if p0 ≤ 3 then 0 else (-1)))) (fun (_ : Unit) t9 => cQ dC dI [] [] (va_A [(h0, .inr (9, [.int 0, .ref m1, .int 0, .int 0, .int 0, .ref m5, .ref m6, .ref m7, .int 0, .int 0, .int 0, .int 0, .int 0, .int 0, .long 0, .ref m15, .ref m16, .ref m17, .ref m18, .ref m19, .ref m20, .int 0, .ref m22, .ref m23, .ref m24, .ref m25, .ref m26, .ref m27, .ref m28, .ref m29, .ref m30, .ref m31, .ref m32, .ref m33, .ref m34, .int 0, .int 0, .ref m37, .ref m38, .ref m39, .ref m40, .ref m41, .ref m42, .ref m43, .ref m44, .ref m45, .ref m46])), (m22, .inl (k_rank, 20, .inl (fun _ => 0))), (m23, .inl (k_voidSince, 240, .inl (fun _ => 0)))] sz) t9) (va_A [(h0, .inr (9, [.int 0, .ref m1, .int 0, .int 0, .int 0, .ref m5, .ref m6, .ref m7, .int 0, .int 0, .int 0, .int 0, .int 0, .int 0, .long 0, .ref m15, .ref m16, .ref m17, .ref m18, .ref m19, .ref m20, .int 0, .ref m22, .ref m23, .ref m24, .ref m25, .ref m26, .ref m27, .ref m28, .ref m29, .ref m30, .ref m31, .ref m32, .ref m33, .ref m34, .int 0, .int 0, .ref m37, .ref m38, .ref m39, .ref m40, .ref m41, .ref m42, .ref m43, .ref m44, .ref m45, .ref m46])), (m22, .inl (k_rank, 20, .inl (fun _ => 0))), (m23, .inl (k_voidSince, 240, .inl (fun _ => 0)))] sz)) 0 0 (va_A [(h0, .inr (9, [.int 0, .ref m1, .int 0, .int 0, .int 0, .ref m5, .ref m6, .ref m7, .int 0, .int 0, .int 0, .int 0, .int 0, .int 0, .long 0, .ref m15, .ref m16, .ref m17, .ref m18, .ref m19, .ref m20, .int 0, .ref m22, .ref m23, .ref m24, .ref m25, .ref m26, .ref m27, .ref m28, .ref m29, .ref m30, .ref m31, .ref m32, .ref m33, .ref m34, .int 0, .int 0, .ref m37, .ref m38, .ref m39, .ref m40, .ref m41, .ref m42, .ref m43, .ref m44, .ref m45, .ref m46])), (m22, .inl (k_rank, 20, .inl (fun _ => 0))), (m23, .inl (k_voidSince, 240, .inl (fun _ => 0)))] sz) := by
  refine Met.ofW (cc := cX9_tablet) (maxL := 3) (ret := (some .int)) (by decide) rfl ?_
  intro p e s m args below meth c s₁ B hml hv
  obtain ⟨rfl, hsz, hP, hK, hD0, hN⟩ := hv
  have hx := B.exec
  have hb := B.bytes
  have hr := B.returns
  have hts := atoms_spec (ws := wsX9_tablet) B.pre
  have hown : s.vm.findClass RX9 = some m.cls := findClass_of_methodNamed B.named
  have hlocks := B.notSynchronized
  subst hsz
  have hin9 : ∀ w ∈ u_ws RX9 TX9 47, w ∈ wsX9_tablet := by decide +kernel
  have hD := hD0.self (sz := s.heap.size)
  generalize hAe : va_A [(h0, .inr (9, [.int 0, .ref m1, .int 0, .int 0, .int 0, .ref m5, .ref m6, .ref m7, .int 0, .int 0, .int 0, .int 0, .int 0, .int 0, .long 0, .ref m15, .ref m16, .ref m17, .ref m18, .ref m19, .ref m20, .int 0, .ref m22, .ref m23, .ref m24, .ref m25, .ref m26, .ref m27, .ref m28, .ref m29, .ref m30, .ref m31, .ref m32, .ref m33, .ref m34, .int 0, .int 0, .ref m37, .ref m38, .ref m39, .ref m40, .ref m41, .ref m42, .ref m43, .ref m44, .ref m45, .ref m46])), (m22, .inl (k_rank, 20, .inl (fun _ => 0))), (m23, .inl (k_voidSince, 240, .inl (fun _ => 0)))] s.heap.size = A at hD ⊢
  have hA : ∀ q : Nat, s.heap.size ≤ q → A q := fun q h => by rw [← hAe]; exact Or.inr h
  have hS : va_S A s.heap s.heap [] := va_S.rf
  have hP : va_P (dC, dI) vwCl [(h0, .inr (9, [.int 0, .ref m1, .int 0, .int 0, .int 0, .ref m5, .ref m6, .ref m7, .int 0, .int 0, .int 0, .int 0, .int 0, .int 0, .long 0, .ref m15, .ref m16, .ref m17, .ref m18, .ref m19, .ref m20, .int 0, .ref m22, .ref m23, .ref m24, .ref m25, .ref m26, .ref m27, .ref m28, .ref m29, .ref m30, .ref m31, .ref m32, .ref m33, .ref m34, .int 0, .int 0, .ref m37, .ref m38, .ref m39, .ref m40, .ref m41, .ref m42, .ref m43, .ref m44, .ref m45, .ref m46])), (m22, .inl (k_rank, 20, .inl (fun _ => 0))), (m23, .inl (k_voidSince, 240, .inl (fun _ => 0)))] s.heap := hP
  have hl := lv_entry ([.ref h0, .int p0]) (n := 3) (Nat.le_of_ble_eq_true rfl)
  rw [lg_entry_eq]
  generalize (lg_sl ([.ref h0, .int p0]) ++ List.replicate (3 - (lg_sl ([.ref h0, .int p0])).length) Slot.unset).toArray = ls at hl ⊢
  have hl : lv_has ls 3 [(0, .ref h0), (1, .int p0)] := hl
  refine lv_aload_n hx hb dX9_tablet_0 rfl (lv_at hl 0 rfl) ?_
  refine lv_iconst (v := 0) hx hb dX9_tablet_1 (by decide) ?_
  refine va_put (D := (dC, dI)) (ci := 9) (v := .int 0) (ty := (tyX9 0)) (C := RX9) (T := TX9) (N := 47) hx hb hts hin9 tyX9 tyX9_ok nmX9 hown hK hP hD hS 0 rfl rfl 0 (by decide) (hts (.fieldLink RX9 111 "YamRidersModel" "thrown" "I") (by decide +kernel)) (fun _ h9 => h9) rfl (by decide +kernel) rfl rfl (Nat.le_of_ble_eq_true rfl) dX9_tablet_2 (fun H locs hP hD hS => ?_)
  have hP : va_P (dC, dI) vwCl [(h0, .inr (9, [.int 0, .ref m1, .int 0, .int 0, .int 0, .ref m5, .ref m6, .ref m7, .int 0, .int 0, .int 0, .int 0, .int 0, .int 0, .long 0, .ref m15, .ref m16, .ref m17, .ref m18, .ref m19, .ref m20, .int 0, .ref m22, .ref m23, .ref m24, .ref m25, .ref m26, .ref m27, .ref m28, .ref m29, .ref m30, .ref m31, .ref m32, .ref m33, .ref m34, .int 0, .int 0, .ref m37, .ref m38, .ref m39, .ref m40, .ref m41, .ref m42, .ref m43, .ref m44, .ref m45, .ref m46])), (m22, .inl (k_rank, 20, .inl (fun _ => 0))), (m23, .inl (k_voidSince, 240, .inl (fun _ => 0)))] H := hP
  have hD : va_D A [(h0, .inr (9, [.int 0, .ref m1, .int 0, .int 0, .int 0, .ref m5, .ref m6, .ref m7, .int 0, .int 0, .int 0, .int 0, .int 0, .int 0, .long 0, .ref m15, .ref m16, .ref m17, .ref m18, .ref m19, .ref m20, .int 0, .ref m22, .ref m23, .ref m24, .ref m25, .ref m26, .ref m27, .ref m28, .ref m29, .ref m30, .ref m31, .ref m32, .ref m33, .ref m34, .int 0, .int 0, .ref m37, .ref m38, .ref m39, .ref m40, .ref m41, .ref m42, .ref m43, .ref m44, .ref m45, .ref m46])), (m22, .inl (k_rank, 20, .inl (fun _ => 0))), (m23, .inl (k_voidSince, 240, .inl (fun _ => 0)))] := hD
  refine lv_aload_n hx hb dX9_tablet_5 rfl (lv_at hl 0 rfl) ?_
  refine va_get (D := (dC, dI)) (ci := 9) (v := .int 0) (C := RX9) (T := TX9) (N := 47) hx hb hts hin9 hown hK hP 0 rfl rfl 35 (by decide) (hts (.fieldLink RX9 205 "YamRidersModel" "tablets" "I") (by decide +kernel)) (fun _ h9 => h9) rfl dX9_tablet_6 ?_
  refine lv_bipush (v := 20) hx hb dX9_tablet_9 (by decide) ?_
  refine lv_icmp_eq (tgt := 24) hx hb dX9_tablet_11 (by decide) (fun c_1 => by first | exact absurd c_1 (by decide) | exact absurd (by decide) c_1) (fun _ => ?_)
  refine lv_iload_n hx hb dX9_tablet_14 rfl (lv_at hl 1 rfl) ?_
  refine lv_iconst (v := 1) hx hb dX9_tablet_15 (by decide) ?_
  refine lv_icmp_lt (tgt := 24) hx hb dX9_tablet_16 (by decide) (fun c_2 => ?_) (fun c_2 => ?_)
  · refine lv_iconst (v := (-1)) hx hb dX9_tablet_24 (by decide) ?_
    have hP9 := hP.sub (ws' := []) [] rfl
    have hD9 := hD.sub (ws' := []) [] (by decide) rfl
    have hK9 := hK.sub (tys' := []) [] rfl
    refine W.widen (k := 0) (n := 0) (Nat.le_of_ble_eq_true rfl) (Nat.le_of_ble_eq_true rfl) ?_
    exact W.iret (v := (-1)) hx hb hr (fun t9 ht hW => ⟨⟨_, (), rfl, (by rw [if_pos c_2]), by rw [ht]; exact hP9, va_K.moved hW.alike hK9, hD9⟩, hS.F ht⟩) hS.2.2 dX9_tablet_25
  · refine lv_iload_n hx hb dX9_tablet_19 rfl (lv_at hl 1 rfl) ?_
    refine lv_iconst (v := 3) hx hb dX9_tablet_20 (by decide) ?_
    refine lv_icmp_le (tgt := 26) hx hb dX9_tablet_21 (by decide) (fun c_3 => ?_) (fun c_3 => ?_)
    · refine lv_aload_n hx hb dX9_tablet_26 rfl (lv_at hl 0 rfl) ?_
      refine va_get (D := (dC, dI)) (ci := 9) (v := .ref m22) (C := RX9) (T := TX9) (N := 47) hx hb hts hin9 hown hK hP 0 rfl rfl 22 (by decide) (hts (.fieldLink RX9 42 "YamRidersModel" "rank" "[I") (by decide +kernel)) (fun _ h9 => h9) rfl dX9_tablet_27 ?_
      refine lv_aload_n hx hb dX9_tablet_30 rfl (lv_at hl 0 rfl) ?_
      refine va_get (D := (dC, dI)) (ci := 9) (v := .int 0) (C := RX9) (T := TX9) (N := 47) hx hb hts hin9 hown hK hP 0 rfl rfl 35 (by decide) (hts (.fieldLink RX9 205 "YamRidersModel" "tablets" "I") (by decide +kernel)) (fun _ h9 => h9) rfl dX9_tablet_31 ?_
      refine lv_iload_n hx hb dX9_tablet_34 rfl (lv_at hl 1 rfl) ?_
      refine va_iast hx hb hK hP hD hS 1 0 rfl rfl (by unfold vp_in; decide) dX9_tablet_35 (fun H locs hP hD hS => ?_)
      have hP : va_P (dC, dI) vwCl [(h0, .inr (9, [.int 0, .ref m1, .int 0, .int 0, .int 0, .ref m5, .ref m6, .ref m7, .int 0, .int 0, .int 0, .int 0, .int 0, .int 0, .long 0, .ref m15, .ref m16, .ref m17, .ref m18, .ref m19, .ref m20, .int 0, .ref m22, .ref m23, .ref m24, .ref m25, .ref m26, .ref m27, .ref m28, .ref m29, .ref m30, .ref m31, .ref m32, .ref m33, .ref m34, .int 0, .int 0, .ref m37, .ref m38, .ref m39, .ref m40, .ref m41, .ref m42, .ref m43, .ref m44, .ref m45, .ref m46])), (m22, .inl (k_rank, 20, .inl (upd (fun _ => 0) (0 : Int32).toNatClampNeg p0))), (m23, .inl (k_voidSince, 240, .inl (fun _ => 0)))] H := hP
      have hD : va_D A [(h0, .inr (9, [.int 0, .ref m1, .int 0, .int 0, .int 0, .ref m5, .ref m6, .ref m7, .int 0, .int 0, .int 0, .int 0, .int 0, .int 0, .long 0, .ref m15, .ref m16, .ref m17, .ref m18, .ref m19, .ref m20, .int 0, .ref m22, .ref m23, .ref m24, .ref m25, .ref m26, .ref m27, .ref m28, .ref m29, .ref m30, .ref m31, .ref m32, .ref m33, .ref m34, .int 0, .int 0, .ref m37, .ref m38, .ref m39, .ref m40, .ref m41, .ref m42, .ref m43, .ref m44, .ref m45, .ref m46])), (m22, .inl (k_rank, 20, .inl (upd (fun _ => 0) (0 : Int32).toNatClampNeg p0))), (m23, .inl (k_voidSince, 240, .inl (fun _ => 0)))] := hD
      obtain ⟨f_4, ef_4⟩ : ∃ w9 : Nat → Int32, w9 = upd (fun _ => 0) (0 : Int32).toNatClampNeg p0 := ⟨_, rfl⟩
      rw [← ef_4] at hP hD
      refine lv_iconst (v := 0) hx hb dX9_tablet_36 (by decide) ?_
      refine lv_istore_n (lv' := [(2, .int 0), (0, .ref h0), (1, .int p0)]) hx hb dX9_tablet_37 rfl hl (by decide) rfl (fun ls hl => ?_)
      refine lv_iload_n hx hb dX9_tablet_38 rfl (lv_at hl 0 rfl) ?_
      refine lv_bipush (v := 12) hx hb dX9_tablet_39 (by decide) ?_
      refine lv_icmp_ge (tgt := 65) hx hb dX9_tablet_41 (by decide) (fun c_5 => by first | exact absurd c_5 (by decide) | exact absurd (by decide) c_5) (fun _ => ?_)
      refine lv_aload_n hx hb dX9_tablet_44 rfl (lv_at hl 1 rfl) ?_
      refine va_get (D := (dC, dI)) (ci := 9) (v := .ref m23) (C := RX9) (T := TX9) (N := 47) hx hb hts hin9 hown hK hP 0 rfl rfl 23 (by decide) (hts (.fieldLink RX9 45 "YamRidersModel" "voidSince" "[I") (by decide +kernel)) (fun _ h9 => h9) rfl dX9_tablet_45 ?_
      refine lv_bipush (v := 12) hx hb dX9_tablet_48 (by decide) ?_
      refine lv_aload_n hx hb dX9_tablet_50 rfl (lv_at hl 1 rfl) ?_
      refine va_get (D := (dC, dI)) (ci := 9) (v := .int 0) (C := RX9) (T := TX9) (N := 47) hx hb hts hin9 hown hK hP 0 rfl rfl 35 (by decide) (hts (.fieldLink RX9 205 "YamRidersModel" "tablets" "I") (by decide +kernel)) (fun _ h9 => h9) rfl dX9_tablet_51 ?_
      refine lv_imul hx hb dX9_tablet_54 ?_
      refine lv_topi (fun y_6 ey_6 => ?_)
      obtain rfl : y_6 = 0 := ey_6.trans (by decide)
      refine lv_iload_n hx hb dX9_tablet_55 rfl (lv_at hl 0 rfl) ?_
      refine lv_iadd hx hb dX9_tablet_56 ?_
      refine lv_topi (fun y_7 ey_7 => ?_)
      obtain rfl : y_7 = 0 := ey_7.trans (by decide)
      refine lv_iconst (v := (-1)) hx hb dX9_tablet_57 (by decide) ?_
      refine va_iast hx hb hK hP hD hS 2 1 rfl rfl (by unfold vp_in; decide) dX9_tablet_58 (fun H locs hP hD hS => ?_)
      have hP : va_P (dC, dI) vwCl [(h0, .inr (9, [.int 0, .ref m1, .int 0, .int 0, .int 0, .ref m5, .ref m6, .ref m7, .int 0, .int 0, .int 0, .int 0, .int 0, .int 0, .long 0, .ref m15, .ref m16, .ref m17, .ref m18, .ref m19, .ref m20, .int 0, .ref m22, .ref m23, .ref m24, .ref m25, .ref m26, .ref m27, .ref m28, .ref m29, .ref m30, .ref m31, .ref m32, .ref m33, .ref m34, .int 0, .int 0, .ref m37, .ref m38, .ref m39, .ref m40, .ref m41, .ref m42, .ref m43, .ref m44, .ref m45, .ref m46])), (m22, .inl (k_rank, 20, .inl f_4)), (m23, .inl (k_voidSince, 240, .inl (upd (fun _ => 0) (0 : Int32).toNatClampNeg (-1))))] H := hP
      have hD : va_D A [(h0, .inr (9, [.int 0, .ref m1, .int 0, .int 0, .int 0, .ref m5, .ref m6, .ref m7, .int 0, .int 0, .int 0, .int 0, .int 0, .int 0, .long 0, .ref m15, .ref m16, .ref m17, .ref m18, .ref m19, .ref m20, .int 0, .ref m22, .ref m23, .ref m24, .ref m25, .ref m26, .ref m27, .ref m28, .ref m29, .ref m30, .ref m31, .ref m32, .ref m33, .ref m34, .int 0, .int 0, .ref m37, .ref m38, .ref m39, .ref m40, .ref m41, .ref m42, .ref m43, .ref m44, .ref m45, .ref m46])), (m22, .inl (k_rank, 20, .inl f_4)), (m23, .inl (k_voidSince, 240, .inl (upd (fun _ => 0) (0 : Int32).toNatClampNeg (-1))))] := hD
      obtain ⟨f_8, ef_8⟩ : ∃ w9 : Nat → Int32, w9 = upd (fun _ => 0) (0 : Int32).toNatClampNeg (-1) := ⟨_, rfl⟩
      rw [← ef_8] at hP hD
      refine lv_iinc (v := 1) (lv' := [(2, .int 1), (0, .ref h0), (1, .int p0)]) hx hb dX9_tablet_59 hl (k := 0) rfl (by decide) (by decide) rfl (fun ls hl => ?_)
      refine lv_goto (tgt := 38) hx hb dX9_tablet_62 (by decide) ?_
      refine lv_iload_n hx hb dX9_tablet_38 rfl (lv_at hl 0 rfl) ?_
      refine lv_bipush (v := 12) hx hb dX9_tablet_39 (by decide) ?_
      refine lv_icmp_ge (tgt := 65) hx hb dX9_tablet_41 (by decide) (fun c_9 => by first | exact absurd c_9 (by decide) | exact absurd (by decide) c_9) (fun _ => ?_)
      refine lv_aload_n hx hb dX9_tablet_44 rfl (lv_at hl 1 rfl) ?_
      refine va_get (D := (dC, dI)) (ci := 9) (v := .ref m23) (C := RX9) (T := TX9) (N := 47) hx hb hts hin9 hown hK hP 0 rfl rfl 23 (by decide) (hts (.fieldLink RX9 45 "YamRidersModel" "voidSince" "[I") (by decide +kernel)) (fun _ h9 => h9) rfl dX9_tablet_45 ?_
      refine lv_bipush (v := 12) hx hb dX9_tablet_48 (by decide) ?_
      refine lv_aload_n hx hb dX9_tablet_50 rfl (lv_at hl 1 rfl) ?_
      refine va_get (D := (dC, dI)) (ci := 9) (v := .int 0) (C := RX9) (T := TX9) (N := 47) hx hb hts hin9 hown hK hP 0 rfl rfl 35 (by decide) (hts (.fieldLink RX9 205 "YamRidersModel" "tablets" "I") (by decide +kernel)) (fun _ h9 => h9) rfl dX9_tablet_51 ?_
      refine lv_imul hx hb dX9_tablet_54 ?_
      refine lv_topi (fun y_10 ey_10 => ?_)
      obtain rfl : y_10 = 0 := ey_10.trans (by decide)
      refine lv_iload_n hx hb dX9_tablet_55 rfl (lv_at hl 0 rfl) ?_
      refine lv_iadd hx hb dX9_tablet_56 ?_
      refine lv_topi (fun y_11 ey_11 => ?_)
      obtain rfl : y_11 = 1 := ey_11.trans (by decide)
      refine lv_iconst (v := (-1)) hx hb dX9_tablet_57 (by decide) ?_
      refine va_iast hx hb hK hP hD hS 2 1 rfl rfl (by unfold vp_in; decide) dX9_tablet_58 (fun H locs hP hD hS => ?_)
      have hP : va_P (dC, dI) vwCl [(h0, .inr (9, [.int 0, .ref m1, .int 0, .int 0, .int 0, .ref m5, .ref m6, .ref m7, .int 0, .int 0, .int 0, .int 0, .int 0, .int 0, .long 0, .ref m15, .ref m16, .ref m17, .ref m18, .ref m19, .ref m20, .int 0, .ref m22, .ref m23, .ref m24, .ref m25, .ref m26, .ref m27, .ref m28, .ref m29, .ref m30, .ref m31, .ref m32, .ref m33, .ref m34, .int 0, .int 0, .ref m37, .ref m38, .ref m39, .ref m40, .ref m41, .ref m42, .ref m43, .ref m44, .ref m45, .ref m46])), (m22, .inl (k_rank, 20, .inl f_4)), (m23, .inl (k_voidSince, 240, .inl (upd f_8 (1 : Int32).toNatClampNeg (-1))))] H := hP
      have hD : va_D A [(h0, .inr (9, [.int 0, .ref m1, .int 0, .int 0, .int 0, .ref m5, .ref m6, .ref m7, .int 0, .int 0, .int 0, .int 0, .int 0, .int 0, .long 0, .ref m15, .ref m16, .ref m17, .ref m18, .ref m19, .ref m20, .int 0, .ref m22, .ref m23, .ref m24, .ref m25, .ref m26, .ref m27, .ref m28, .ref m29, .ref m30, .ref m31, .ref m32, .ref m33, .ref m34, .int 0, .int 0, .ref m37, .ref m38, .ref m39, .ref m40, .ref m41, .ref m42, .ref m43, .ref m44, .ref m45, .ref m46])), (m22, .inl (k_rank, 20, .inl f_4)), (m23, .inl (k_voidSince, 240, .inl (upd f_8 (1 : Int32).toNatClampNeg (-1))))] := hD
      obtain ⟨f_12, ef_12⟩ : ∃ w9 : Nat → Int32, w9 = upd f_8 (1 : Int32).toNatClampNeg (-1) := ⟨_, rfl⟩
      rw [← ef_12] at hP hD
      refine lv_iinc (v := 2) (lv' := [(2, .int 2), (0, .ref h0), (1, .int p0)]) hx hb dX9_tablet_59 hl (k := 0) rfl (by decide) (by decide) rfl (fun ls hl => ?_)
      refine lv_goto (tgt := 38) hx hb dX9_tablet_62 (by decide) ?_
      refine lv_iload_n hx hb dX9_tablet_38 rfl (lv_at hl 0 rfl) ?_
      refine lv_bipush (v := 12) hx hb dX9_tablet_39 (by decide) ?_
      refine lv_icmp_ge (tgt := 65) hx hb dX9_tablet_41 (by decide) (fun c_13 => by first | exact absurd c_13 (by decide) | exact absurd (by decide) c_13) (fun _ => ?_)
      refine lv_aload_n hx hb dX9_tablet_44 rfl (lv_at hl 1 rfl) ?_
      refine va_get (D := (dC, dI)) (ci := 9) (v := .ref m23) (C := RX9) (T := TX9) (N := 47) hx hb hts hin9 hown hK hP 0 rfl rfl 23 (by decide) (hts (.fieldLink RX9 45 "YamRidersModel" "voidSince" "[I") (by decide +kernel)) (fun _ h9 => h9) rfl dX9_tablet_45 ?_
      refine lv_bipush (v := 12) hx hb dX9_tablet_48 (by decide) ?_
      refine lv_aload_n hx hb dX9_tablet_50 rfl (lv_at hl 1 rfl) ?_
      refine va_get (D := (dC, dI)) (ci := 9) (v := .int 0) (C := RX9) (T := TX9) (N := 47) hx hb hts hin9 hown hK hP 0 rfl rfl 35 (by decide) (hts (.fieldLink RX9 205 "YamRidersModel" "tablets" "I") (by decide +kernel)) (fun _ h9 => h9) rfl dX9_tablet_51 ?_
      refine lv_imul hx hb dX9_tablet_54 ?_
      refine lv_topi (fun y_14 ey_14 => ?_)
      obtain rfl : y_14 = 0 := ey_14.trans (by decide)
      refine lv_iload_n hx hb dX9_tablet_55 rfl (lv_at hl 0 rfl) ?_
      refine lv_iadd hx hb dX9_tablet_56 ?_
      refine lv_topi (fun y_15 ey_15 => ?_)
      obtain rfl : y_15 = 2 := ey_15.trans (by decide)
      refine lv_iconst (v := (-1)) hx hb dX9_tablet_57 (by decide) ?_
      refine va_iast hx hb hK hP hD hS 2 1 rfl rfl (by unfold vp_in; decide) dX9_tablet_58 (fun H locs hP hD hS => ?_)
      have hP : va_P (dC, dI) vwCl [(h0, .inr (9, [.int 0, .ref m1, .int 0, .int 0, .int 0, .ref m5, .ref m6, .ref m7, .int 0, .int 0, .int 0, .int 0, .int 0, .int 0, .long 0, .ref m15, .ref m16, .ref m17, .ref m18, .ref m19, .ref m20, .int 0, .ref m22, .ref m23, .ref m24, .ref m25, .ref m26, .ref m27, .ref m28, .ref m29, .ref m30, .ref m31, .ref m32, .ref m33, .ref m34, .int 0, .int 0, .ref m37, .ref m38, .ref m39, .ref m40, .ref m41, .ref m42, .ref m43, .ref m44, .ref m45, .ref m46])), (m22, .inl (k_rank, 20, .inl f_4)), (m23, .inl (k_voidSince, 240, .inl (upd f_12 (2 : Int32).toNatClampNeg (-1))))] H := hP
      have hD : va_D A [(h0, .inr (9, [.int 0, .ref m1, .int 0, .int 0, .int 0, .ref m5, .ref m6, .ref m7, .int 0, .int 0, .int 0, .int 0, .int 0, .int 0, .long 0, .ref m15, .ref m16, .ref m17, .ref m18, .ref m19, .ref m20, .int 0, .ref m22, .ref m23, .ref m24, .ref m25, .ref m26, .ref m27, .ref m28, .ref m29, .ref m30, .ref m31, .ref m32, .ref m33, .ref m34, .int 0, .int 0, .ref m37, .ref m38, .ref m39, .ref m40, .ref m41, .ref m42, .ref m43, .ref m44, .ref m45, .ref m46])), (m22, .inl (k_rank, 20, .inl f_4)), (m23, .inl (k_voidSince, 240, .inl (upd f_12 (2 : Int32).toNatClampNeg (-1))))] := hD
      obtain ⟨f_16, ef_16⟩ : ∃ w9 : Nat → Int32, w9 = upd f_12 (2 : Int32).toNatClampNeg (-1) := ⟨_, rfl⟩
      rw [← ef_16] at hP hD
      refine lv_iinc (v := 3) (lv' := [(2, .int 3), (0, .ref h0), (1, .int p0)]) hx hb dX9_tablet_59 hl (k := 0) rfl (by decide) (by decide) rfl (fun ls hl => ?_)
      refine lv_goto (tgt := 38) hx hb dX9_tablet_62 (by decide) ?_
      refine lv_iload_n hx hb dX9_tablet_38 rfl (lv_at hl 0 rfl) ?_
      refine lv_bipush (v := 12) hx hb dX9_tablet_39 (by decide) ?_
      refine lv_icmp_ge (tgt := 65) hx hb dX9_tablet_41 (by decide) (fun c_17 => by first | exact absurd c_17 (by decide) | exact absurd (by decide) c_17) (fun _ => ?_)
      refine lv_aload_n hx hb dX9_tablet_44 rfl (lv_at hl 1 rfl) ?_
      refine va_get (D := (dC, dI)) (ci := 9) (v := .ref m23) (C := RX9) (T := TX9) (N := 47) hx hb hts hin9 hown hK hP 0 rfl rfl 23 (by decide) (hts (.fieldLink RX9 45 "YamRidersModel" "voidSince" "[I") (by decide +kernel)) (fun _ h9 => h9) rfl dX9_tablet_45 ?_
      refine lv_bipush (v := 12) hx hb dX9_tablet_48 (by decide) ?_
      refine lv_aload_n hx hb dX9_tablet_50 rfl (lv_at hl 1 rfl) ?_
      refine va_get (D := (dC, dI)) (ci := 9) (v := .int 0) (C := RX9) (T := TX9) (N := 47) hx hb hts hin9 hown hK hP 0 rfl rfl 35 (by decide) (hts (.fieldLink RX9 205 "YamRidersModel" "tablets" "I") (by decide +kernel)) (fun _ h9 => h9) rfl dX9_tablet_51 ?_
      refine lv_imul hx hb dX9_tablet_54 ?_
      refine lv_topi (fun y_18 ey_18 => ?_)
      obtain rfl : y_18 = 0 := ey_18.trans (by decide)
      refine lv_iload_n hx hb dX9_tablet_55 rfl (lv_at hl 0 rfl) ?_
      refine lv_iadd hx hb dX9_tablet_56 ?_
      refine lv_topi (fun y_19 ey_19 => ?_)
      obtain rfl : y_19 = 3 := ey_19.trans (by decide)
      refine lv_iconst (v := (-1)) hx hb dX9_tablet_57 (by decide) ?_
      refine va_iast hx hb hK hP hD hS 2 1 rfl rfl (by unfold vp_in; decide) dX9_tablet_58 (fun H locs hP hD hS => ?_)
      have hP : va_P (dC, dI) vwCl [(h0, .inr (9, [.int 0, .ref m1, .int 0, .int 0, .int 0, .ref m5, .ref m6, .ref m7, .int 0, .int 0, .int 0, .int 0, .int 0, .int 0, .long 0, .ref m15, .ref m16, .ref m17, .ref m18, .ref m19, .ref m20, .int 0, .ref m22, .ref m23, .ref m24, .ref m25, .ref m26, .ref m27, .ref m28, .ref m29, .ref m30, .ref m31, .ref m32, .ref m33, .ref m34, .int 0, .int 0, .ref m37, .ref m38, .ref m39, .ref m40, .ref m41, .ref m42, .ref m43, .ref m44, .ref m45, .ref m46])), (m22, .inl (k_rank, 20, .inl f_4)), (m23, .inl (k_voidSince, 240, .inl (upd f_16 (3 : Int32).toNatClampNeg (-1))))] H := hP
      have hD : va_D A [(h0, .inr (9, [.int 0, .ref m1, .int 0, .int 0, .int 0, .ref m5, .ref m6, .ref m7, .int 0, .int 0, .int 0, .int 0, .int 0, .int 0, .long 0, .ref m15, .ref m16, .ref m17, .ref m18, .ref m19, .ref m20, .int 0, .ref m22, .ref m23, .ref m24, .ref m25, .ref m26, .ref m27, .ref m28, .ref m29, .ref m30, .ref m31, .ref m32, .ref m33, .ref m34, .int 0, .int 0, .ref m37, .ref m38, .ref m39, .ref m40, .ref m41, .ref m42, .ref m43, .ref m44, .ref m45, .ref m46])), (m22, .inl (k_rank, 20, .inl f_4)), (m23, .inl (k_voidSince, 240, .inl (upd f_16 (3 : Int32).toNatClampNeg (-1))))] := hD
      obtain ⟨f_20, ef_20⟩ : ∃ w9 : Nat → Int32, w9 = upd f_16 (3 : Int32).toNatClampNeg (-1) := ⟨_, rfl⟩
      rw [← ef_20] at hP hD
      refine lv_iinc (v := 4) (lv' := [(2, .int 4), (0, .ref h0), (1, .int p0)]) hx hb dX9_tablet_59 hl (k := 0) rfl (by decide) (by decide) rfl (fun ls hl => ?_)
      refine lv_goto (tgt := 38) hx hb dX9_tablet_62 (by decide) ?_
      refine lv_iload_n hx hb dX9_tablet_38 rfl (lv_at hl 0 rfl) ?_
      refine lv_bipush (v := 12) hx hb dX9_tablet_39 (by decide) ?_
      refine lv_icmp_ge (tgt := 65) hx hb dX9_tablet_41 (by decide) (fun c_21 => by first | exact absurd c_21 (by decide) | exact absurd (by decide) c_21) (fun _ => ?_)
      refine lv_aload_n hx hb dX9_tablet_44 rfl (lv_at hl 1 rfl) ?_
      refine va_get (D := (dC, dI)) (ci := 9) (v := .ref m23) (C := RX9) (T := TX9) (N := 47) hx hb hts hin9 hown hK hP 0 rfl rfl 23 (by decide) (hts (.fieldLink RX9 45 "YamRidersModel" "voidSince" "[I") (by decide +kernel)) (fun _ h9 => h9) rfl dX9_tablet_45 ?_
      refine lv_bipush (v := 12) hx hb dX9_tablet_48 (by decide) ?_
      refine lv_aload_n hx hb dX9_tablet_50 rfl (lv_at hl 1 rfl) ?_
      refine va_get (D := (dC, dI)) (ci := 9) (v := .int 0) (C := RX9) (T := TX9) (N := 47) hx hb hts hin9 hown hK hP 0 rfl rfl 35 (by decide) (hts (.fieldLink RX9 205 "YamRidersModel" "tablets" "I") (by decide +kernel)) (fun _ h9 => h9) rfl dX9_tablet_51 ?_
      refine lv_imul hx hb dX9_tablet_54 ?_
      refine lv_topi (fun y_22 ey_22 => ?_)
      obtain rfl : y_22 = 0 := ey_22.trans (by decide)
      refine lv_iload_n hx hb dX9_tablet_55 rfl (lv_at hl 0 rfl) ?_
      refine lv_iadd hx hb dX9_tablet_56 ?_
      refine lv_topi (fun y_23 ey_23 => ?_)
      obtain rfl : y_23 = 4 := ey_23.trans (by decide)
      refine lv_iconst (v := (-1)) hx hb dX9_tablet_57 (by decide) ?_
      refine va_iast hx hb hK hP hD hS 2 1 rfl rfl (by unfold vp_in; decide) dX9_tablet_58 (fun H locs hP hD hS => ?_)
      have hP : va_P (dC, dI) vwCl [(h0, .inr (9, [.int 0, .ref m1, .int 0, .int 0, .int 0, .ref m5, .ref m6, .ref m7, .int 0, .int 0, .int 0, .int 0, .int 0, .int 0, .long 0, .ref m15, .ref m16, .ref m17, .ref m18, .ref m19, .ref m20, .int 0, .ref m22, .ref m23, .ref m24, .ref m25, .ref m26, .ref m27, .ref m28, .ref m29, .ref m30, .ref m31, .ref m32, .ref m33, .ref m34, .int 0, .int 0, .ref m37, .ref m38, .ref m39, .ref m40, .ref m41, .ref m42, .ref m43, .ref m44, .ref m45, .ref m46])), (m22, .inl (k_rank, 20, .inl f_4)), (m23, .inl (k_voidSince, 240, .inl (upd f_20 (4 : Int32).toNatClampNeg (-1))))] H := hP
      have hD : va_D A [(h0, .inr (9, [.int 0, .ref m1, .int 0, .int 0, .int 0, .ref m5, .ref m6, .ref m7, .int 0, .int 0, .int 0, .int 0, .int 0, .int 0, .long 0, .ref m15, .ref m16, .ref m17, .ref m18, .ref m19, .ref m20, .int 0, .ref m22, .ref m23, .ref m24, .ref m25, .ref m26, .ref m27, .ref m28, .ref m29, .ref m30, .ref m31, .ref m32, .ref m33, .ref m34, .int 0, .int 0, .ref m37, .ref m38, .ref m39, .ref m40, .ref m41, .ref m42, .ref m43, .ref m44, .ref m45, .ref m46])), (m22, .inl (k_rank, 20, .inl f_4)), (m23, .inl (k_voidSince, 240, .inl (upd f_20 (4 : Int32).toNatClampNeg (-1))))] := hD
      obtain ⟨f_24, ef_24⟩ : ∃ w9 : Nat → Int32, w9 = upd f_20 (4 : Int32).toNatClampNeg (-1) := ⟨_, rfl⟩
      rw [← ef_24] at hP hD
      refine lv_iinc (v := 5) (lv' := [(2, .int 5), (0, .ref h0), (1, .int p0)]) hx hb dX9_tablet_59 hl (k := 0) rfl (by decide) (by decide) rfl (fun ls hl => ?_)
      refine lv_goto (tgt := 38) hx hb dX9_tablet_62 (by decide) ?_
      refine lv_iload_n hx hb dX9_tablet_38 rfl (lv_at hl 0 rfl) ?_
      refine lv_bipush (v := 12) hx hb dX9_tablet_39 (by decide) ?_
      refine lv_icmp_ge (tgt := 65) hx hb dX9_tablet_41 (by decide) (fun c_25 => by first | exact absurd c_25 (by decide) | exact absurd (by decide) c_25) (fun _ => ?_)
      refine lv_aload_n hx hb dX9_tablet_44 rfl (lv_at hl 1 rfl) ?_
      refine va_get (D := (dC, dI)) (ci := 9) (v := .ref m23) (C := RX9) (T := TX9) (N := 47) hx hb hts hin9 hown hK hP 0 rfl rfl 23 (by decide) (hts (.fieldLink RX9 45 "YamRidersModel" "voidSince" "[I") (by decide +kernel)) (fun _ h9 => h9) rfl dX9_tablet_45 ?_
      refine lv_bipush (v := 12) hx hb dX9_tablet_48 (by decide) ?_
      refine lv_aload_n hx hb dX9_tablet_50 rfl (lv_at hl 1 rfl) ?_
      refine va_get (D := (dC, dI)) (ci := 9) (v := .int 0) (C := RX9) (T := TX9) (N := 47) hx hb hts hin9 hown hK hP 0 rfl rfl 35 (by decide) (hts (.fieldLink RX9 205 "YamRidersModel" "tablets" "I") (by decide +kernel)) (fun _ h9 => h9) rfl dX9_tablet_51 ?_
      refine lv_imul hx hb dX9_tablet_54 ?_
      refine lv_topi (fun y_26 ey_26 => ?_)
      obtain rfl : y_26 = 0 := ey_26.trans (by decide)
      refine lv_iload_n hx hb dX9_tablet_55 rfl (lv_at hl 0 rfl) ?_
      refine lv_iadd hx hb dX9_tablet_56 ?_
      refine lv_topi (fun y_27 ey_27 => ?_)
      obtain rfl : y_27 = 5 := ey_27.trans (by decide)
      refine lv_iconst (v := (-1)) hx hb dX9_tablet_57 (by decide) ?_
      refine va_iast hx hb hK hP hD hS 2 1 rfl rfl (by unfold vp_in; decide) dX9_tablet_58 (fun H locs hP hD hS => ?_)
      have hP : va_P (dC, dI) vwCl [(h0, .inr (9, [.int 0, .ref m1, .int 0, .int 0, .int 0, .ref m5, .ref m6, .ref m7, .int 0, .int 0, .int 0, .int 0, .int 0, .int 0, .long 0, .ref m15, .ref m16, .ref m17, .ref m18, .ref m19, .ref m20, .int 0, .ref m22, .ref m23, .ref m24, .ref m25, .ref m26, .ref m27, .ref m28, .ref m29, .ref m30, .ref m31, .ref m32, .ref m33, .ref m34, .int 0, .int 0, .ref m37, .ref m38, .ref m39, .ref m40, .ref m41, .ref m42, .ref m43, .ref m44, .ref m45, .ref m46])), (m22, .inl (k_rank, 20, .inl f_4)), (m23, .inl (k_voidSince, 240, .inl (upd f_24 (5 : Int32).toNatClampNeg (-1))))] H := hP
      have hD : va_D A [(h0, .inr (9, [.int 0, .ref m1, .int 0, .int 0, .int 0, .ref m5, .ref m6, .ref m7, .int 0, .int 0, .int 0, .int 0, .int 0, .int 0, .long 0, .ref m15, .ref m16, .ref m17, .ref m18, .ref m19, .ref m20, .int 0, .ref m22, .ref m23, .ref m24, .ref m25, .ref m26, .ref m27, .ref m28, .ref m29, .ref m30, .ref m31, .ref m32, .ref m33, .ref m34, .int 0, .int 0, .ref m37, .ref m38, .ref m39, .ref m40, .ref m41, .ref m42, .ref m43, .ref m44, .ref m45, .ref m46])), (m22, .inl (k_rank, 20, .inl f_4)), (m23, .inl (k_voidSince, 240, .inl (upd f_24 (5 : Int32).toNatClampNeg (-1))))] := hD
      obtain ⟨f_28, ef_28⟩ : ∃ w9 : Nat → Int32, w9 = upd f_24 (5 : Int32).toNatClampNeg (-1) := ⟨_, rfl⟩
      rw [← ef_28] at hP hD
      refine lv_iinc (v := 6) (lv' := [(2, .int 6), (0, .ref h0), (1, .int p0)]) hx hb dX9_tablet_59 hl (k := 0) rfl (by decide) (by decide) rfl (fun ls hl => ?_)
      refine lv_goto (tgt := 38) hx hb dX9_tablet_62 (by decide) ?_
      refine lv_iload_n hx hb dX9_tablet_38 rfl (lv_at hl 0 rfl) ?_
      refine lv_bipush (v := 12) hx hb dX9_tablet_39 (by decide) ?_
      refine lv_icmp_ge (tgt := 65) hx hb dX9_tablet_41 (by decide) (fun c_29 => by first | exact absurd c_29 (by decide) | exact absurd (by decide) c_29) (fun _ => ?_)
      refine lv_aload_n hx hb dX9_tablet_44 rfl (lv_at hl 1 rfl) ?_
      refine va_get (D := (dC, dI)) (ci := 9) (v := .ref m23) (C := RX9) (T := TX9) (N := 47) hx hb hts hin9 hown hK hP 0 rfl rfl 23 (by decide) (hts (.fieldLink RX9 45 "YamRidersModel" "voidSince" "[I") (by decide +kernel)) (fun _ h9 => h9) rfl dX9_tablet_45 ?_
      refine lv_bipush (v := 12) hx hb dX9_tablet_48 (by decide) ?_
      refine lv_aload_n hx hb dX9_tablet_50 rfl (lv_at hl 1 rfl) ?_
      refine va_get (D := (dC, dI)) (ci := 9) (v := .int 0) (C := RX9) (T := TX9) (N := 47) hx hb hts hin9 hown hK hP 0 rfl rfl 35 (by decide) (hts (.fieldLink RX9 205 "YamRidersModel" "tablets" "I") (by decide +kernel)) (fun _ h9 => h9) rfl dX9_tablet_51 ?_
      refine lv_imul hx hb dX9_tablet_54 ?_
      refine lv_topi (fun y_30 ey_30 => ?_)
      obtain rfl : y_30 = 0 := ey_30.trans (by decide)
      refine lv_iload_n hx hb dX9_tablet_55 rfl (lv_at hl 0 rfl) ?_
      refine lv_iadd hx hb dX9_tablet_56 ?_
      refine lv_topi (fun y_31 ey_31 => ?_)
      obtain rfl : y_31 = 6 := ey_31.trans (by decide)
      refine lv_iconst (v := (-1)) hx hb dX9_tablet_57 (by decide) ?_
      refine va_iast hx hb hK hP hD hS 2 1 rfl rfl (by unfold vp_in; decide) dX9_tablet_58 (fun H locs hP hD hS => ?_)
      have hP : va_P (dC, dI) vwCl [(h0, .inr (9, [.int 0, .ref m1, .int 0, .int 0, .int 0, .ref m5, .ref m6, .ref m7, .int 0, .int 0, .int 0, .int 0, .int 0, .int 0, .long 0, .ref m15, .ref m16, .ref m17, .ref m18, .ref m19, .ref m20, .int 0, .ref m22, .ref m23, .ref m24, .ref m25, .ref m26, .ref m27, .ref m28, .ref m29, .ref m30, .ref m31, .ref m32, .ref m33, .ref m34, .int 0, .int 0, .ref m37, .ref m38, .ref m39, .ref m40, .ref m41, .ref m42, .ref m43, .ref m44, .ref m45, .ref m46])), (m22, .inl (k_rank, 20, .inl f_4)), (m23, .inl (k_voidSince, 240, .inl (upd f_28 (6 : Int32).toNatClampNeg (-1))))] H := hP
      have hD : va_D A [(h0, .inr (9, [.int 0, .ref m1, .int 0, .int 0, .int 0, .ref m5, .ref m6, .ref m7, .int 0, .int 0, .int 0, .int 0, .int 0, .int 0, .long 0, .ref m15, .ref m16, .ref m17, .ref m18, .ref m19, .ref m20, .int 0, .ref m22, .ref m23, .ref m24, .ref m25, .ref m26, .ref m27, .ref m28, .ref m29, .ref m30, .ref m31, .ref m32, .ref m33, .ref m34, .int 0, .int 0, .ref m37, .ref m38, .ref m39, .ref m40, .ref m41, .ref m42, .ref m43, .ref m44, .ref m45, .ref m46])), (m22, .inl (k_rank, 20, .inl f_4)), (m23, .inl (k_voidSince, 240, .inl (upd f_28 (6 : Int32).toNatClampNeg (-1))))] := hD
      obtain ⟨f_32, ef_32⟩ : ∃ w9 : Nat → Int32, w9 = upd f_28 (6 : Int32).toNatClampNeg (-1) := ⟨_, rfl⟩
      rw [← ef_32] at hP hD
      refine lv_iinc (v := 7) (lv' := [(2, .int 7), (0, .ref h0), (1, .int p0)]) hx hb dX9_tablet_59 hl (k := 0) rfl (by decide) (by decide) rfl (fun ls hl => ?_)
      refine lv_goto (tgt := 38) hx hb dX9_tablet_62 (by decide) ?_
      refine lv_iload_n hx hb dX9_tablet_38 rfl (lv_at hl 0 rfl) ?_
      refine lv_bipush (v := 12) hx hb dX9_tablet_39 (by decide) ?_
      refine lv_icmp_ge (tgt := 65) hx hb dX9_tablet_41 (by decide) (fun c_33 => by first | exact absurd c_33 (by decide) | exact absurd (by decide) c_33) (fun _ => ?_)
      refine lv_aload_n hx hb dX9_tablet_44 rfl (lv_at hl 1 rfl) ?_
      refine va_get (D := (dC, dI)) (ci := 9) (v := .ref m23) (C := RX9) (T := TX9) (N := 47) hx hb hts hin9 hown hK hP 0 rfl rfl 23 (by decide) (hts (.fieldLink RX9 45 "YamRidersModel" "voidSince" "[I") (by decide +kernel)) (fun _ h9 => h9) rfl dX9_tablet_45 ?_
      refine lv_bipush (v := 12) hx hb dX9_tablet_48 (by decide) ?_
      refine lv_aload_n hx hb dX9_tablet_50 rfl (lv_at hl 1 rfl) ?_
      refine va_get (D := (dC, dI)) (ci := 9) (v := .int 0) (C := RX9) (T := TX9) (N := 47) hx hb hts hin9 hown hK hP 0 rfl rfl 35 (by decide) (hts (.fieldLink RX9 205 "YamRidersModel" "tablets" "I") (by decide +kernel)) (fun _ h9 => h9) rfl dX9_tablet_51 ?_
      refine lv_imul hx hb dX9_tablet_54 ?_
      refine lv_topi (fun y_34 ey_34 => ?_)
      obtain rfl : y_34 = 0 := ey_34.trans (by decide)
      refine lv_iload_n hx hb dX9_tablet_55 rfl (lv_at hl 0 rfl) ?_
      refine lv_iadd hx hb dX9_tablet_56 ?_
      refine lv_topi (fun y_35 ey_35 => ?_)
      obtain rfl : y_35 = 7 := ey_35.trans (by decide)
      refine lv_iconst (v := (-1)) hx hb dX9_tablet_57 (by decide) ?_
      refine va_iast hx hb hK hP hD hS 2 1 rfl rfl (by unfold vp_in; decide) dX9_tablet_58 (fun H locs hP hD hS => ?_)
      have hP : va_P (dC, dI) vwCl [(h0, .inr (9, [.int 0, .ref m1, .int 0, .int 0, .int 0, .ref m5, .ref m6, .ref m7, .int 0, .int 0, .int 0, .int 0, .int 0, .int 0, .long 0, .ref m15, .ref m16, .ref m17, .ref m18, .ref m19, .ref m20, .int 0, .ref m22, .ref m23, .ref m24, .ref m25, .ref m26, .ref m27, .ref m28, .ref m29, .ref m30, .ref m31, .ref m32, .ref m33, .ref m34, .int 0, .int 0, .ref m37, .ref m38, .ref m39, .ref m40, .ref m41, .ref m42, .ref m43, .ref m44, .ref m45, .ref m46])), (m22, .inl (k_rank, 20, .inl f_4)), (m23, .inl (k_voidSince, 240, .inl (upd f_32 (7 : Int32).toNatClampNeg (-1))))] H := hP
      have hD : va_D A [(h0, .inr (9, [.int 0, .ref m1, .int 0, .int 0, .int 0, .ref m5, .ref m6, .ref m7, .int 0, .int 0, .int 0, .int 0, .int 0, .int 0, .long 0, .ref m15, .ref m16, .ref m17, .ref m18, .ref m19, .ref m20, .int 0, .ref m22, .ref m23, .ref m24, .ref m25, .ref m26, .ref m27, .ref m28, .ref m29, .ref m30, .ref m31, .ref m32, .ref m33, .ref m34, .int 0, .int 0, .ref m37, .ref m38, .ref m39, .ref m40, .ref m41, .ref m42, .ref m43, .ref m44, .ref m45, .ref m46])), (m22, .inl (k_rank, 20, .inl f_4)), (m23, .inl (k_voidSince, 240, .inl (upd f_32 (7 : Int32).toNatClampNeg (-1))))] := hD
      obtain ⟨f_36, ef_36⟩ : ∃ w9 : Nat → Int32, w9 = upd f_32 (7 : Int32).toNatClampNeg (-1) := ⟨_, rfl⟩
      rw [← ef_36] at hP hD
      refine lv_iinc (v := 8) (lv' := [(2, .int 8), (0, .ref h0), (1, .int p0)]) hx hb dX9_tablet_59 hl (k := 0) rfl (by decide) (by decide) rfl (fun ls hl => ?_)
      refine lv_goto (tgt := 38) hx hb dX9_tablet_62 (by decide) ?_
      refine lv_iload_n hx hb dX9_tablet_38 rfl (lv_at hl 0 rfl) ?_
      refine lv_bipush (v := 12) hx hb dX9_tablet_39 (by decide) ?_
      refine lv_icmp_ge (tgt := 65) hx hb dX9_tablet_41 (by decide) (fun c_37 => by first | exact absurd c_37 (by decide) | exact absurd (by decide) c_37) (fun _ => ?_)
      refine lv_aload_n hx hb dX9_tablet_44 rfl (lv_at hl 1 rfl) ?_
      refine va_get (D := (dC, dI)) (ci := 9) (v := .ref m23) (C := RX9) (T := TX9) (N := 47) hx hb hts hin9 hown hK hP 0 rfl rfl 23 (by decide) (hts (.fieldLink RX9 45 "YamRidersModel" "voidSince" "[I") (by decide +kernel)) (fun _ h9 => h9) rfl dX9_tablet_45 ?_
      refine lv_bipush (v := 12) hx hb dX9_tablet_48 (by decide) ?_
      refine lv_aload_n hx hb dX9_tablet_50 rfl (lv_at hl 1 rfl) ?_
      refine va_get (D := (dC, dI)) (ci := 9) (v := .int 0) (C := RX9) (T := TX9) (N := 47) hx hb hts hin9 hown hK hP 0 rfl rfl 35 (by decide) (hts (.fieldLink RX9 205 "YamRidersModel" "tablets" "I") (by decide +kernel)) (fun _ h9 => h9) rfl dX9_tablet_51 ?_
      refine lv_imul hx hb dX9_tablet_54 ?_
      refine lv_topi (fun y_38 ey_38 => ?_)
      obtain rfl : y_38 = 0 := ey_38.trans (by decide)
      refine lv_iload_n hx hb dX9_tablet_55 rfl (lv_at hl 0 rfl) ?_
      refine lv_iadd hx hb dX9_tablet_56 ?_
      refine lv_topi (fun y_39 ey_39 => ?_)
      obtain rfl : y_39 = 8 := ey_39.trans (by decide)
      refine lv_iconst (v := (-1)) hx hb dX9_tablet_57 (by decide) ?_
      refine va_iast hx hb hK hP hD hS 2 1 rfl rfl (by unfold vp_in; decide) dX9_tablet_58 (fun H locs hP hD hS => ?_)
      have hP : va_P (dC, dI) vwCl [(h0, .inr (9, [.int 0, .ref m1, .int 0, .int 0, .int 0, .ref m5, .ref m6, .ref m7, .int 0, .int 0, .int 0, .int 0, .int 0, .int 0, .long 0, .ref m15, .ref m16, .ref m17, .ref m18, .ref m19, .ref m20, .int 0, .ref m22, .ref m23, .ref m24, .ref m25, .ref m26, .ref m27, .ref m28, .ref m29, .ref m30, .ref m31, .ref m32, .ref m33, .ref m34, .int 0, .int 0, .ref m37, .ref m38, .ref m39, .ref m40, .ref m41, .ref m42, .ref m43, .ref m44, .ref m45, .ref m46])), (m22, .inl (k_rank, 20, .inl f_4)), (m23, .inl (k_voidSince, 240, .inl (upd f_36 (8 : Int32).toNatClampNeg (-1))))] H := hP
      have hD : va_D A [(h0, .inr (9, [.int 0, .ref m1, .int 0, .int 0, .int 0, .ref m5, .ref m6, .ref m7, .int 0, .int 0, .int 0, .int 0, .int 0, .int 0, .long 0, .ref m15, .ref m16, .ref m17, .ref m18, .ref m19, .ref m20, .int 0, .ref m22, .ref m23, .ref m24, .ref m25, .ref m26, .ref m27, .ref m28, .ref m29, .ref m30, .ref m31, .ref m32, .ref m33, .ref m34, .int 0, .int 0, .ref m37, .ref m38, .ref m39, .ref m40, .ref m41, .ref m42, .ref m43, .ref m44, .ref m45, .ref m46])), (m22, .inl (k_rank, 20, .inl f_4)), (m23, .inl (k_voidSince, 240, .inl (upd f_36 (8 : Int32).toNatClampNeg (-1))))] := hD
      obtain ⟨f_40, ef_40⟩ : ∃ w9 : Nat → Int32, w9 = upd f_36 (8 : Int32).toNatClampNeg (-1) := ⟨_, rfl⟩
      rw [← ef_40] at hP hD
      refine lv_iinc (v := 9) (lv' := [(2, .int 9), (0, .ref h0), (1, .int p0)]) hx hb dX9_tablet_59 hl (k := 0) rfl (by decide) (by decide) rfl (fun ls hl => ?_)
      refine lv_goto (tgt := 38) hx hb dX9_tablet_62 (by decide) ?_
      refine lv_iload_n hx hb dX9_tablet_38 rfl (lv_at hl 0 rfl) ?_
      refine lv_bipush (v := 12) hx hb dX9_tablet_39 (by decide) ?_
      refine lv_icmp_ge (tgt := 65) hx hb dX9_tablet_41 (by decide) (fun c_41 => by first | exact absurd c_41 (by decide) | exact absurd (by decide) c_41) (fun _ => ?_)
      refine lv_aload_n hx hb dX9_tablet_44 rfl (lv_at hl 1 rfl) ?_
      refine va_get (D := (dC, dI)) (ci := 9) (v := .ref m23) (C := RX9) (T := TX9) (N := 47) hx hb hts hin9 hown hK hP 0 rfl rfl 23 (by decide) (hts (.fieldLink RX9 45 "YamRidersModel" "voidSince" "[I") (by decide +kernel)) (fun _ h9 => h9) rfl dX9_tablet_45 ?_
      refine lv_bipush (v := 12) hx hb dX9_tablet_48 (by decide) ?_
      refine lv_aload_n hx hb dX9_tablet_50 rfl (lv_at hl 1 rfl) ?_
      refine va_get (D := (dC, dI)) (ci := 9) (v := .int 0) (C := RX9) (T := TX9) (N := 47) hx hb hts hin9 hown hK hP 0 rfl rfl 35 (by decide) (hts (.fieldLink RX9 205 "YamRidersModel" "tablets" "I") (by decide +kernel)) (fun _ h9 => h9) rfl dX9_tablet_51 ?_
      refine lv_imul hx hb dX9_tablet_54 ?_
      refine lv_topi (fun y_42 ey_42 => ?_)
      obtain rfl : y_42 = 0 := ey_42.trans (by decide)
      refine lv_iload_n hx hb dX9_tablet_55 rfl (lv_at hl 0 rfl) ?_
      refine lv_iadd hx hb dX9_tablet_56 ?_
      refine lv_topi (fun y_43 ey_43 => ?_)
      obtain rfl : y_43 = 9 := ey_43.trans (by decide)
      refine lv_iconst (v := (-1)) hx hb dX9_tablet_57 (by decide) ?_
      refine va_iast hx hb hK hP hD hS 2 1 rfl rfl (by unfold vp_in; decide) dX9_tablet_58 (fun H locs hP hD hS => ?_)
      have hP : va_P (dC, dI) vwCl [(h0, .inr (9, [.int 0, .ref m1, .int 0, .int 0, .int 0, .ref m5, .ref m6, .ref m7, .int 0, .int 0, .int 0, .int 0, .int 0, .int 0, .long 0, .ref m15, .ref m16, .ref m17, .ref m18, .ref m19, .ref m20, .int 0, .ref m22, .ref m23, .ref m24, .ref m25, .ref m26, .ref m27, .ref m28, .ref m29, .ref m30, .ref m31, .ref m32, .ref m33, .ref m34, .int 0, .int 0, .ref m37, .ref m38, .ref m39, .ref m40, .ref m41, .ref m42, .ref m43, .ref m44, .ref m45, .ref m46])), (m22, .inl (k_rank, 20, .inl f_4)), (m23, .inl (k_voidSince, 240, .inl (upd f_40 (9 : Int32).toNatClampNeg (-1))))] H := hP
      have hD : va_D A [(h0, .inr (9, [.int 0, .ref m1, .int 0, .int 0, .int 0, .ref m5, .ref m6, .ref m7, .int 0, .int 0, .int 0, .int 0, .int 0, .int 0, .long 0, .ref m15, .ref m16, .ref m17, .ref m18, .ref m19, .ref m20, .int 0, .ref m22, .ref m23, .ref m24, .ref m25, .ref m26, .ref m27, .ref m28, .ref m29, .ref m30, .ref m31, .ref m32, .ref m33, .ref m34, .int 0, .int 0, .ref m37, .ref m38, .ref m39, .ref m40, .ref m41, .ref m42, .ref m43, .ref m44, .ref m45, .ref m46])), (m22, .inl (k_rank, 20, .inl f_4)), (m23, .inl (k_voidSince, 240, .inl (upd f_40 (9 : Int32).toNatClampNeg (-1))))] := hD
      obtain ⟨f_44, ef_44⟩ : ∃ w9 : Nat → Int32, w9 = upd f_40 (9 : Int32).toNatClampNeg (-1) := ⟨_, rfl⟩
      rw [← ef_44] at hP hD
      refine lv_iinc (v := 10) (lv' := [(2, .int 10), (0, .ref h0), (1, .int p0)]) hx hb dX9_tablet_59 hl (k := 0) rfl (by decide) (by decide) rfl (fun ls hl => ?_)
      refine lv_goto (tgt := 38) hx hb dX9_tablet_62 (by decide) ?_
      refine lv_iload_n hx hb dX9_tablet_38 rfl (lv_at hl 0 rfl) ?_
      refine lv_bipush (v := 12) hx hb dX9_tablet_39 (by decide) ?_
      refine lv_icmp_ge (tgt := 65) hx hb dX9_tablet_41 (by decide) (fun c_45 => by first | exact absurd c_45 (by decide) | exact absurd (by decide) c_45) (fun _ => ?_)
      refine lv_aload_n hx hb dX9_tablet_44 rfl (lv_at hl 1 rfl) ?_
      refine va_get (D := (dC, dI)) (ci := 9) (v := .ref m23) (C := RX9) (T := TX9) (N := 47) hx hb hts hin9 hown hK hP 0 rfl rfl 23 (by decide) (hts (.fieldLink RX9 45 "YamRidersModel" "voidSince" "[I") (by decide +kernel)) (fun _ h9 => h9) rfl dX9_tablet_45 ?_
      refine lv_bipush (v := 12) hx hb dX9_tablet_48 (by decide) ?_
      refine lv_aload_n hx hb dX9_tablet_50 rfl (lv_at hl 1 rfl) ?_
      refine va_get (D := (dC, dI)) (ci := 9) (v := .int 0) (C := RX9) (T := TX9) (N := 47) hx hb hts hin9 hown hK hP 0 rfl rfl 35 (by decide) (hts (.fieldLink RX9 205 "YamRidersModel" "tablets" "I") (by decide +kernel)) (fun _ h9 => h9) rfl dX9_tablet_51 ?_
      refine lv_imul hx hb dX9_tablet_54 ?_
      refine lv_topi (fun y_46 ey_46 => ?_)
      obtain rfl : y_46 = 0 := ey_46.trans (by decide)
      refine lv_iload_n hx hb dX9_tablet_55 rfl (lv_at hl 0 rfl) ?_
      refine lv_iadd hx hb dX9_tablet_56 ?_
      refine lv_topi (fun y_47 ey_47 => ?_)
      obtain rfl : y_47 = 10 := ey_47.trans (by decide)
      refine lv_iconst (v := (-1)) hx hb dX9_tablet_57 (by decide) ?_
      refine va_iast hx hb hK hP hD hS 2 1 rfl rfl (by unfold vp_in; decide) dX9_tablet_58 (fun H locs hP hD hS => ?_)
      have hP : va_P (dC, dI) vwCl [(h0, .inr (9, [.int 0, .ref m1, .int 0, .int 0, .int 0, .ref m5, .ref m6, .ref m7, .int 0, .int 0, .int 0, .int 0, .int 0, .int 0, .long 0, .ref m15, .ref m16, .ref m17, .ref m18, .ref m19, .ref m20, .int 0, .ref m22, .ref m23, .ref m24, .ref m25, .ref m26, .ref m27, .ref m28, .ref m29, .ref m30, .ref m31, .ref m32, .ref m33, .ref m34, .int 0, .int 0, .ref m37, .ref m38, .ref m39, .ref m40, .ref m41, .ref m42, .ref m43, .ref m44, .ref m45, .ref m46])), (m22, .inl (k_rank, 20, .inl f_4)), (m23, .inl (k_voidSince, 240, .inl (upd f_44 (10 : Int32).toNatClampNeg (-1))))] H := hP
      have hD : va_D A [(h0, .inr (9, [.int 0, .ref m1, .int 0, .int 0, .int 0, .ref m5, .ref m6, .ref m7, .int 0, .int 0, .int 0, .int 0, .int 0, .int 0, .long 0, .ref m15, .ref m16, .ref m17, .ref m18, .ref m19, .ref m20, .int 0, .ref m22, .ref m23, .ref m24, .ref m25, .ref m26, .ref m27, .ref m28, .ref m29, .ref m30, .ref m31, .ref m32, .ref m33, .ref m34, .int 0, .int 0, .ref m37, .ref m38, .ref m39, .ref m40, .ref m41, .ref m42, .ref m43, .ref m44, .ref m45, .ref m46])), (m22, .inl (k_rank, 20, .inl f_4)), (m23, .inl (k_voidSince, 240, .inl (upd f_44 (10 : Int32).toNatClampNeg (-1))))] := hD
      obtain ⟨f_48, ef_48⟩ : ∃ w9 : Nat → Int32, w9 = upd f_44 (10 : Int32).toNatClampNeg (-1) := ⟨_, rfl⟩
      rw [← ef_48] at hP hD
      refine lv_iinc (v := 11) (lv' := [(2, .int 11), (0, .ref h0), (1, .int p0)]) hx hb dX9_tablet_59 hl (k := 0) rfl (by decide) (by decide) rfl (fun ls hl => ?_)
      refine lv_goto (tgt := 38) hx hb dX9_tablet_62 (by decide) ?_
      refine lv_iload_n hx hb dX9_tablet_38 rfl (lv_at hl 0 rfl) ?_
      refine lv_bipush (v := 12) hx hb dX9_tablet_39 (by decide) ?_
      refine lv_icmp_ge (tgt := 65) hx hb dX9_tablet_41 (by decide) (fun c_49 => by first | exact absurd c_49 (by decide) | exact absurd (by decide) c_49) (fun _ => ?_)
      refine lv_aload_n hx hb dX9_tablet_44 rfl (lv_at hl 1 rfl) ?_
      refine va_get (D := (dC, dI)) (ci := 9) (v := .ref m23) (C := RX9) (T := TX9) (N := 47) hx hb hts hin9 hown hK hP 0 rfl rfl 23 (by decide) (hts (.fieldLink RX9 45 "YamRidersModel" "voidSince" "[I") (by decide +kernel)) (fun _ h9 => h9) rfl dX9_tablet_45 ?_
      refine lv_bipush (v := 12) hx hb dX9_tablet_48 (by decide) ?_
      refine lv_aload_n hx hb dX9_tablet_50 rfl (lv_at hl 1 rfl) ?_
      refine va_get (D := (dC, dI)) (ci := 9) (v := .int 0) (C := RX9) (T := TX9) (N := 47) hx hb hts hin9 hown hK hP 0 rfl rfl 35 (by decide) (hts (.fieldLink RX9 205 "YamRidersModel" "tablets" "I") (by decide +kernel)) (fun _ h9 => h9) rfl dX9_tablet_51 ?_
      refine lv_imul hx hb dX9_tablet_54 ?_
      refine lv_topi (fun y_50 ey_50 => ?_)
      obtain rfl : y_50 = 0 := ey_50.trans (by decide)
      refine lv_iload_n hx hb dX9_tablet_55 rfl (lv_at hl 0 rfl) ?_
      refine lv_iadd hx hb dX9_tablet_56 ?_
      refine lv_topi (fun y_51 ey_51 => ?_)
      obtain rfl : y_51 = 11 := ey_51.trans (by decide)
      refine lv_iconst (v := (-1)) hx hb dX9_tablet_57 (by decide) ?_
      refine va_iast hx hb hK hP hD hS 2 1 rfl rfl (by unfold vp_in; decide) dX9_tablet_58 (fun H locs hP hD hS => ?_)
      have hP : va_P (dC, dI) vwCl [(h0, .inr (9, [.int 0, .ref m1, .int 0, .int 0, .int 0, .ref m5, .ref m6, .ref m7, .int 0, .int 0, .int 0, .int 0, .int 0, .int 0, .long 0, .ref m15, .ref m16, .ref m17, .ref m18, .ref m19, .ref m20, .int 0, .ref m22, .ref m23, .ref m24, .ref m25, .ref m26, .ref m27, .ref m28, .ref m29, .ref m30, .ref m31, .ref m32, .ref m33, .ref m34, .int 0, .int 0, .ref m37, .ref m38, .ref m39, .ref m40, .ref m41, .ref m42, .ref m43, .ref m44, .ref m45, .ref m46])), (m22, .inl (k_rank, 20, .inl f_4)), (m23, .inl (k_voidSince, 240, .inl (upd f_48 (11 : Int32).toNatClampNeg (-1))))] H := hP
      have hD : va_D A [(h0, .inr (9, [.int 0, .ref m1, .int 0, .int 0, .int 0, .ref m5, .ref m6, .ref m7, .int 0, .int 0, .int 0, .int 0, .int 0, .int 0, .long 0, .ref m15, .ref m16, .ref m17, .ref m18, .ref m19, .ref m20, .int 0, .ref m22, .ref m23, .ref m24, .ref m25, .ref m26, .ref m27, .ref m28, .ref m29, .ref m30, .ref m31, .ref m32, .ref m33, .ref m34, .int 0, .int 0, .ref m37, .ref m38, .ref m39, .ref m40, .ref m41, .ref m42, .ref m43, .ref m44, .ref m45, .ref m46])), (m22, .inl (k_rank, 20, .inl f_4)), (m23, .inl (k_voidSince, 240, .inl (upd f_48 (11 : Int32).toNatClampNeg (-1))))] := hD
      obtain ⟨f_52, ef_52⟩ : ∃ w9 : Nat → Int32, w9 = upd f_48 (11 : Int32).toNatClampNeg (-1) := ⟨_, rfl⟩
      rw [← ef_52] at hP hD
      refine lv_iinc (v := 12) (lv' := [(2, .int 12), (0, .ref h0), (1, .int p0)]) hx hb dX9_tablet_59 hl (k := 0) rfl (by decide) (by decide) rfl (fun ls hl => ?_)
      refine lv_goto (tgt := 38) hx hb dX9_tablet_62 (by decide) ?_
      refine lv_iload_n hx hb dX9_tablet_38 rfl (lv_at hl 0 rfl) ?_
      refine lv_bipush (v := 12) hx hb dX9_tablet_39 (by decide) ?_
      refine lv_icmp_ge (tgt := 65) hx hb dX9_tablet_41 (by decide) (fun _ => ?_) (fun c_53 => by first | exact absurd c_53 (by decide) | exact absurd (by decide) c_53)
      refine lv_aload_n hx hb dX9_tablet_65 rfl (lv_at hl 1 rfl) ?_
      refine lv_dup hx hb dX9_tablet_66 rfl ?_
      refine va_get (D := (dC, dI)) (ci := 9) (v := .int 0) (C := RX9) (T := TX9) (N := 47) hx hb hts hin9 hown hK hP 0 rfl rfl 35 (by decide) (hts (.fieldLink RX9 205 "YamRidersModel" "tablets" "I") (by decide +kernel)) (fun _ h9 => h9) rfl dX9_tablet_67 ?_
      refine lv_iconst (v := 1) hx hb dX9_tablet_70 (by decide) ?_
      refine lv_iadd hx hb dX9_tablet_71 ?_
      refine lv_topi (fun y_54 ey_54 => ?_)
      obtain rfl : y_54 = 1 := ey_54.trans (by decide)
      refine va_put (D := (dC, dI)) (ci := 9) (v := .int 1) (ty := (tyX9 35)) (C := RX9) (T := TX9) (N := 47) hx hb hts hin9 tyX9 tyX9_ok nmX9 hown hK hP hD hS 0 rfl rfl 35 (by decide) (hts (.fieldLink RX9 205 "YamRidersModel" "tablets" "I") (by decide +kernel)) (fun _ h9 => h9) rfl (by decide +kernel) rfl rfl (Nat.le_of_ble_eq_true rfl) dX9_tablet_72 (fun H locs hP hD hS => ?_)
      have hP : va_P (dC, dI) vwCl [(h0, .inr (9, [.int 0, .ref m1, .int 0, .int 0, .int 0, .ref m5, .ref m6, .ref m7, .int 0, .int 0, .int 0, .int 0, .int 0, .int 0, .long 0, .ref m15, .ref m16, .ref m17, .ref m18, .ref m19, .ref m20, .int 0, .ref m22, .ref m23, .ref m24, .ref m25, .ref m26, .ref m27, .ref m28, .ref m29, .ref m30, .ref m31, .ref m32, .ref m33, .ref m34, .int 1, .int 0, .ref m37, .ref m38, .ref m39, .ref m40, .ref m41, .ref m42, .ref m43, .ref m44, .ref m45, .ref m46])), (m22, .inl (k_rank, 20, .inl f_4)), (m23, .inl (k_voidSince, 240, .inl f_52))] H := hP
      have hD : va_D A [(h0, .inr (9, [.int 0, .ref m1, .int 0, .int 0, .int 0, .ref m5, .ref m6, .ref m7, .int 0, .int 0, .int 0, .int 0, .int 0, .int 0, .long 0, .ref m15, .ref m16, .ref m17, .ref m18, .ref m19, .ref m20, .int 0, .ref m22, .ref m23, .ref m24, .ref m25, .ref m26, .ref m27, .ref m28, .ref m29, .ref m30, .ref m31, .ref m32, .ref m33, .ref m34, .int 1, .int 0, .ref m37, .ref m38, .ref m39, .ref m40, .ref m41, .ref m42, .ref m43, .ref m44, .ref m45, .ref m46])), (m22, .inl (k_rank, 20, .inl f_4)), (m23, .inl (k_voidSince, 240, .inl f_52))] := hD
      refine lv_aload_n hx hb dX9_tablet_75 rfl (lv_at hl 1 rfl) ?_
      refine va_get (D := (dC, dI)) (ci := 9) (v := .int 1) (C := RX9) (T := TX9) (N := 47) hx hb hts hin9 hown hK hP 0 rfl rfl 35 (by decide) (hts (.fieldLink RX9 205 "YamRidersModel" "tablets" "I") (by decide +kernel)) (fun _ h9 => h9) rfl dX9_tablet_76 ?_
      refine lv_iconst (v := 1) hx hb dX9_tablet_79 (by decide) ?_
      refine lv_isub hx hb dX9_tablet_80 ?_
      refine lv_topi (fun y_55 ey_55 => ?_)
      obtain rfl : y_55 = 0 := ey_55.trans (by decide)
      have hP9 := hP.sub (ws' := []) [] rfl
      have hD9 := hD.sub (ws' := []) [] (by decide) rfl
      have hK9 := hK.sub (tys' := []) [] rfl
      refine W.widen (k := 0) (n := 0) (Nat.le_of_ble_eq_true rfl) (Nat.le_of_ble_eq_true rfl) ?_
      exact W.iret (v := 0) hx hb hr (fun t9 ht hW => ⟨⟨_, (), rfl, (by rw [if_neg c_2, if_pos c_3]), by rw [ht]; exact hP9, va_K.moved hW.alike hK9, hD9⟩, hS.F ht⟩) hS.2.2 dX9_tablet_81
    · refine lv_iconst (v := (-1)) hx hb dX9_tablet_24 (by decide) ?_
      have hP9 := hP.sub (ws' := []) [] rfl
      have hD9 := hD.sub (ws' := []) [] (by decide) rfl
      have hK9 := hK.sub (tys' := []) [] rfl
      refine W.widen (k := 0) (n := 0) (Nat.le_of_ble_eq_true rfl) (Nat.le_of_ble_eq_true rfl) ?_
      exact W.iret (v := (-1)) hx hb hr (fun t9 ht hW => ⟨⟨_, (), rfl, (by rw [if_neg c_2, if_neg c_3]), by rw [ht]; exact hP9, va_K.moved hW.alike hK9, hD9⟩, hS.F ht⟩) hS.2.2 dX9_tablet_25
