set_option maxHeartbeats 4000000 in
set_option maxRecDepth 100000 in
theorem r_X9_four (l : Launch) (dC : Nat → ClassId) (dI : Nat → Nat → Nat) (h0 : Nat) (m1 : Nat) (m5 : Nat) (m6 : Nat) (m7 : Nat) (m15 : Nat) (m16 : Nat) (m17 : Nat) (m18 : Nat) (m19 : Nat) (m20 : Nat) (m22 : Nat) (m23 : Nat) (m24 : Nat) (m25 : Nat) (m26 : Nat) (m27 : Nat) (m28 : Nat) (m29 : Nat) (m30 : Nat) (m31 : Nat) (m32 : Nat) (m33 : Nat) (m34 : Nat) (m37 : Nat) (m38 : Nat) (m39 : Nat) (m40 : Nat) (m41 : Nat) (m42 : Nat) (m43 : Nat) (m44 : Nat) (m45 : Nat) (m46 : Nat) (i_thrown : Int32) (i_size : Int32) (i_p : Int32) (i_token : Int32) (i_at : Int32) (i_number : Int32) (i_fault : Int32) (i_faultAt : Int32) (i_hour : Int32) (i_horses : Int32) (i_tablets : Int32) (i_riders : Int32) (i_word : Int64) (k_tape : ClassId) (a_tape : Nat → Int32) (p0 : Int32) (n9 : Nat) (sz : Nat) (hn9 : n9 + 4 ≤ 200) : Met l yX9_four wsX9_four ({ frames := 0, cells := 0, slots := 0, locals := 0 }) (va_Pc [.ref h0, .int p0] (cP dC dI [(h0, .inr (9, [.int i_thrown, .ref m1, .int (nI n9), .int i_size, .int i_p, .ref m5, .ref m6, .ref m7, .int i_token, .int i_at, .int i_number, .int i_fault, .int i_faultAt, .int i_hour, .long i_word, .ref m15, .ref m16, .ref m17, .ref m18, .ref m19, .ref m20, .int i_horses, .ref m22, .ref m23, .ref m24, .ref m25, .ref m26, .ref m27, .ref m28, .ref m29, .ref m30, .ref m31, .ref m32, .ref m33, .ref m34, .int i_tablets, .int i_riders, .ref m37, .ref m38, .ref m39, .ref m40, .ref m41, .ref m42, .ref m43, .ref m44, .ref m45, .ref m46])), (m1, .inl (k_tape, 200, .inl a_tape))] [(k_tape, .byte)] sz)) (va_Qv (fun (_ : Unit) => True) (fun (_ : Unit) t9 => ∃ (f2 : Nat → Int32), (f2 = up4 a_tape n9 (mb p0)) ∧ cQ dC dI [(h0, .inr (9, [.int i_thrown, .ref m1, .int (nI (n9 + 1 + 1 + 1 + 1)), .int i_size, .int i_p, .ref m5, .ref m6, .ref m7, .int i_token, .int i_at, .int i_number, .int i_fault, .int i_faultAt, .int i_hour, .long i_word, .ref m15, .ref m16, .ref m17, .ref m18, .ref m19, .ref m20, .int i_horses, .ref m22, .ref m23, .ref m24, .ref m25, .ref m26, .ref m27, .ref m28, .ref m29, .ref m30, .ref m31, .ref m32, .ref m33, .ref m34, .int i_tablets, .int i_riders, .ref m37, .ref m38, .ref m39, .ref m40, .ref m41, .ref m42, .ref m43, .ref m44, .ref m45, .ref m46])), (m1, .inl (k_tape, 200, .inl f2))] [] (va_A [(h0, .inr (9, [.int i_thrown, .ref m1, .int (nI n9), .int i_size, .int i_p, .ref m5, .ref m6, .ref m7, .int i_token, .int i_at, .int i_number, .int i_fault, .int i_faultAt, .int i_hour, .long i_word, .ref m15, .ref m16, .ref m17, .ref m18, .ref m19, .ref m20, .int i_horses, .ref m22, .ref m23, .ref m24, .ref m25, .ref m26, .ref m27, .ref m28, .ref m29, .ref m30, .ref m31, .ref m32, .ref m33, .ref m34, .int i_tablets, .int i_riders, .ref m37, .ref m38, .ref m39, .ref m40, .ref m41, .ref m42, .ref m43, .ref m44, .ref m45, .ref m46])), (m1, .inl (k_tape, 200, .inl a_tape))] sz) t9) (va_A [(h0, .inr (9, [.int i_thrown, .ref m1, .int (nI n9), .int i_size, .int i_p, .ref m5, .ref m6, .ref m7, .int i_token, .int i_at, .int i_number, .int i_fault, .int i_faultAt, .int i_hour, .long i_word, .ref m15, .ref m16, .ref m17, .ref m18, .ref m19, .ref m20, .int i_horses, .ref m22, .ref m23, .ref m24, .ref m25, .ref m26, .ref m27, .ref m28, .ref m29, .ref m30, .ref m31, .ref m32, .ref m33, .ref m34, .int i_tablets, .int i_riders, .ref m37, .ref m38, .ref m39, .ref m40, .ref m41, .ref m42, .ref m43, .ref m44, .ref m45, .ref m46])), (m1, .inl (k_tape, 200, .inl a_tape))] sz)) 0 0 (va_A [(h0, .inr (9, [.int i_thrown, .ref m1, .int (nI n9), .int i_size, .int i_p, .ref m5, .ref m6, .ref m7, .int i_token, .int i_at, .int i_number, .int i_fault, .int i_faultAt, .int i_hour, .long i_word, .ref m15, .ref m16, .ref m17, .ref m18, .ref m19, .ref m20, .int i_horses, .ref m22, .ref m23, .ref m24, .ref m25, .ref m26, .ref m27, .ref m28, .ref m29, .ref m30, .ref m31, .ref m32, .ref m33, .ref m34, .int i_tablets, .int i_riders, .ref m37, .ref m38, .ref m39, .ref m40, .ref m41, .ref m42, .ref m43, .ref m44, .ref m45, .ref m46])), (m1, .inl (k_tape, 200, .inl a_tape))] sz) := by
  refine Met.ofW (cc := cX9_four) (maxL := 3) (ret := none) (by decide) rfl ?_
  intro p e s m args below meth c s₁ B hml hv
  obtain ⟨rfl, hsz, hP, hK, hD0, hN⟩ := hv
  have hx := B.exec
  have hb := B.bytes
  have hr := B.returns
  have hts := atoms_spec (ws := wsX9_four) B.pre
  have hown : s.vm.findClass RX9 = some m.cls := findClass_of_methodNamed B.named
  have hlocks := B.notSynchronized
  subst hsz
  have hin9 : ∀ w ∈ u_ws RX9 TX9 47, w ∈ wsX9_four := by decide +kernel
  have hD := hD0.self (sz := s.heap.size)
  generalize hAe : va_A [(h0, .inr (9, [.int i_thrown, .ref m1, .int (nI n9), .int i_size, .int i_p, .ref m5, .ref m6, .ref m7, .int i_token, .int i_at, .int i_number, .int i_fault, .int i_faultAt, .int i_hour, .long i_word, .ref m15, .ref m16, .ref m17, .ref m18, .ref m19, .ref m20, .int i_horses, .ref m22, .ref m23, .ref m24, .ref m25, .ref m26, .ref m27, .ref m28, .ref m29, .ref m30, .ref m31, .ref m32, .ref m33, .ref m34, .int i_tablets, .int i_riders, .ref m37, .ref m38, .ref m39, .ref m40, .ref m41, .ref m42, .ref m43, .ref m44, .ref m45, .ref m46])), (m1, .inl (k_tape, 200, .inl a_tape))] s.heap.size = A at hD ⊢
  have hA : ∀ q : Nat, s.heap.size ≤ q → A q := fun q h => by rw [← hAe]; exact Or.inr h
  have hS : va_S A s.heap s.heap [] := va_S.rf
  have hP : va_P (dC, dI) vwCl [(h0, .inr (9, [.int i_thrown, .ref m1, .int (nI n9), .int i_size, .int i_p, .ref m5, .ref m6, .ref m7, .int i_token, .int i_at, .int i_number, .int i_fault, .int i_faultAt, .int i_hour, .long i_word, .ref m15, .ref m16, .ref m17, .ref m18, .ref m19, .ref m20, .int i_horses, .ref m22, .ref m23, .ref m24, .ref m25, .ref m26, .ref m27, .ref m28, .ref m29, .ref m30, .ref m31, .ref m32, .ref m33, .ref m34, .int i_tablets, .int i_riders, .ref m37, .ref m38, .ref m39, .ref m40, .ref m41, .ref m42, .ref m43, .ref m44, .ref m45, .ref m46])), (m1, .inl (k_tape, 200, .inl a_tape))] s.heap := hP
  have hl := lv_entry ([.ref h0, .int p0]) (n := 3) (Nat.le_of_ble_eq_true rfl)
  rw [lg_entry_eq]
  generalize (lg_sl ([.ref h0, .int p0]) ++ List.replicate (3 - (lg_sl ([.ref h0, .int p0])).length) Slot.unset).toArray = ls at hl ⊢
  have hl : lv_has ls 3 [(0, .ref h0), (1, .int p0)] := hl
  refine lv_bipush (v := 24) hx hb dX9_four_0 (by decide) ?_
  refine lv_istore_n (lv' := [(2, .int 24), (0, .ref h0), (1, .int p0)]) hx hb dX9_four_2 rfl hl (by decide) rfl (fun ls hl => ?_)
  refine lv_iload_n hx hb dX9_four_3 rfl (lv_at hl 0 rfl) ?_
  refine lv_if_lt (tgt := 36) hx hb dX9_four_4 (by decide) (fun c_1 => by first | exact absurd c_1 (by decide) | exact absurd (by decide) c_1) (fun _ => ?_)
  refine lv_aload_n hx hb dX9_four_7 rfl (lv_at hl 1 rfl) ?_
  refine va_get (D := (dC, dI)) (ci := 9) (v := .ref m1) (C := RX9) (T := TX9) (N := 47) hx hb hts hin9 hown hK hP 0 rfl rfl 1 (by decide) (hts (.fieldLink RX9 7 "YamRidersModel" "tape" "[B") (by decide +kernel)) (fun _ h9 => h9) rfl dX9_four_8 ?_
  refine lv_aload_n hx hb dX9_four_11 rfl (lv_at hl 1 rfl) ?_
  refine va_get (D := (dC, dI)) (ci := 9) (v := .int (nI n9)) (C := RX9) (T := TX9) (N := 47) hx hb hts hin9 hown hK hP 0 rfl rfl 2 (by decide) (hts (.fieldLink RX9 115 "YamRidersModel" "length" "I") (by decide +kernel)) (fun _ h9 => h9) rfl dX9_four_12 ?_
  refine lv_iload_n hx hb dX9_four_15 rfl (lv_at hl 2 rfl) ?_
  refine lv_iload_n hx hb dX9_four_16 rfl (lv_at hl 0 rfl) ?_
  refine lv_ishr hx hb dX9_four_17 ?_
  refine lv_i2b hx hb dX9_four_18 rfl ?_
  refine lv_topi (fun v_2 ev_2 => ?_)
  refine va_bast hx hb hK hP hD hS 1 0 rfl rfl (vp_in_nI (by omega) (by decide)) dX9_four_19 (fun H locs hP hD hS => ?_)
  have hP : va_P (dC, dI) vwCl [(h0, .inr (9, [.int i_thrown, .ref m1, .int (nI n9), .int i_size, .int i_p, .ref m5, .ref m6, .ref m7, .int i_token, .int i_at, .int i_number, .int i_fault, .int i_faultAt, .int i_hour, .long i_word, .ref m15, .ref m16, .ref m17, .ref m18, .ref m19, .ref m20, .int i_horses, .ref m22, .ref m23, .ref m24, .ref m25, .ref m26, .ref m27, .ref m28, .ref m29, .ref m30, .ref m31, .ref m32, .ref m33, .ref m34, .int i_tablets, .int i_riders, .ref m37, .ref m38, .ref m39, .ref m40, .ref m41, .ref m42, .ref m43, .ref m44, .ref m45, .ref m46])), (m1, .inl (k_tape, 200, .inl (upd a_tape (nI n9).toNatClampNeg (vp_nar .byte v_2))))] H := hP
  have hD : va_D A [(h0, .inr (9, [.int i_thrown, .ref m1, .int (nI n9), .int i_size, .int i_p, .ref m5, .ref m6, .ref m7, .int i_token, .int i_at, .int i_number, .int i_fault, .int i_faultAt, .int i_hour, .long i_word, .ref m15, .ref m16, .ref m17, .ref m18, .ref m19, .ref m20, .int i_horses, .ref m22, .ref m23, .ref m24, .ref m25, .ref m26, .ref m27, .ref m28, .ref m29, .ref m30, .ref m31, .ref m32, .ref m33, .ref m34, .int i_tablets, .int i_riders, .ref m37, .ref m38, .ref m39, .ref m40, .ref m41, .ref m42, .ref m43, .ref m44, .ref m45, .ref m46])), (m1, .inl (k_tape, 200, .inl (upd a_tape (nI n9).toNatClampNeg (vp_nar .byte v_2))))] := hD
  obtain ⟨f_3, ef_3⟩ : ∃ w9 : Nat → Int32, w9 = upd a_tape (nI n9).toNatClampNeg (vp_nar .byte v_2) := ⟨_, rfl⟩
  rw [← ef_3] at hP hD
  refine lv_aload_n hx hb dX9_four_20 rfl (lv_at hl 1 rfl) ?_
  refine lv_dup hx hb dX9_four_21 rfl ?_
  refine va_get (D := (dC, dI)) (ci := 9) (v := .int (nI n9)) (C := RX9) (T := TX9) (N := 47) hx hb hts hin9 hown hK hP 0 rfl rfl 2 (by decide) (hts (.fieldLink RX9 115 "YamRidersModel" "length" "I") (by decide +kernel)) (fun _ h9 => h9) rfl dX9_four_22 ?_
  refine lv_iconst (v := 1) hx hb dX9_four_25 (by decide) ?_
  refine lv_iadd hx hb dX9_four_26 ?_
  refine lv_topi (fun y_4 ey_4 => ?_)
  obtain rfl : y_4 = nI (n9 + 1) := ey_4.trans (nI_1 n9)
  refine va_put (D := (dC, dI)) (ci := 9) (v := .int (nI (n9 + 1))) (ty := (tyX9 2)) (C := RX9) (T := TX9) (N := 47) hx hb hts hin9 tyX9 tyX9_ok nmX9 hown hK hP hD hS 0 rfl rfl 2 (by decide) (hts (.fieldLink RX9 115 "YamRidersModel" "length" "I") (by decide +kernel)) (fun _ h9 => h9) rfl (by decide +kernel) rfl rfl (Nat.le_of_ble_eq_true rfl) dX9_four_27 (fun H locs hP hD hS => ?_)
  have hP : va_P (dC, dI) vwCl [(h0, .inr (9, [.int i_thrown, .ref m1, .int (nI (n9 + 1)), .int i_size, .int i_p, .ref m5, .ref m6, .ref m7, .int i_token, .int i_at, .int i_number, .int i_fault, .int i_faultAt, .int i_hour, .long i_word, .ref m15, .ref m16, .ref m17, .ref m18, .ref m19, .ref m20, .int i_horses, .ref m22, .ref m23, .ref m24, .ref m25, .ref m26, .ref m27, .ref m28, .ref m29, .ref m30, .ref m31, .ref m32, .ref m33, .ref m34, .int i_tablets, .int i_riders, .ref m37, .ref m38, .ref m39, .ref m40, .ref m41, .ref m42, .ref m43, .ref m44, .ref m45, .ref m46])), (m1, .inl (k_tape, 200, .inl f_3))] H := hP
  have hD : va_D A [(h0, .inr (9, [.int i_thrown, .ref m1, .int (nI (n9 + 1)), .int i_size, .int i_p, .ref m5, .ref m6, .ref m7, .int i_token, .int i_at, .int i_number, .int i_fault, .int i_faultAt, .int i_hour, .long i_word, .ref m15, .ref m16, .ref m17, .ref m18, .ref m19, .ref m20, .int i_horses, .ref m22, .ref m23, .ref m24, .ref m25, .ref m26, .ref m27, .ref m28, .ref m29, .ref m30, .ref m31, .ref m32, .ref m33, .ref m34, .int i_tablets, .int i_riders, .ref m37, .ref m38, .ref m39, .ref m40, .ref m41, .ref m42, .ref m43, .ref m44, .ref m45, .ref m46])), (m1, .inl (k_tape, 200, .inl f_3))] := hD
  refine lv_iinc (v := 16) (lv' := [(2, .int 16), (0, .ref h0), (1, .int p0)]) hx hb dX9_four_30 hl (k := 0) rfl (by decide) (by decide) rfl (fun ls hl => ?_)
  refine lv_goto (tgt := 3) hx hb dX9_four_33 (by decide) ?_
  refine lv_iload_n hx hb dX9_four_3 rfl (lv_at hl 0 rfl) ?_
  refine lv_if_lt (tgt := 36) hx hb dX9_four_4 (by decide) (fun c_5 => by first | exact absurd c_5 (by decide) | exact absurd (by decide) c_5) (fun _ => ?_)
  refine lv_aload_n hx hb dX9_four_7 rfl (lv_at hl 1 rfl) ?_
  refine va_get (D := (dC, dI)) (ci := 9) (v := .ref m1) (C := RX9) (T := TX9) (N := 47) hx hb hts hin9 hown hK hP 0 rfl rfl 1 (by decide) (hts (.fieldLink RX9 7 "YamRidersModel" "tape" "[B") (by decide +kernel)) (fun _ h9 => h9) rfl dX9_four_8 ?_
  refine lv_aload_n hx hb dX9_four_11 rfl (lv_at hl 1 rfl) ?_
  refine va_get (D := (dC, dI)) (ci := 9) (v := .int (nI (n9 + 1))) (C := RX9) (T := TX9) (N := 47) hx hb hts hin9 hown hK hP 0 rfl rfl 2 (by decide) (hts (.fieldLink RX9 115 "YamRidersModel" "length" "I") (by decide +kernel)) (fun _ h9 => h9) rfl dX9_four_12 ?_
  refine lv_iload_n hx hb dX9_four_15 rfl (lv_at hl 2 rfl) ?_
  refine lv_iload_n hx hb dX9_four_16 rfl (lv_at hl 0 rfl) ?_
  refine lv_ishr hx hb dX9_four_17 ?_
  refine lv_i2b hx hb dX9_four_18 rfl ?_
  refine lv_topi (fun v_6 ev_6 => ?_)
  refine va_bast hx hb hK hP hD hS 1 0 rfl rfl (vp_in_nI (by omega) (by decide)) dX9_four_19 (fun H locs hP hD hS => ?_)
  have hP : va_P (dC, dI) vwCl [(h0, .inr (9, [.int i_thrown, .ref m1, .int (nI (n9 + 1)), .int i_size, .int i_p, .ref m5, .ref m6, .ref m7, .int i_token, .int i_at, .int i_number, .int i_fault, .int i_faultAt, .int i_hour, .long i_word, .ref m15, .ref m16, .ref m17, .ref m18, .ref m19, .ref m20, .int i_horses, .ref m22, .ref m23, .ref m24, .ref m25, .ref m26, .ref m27, .ref m28, .ref m29, .ref m30, .ref m31, .ref m32, .ref m33, .ref m34, .int i_tablets, .int i_riders, .ref m37, .ref m38, .ref m39, .ref m40, .ref m41, .ref m42, .ref m43, .ref m44, .ref m45, .ref m46])), (m1, .inl (k_tape, 200, .inl (upd f_3 (nI (n9 + 1)).toNatClampNeg (vp_nar .byte v_6))))] H := hP
  have hD : va_D A [(h0, .inr (9, [.int i_thrown, .ref m1, .int (nI (n9 + 1)), .int i_size, .int i_p, .ref m5, .ref m6, .ref m7, .int i_token, .int i_at, .int i_number, .int i_fault, .int i_faultAt, .int i_hour, .long i_word, .ref m15, .ref m16, .ref m17, .ref m18, .ref m19, .ref m20, .int i_horses, .ref m22, .ref m23, .ref m24, .ref m25, .ref m26, .ref m27, .ref m28, .ref m29, .ref m30, .ref m31, .ref m32, .ref m33, .ref m34, .int i_tablets, .int i_riders, .ref m37, .ref m38, .ref m39, .ref m40, .ref m41, .ref m42, .ref m43, .ref m44, .ref m45, .ref m46])), (m1, .inl (k_tape, 200, .inl (upd f_3 (nI (n9 + 1)).toNatClampNeg (vp_nar .byte v_6))))] := hD
  obtain ⟨f_7, ef_7⟩ : ∃ w9 : Nat → Int32, w9 = upd f_3 (nI (n9 + 1)).toNatClampNeg (vp_nar .byte v_6) := ⟨_, rfl⟩
  rw [← ef_7] at hP hD
  refine lv_aload_n hx hb dX9_four_20 rfl (lv_at hl 1 rfl) ?_
  refine lv_dup hx hb dX9_four_21 rfl ?_
  refine va_get (D := (dC, dI)) (ci := 9) (v := .int (nI (n9 + 1))) (C := RX9) (T := TX9) (N := 47) hx hb hts hin9 hown hK hP 0 rfl rfl 2 (by decide) (hts (.fieldLink RX9 115 "YamRidersModel" "length" "I") (by decide +kernel)) (fun _ h9 => h9) rfl dX9_four_22 ?_
  refine lv_iconst (v := 1) hx hb dX9_four_25 (by decide) ?_
  refine lv_iadd hx hb dX9_four_26 ?_
  refine lv_topi (fun y_8 ey_8 => ?_)
  obtain rfl : y_8 = nI ((n9 + 1) + 1) := ey_8.trans (nI_1 (n9 + 1))
  refine va_put (D := (dC, dI)) (ci := 9) (v := .int (nI ((n9 + 1) + 1))) (ty := (tyX9 2)) (C := RX9) (T := TX9) (N := 47) hx hb hts hin9 tyX9 tyX9_ok nmX9 hown hK hP hD hS 0 rfl rfl 2 (by decide) (hts (.fieldLink RX9 115 "YamRidersModel" "length" "I") (by decide +kernel)) (fun _ h9 => h9) rfl (by decide +kernel) rfl rfl (Nat.le_of_ble_eq_true rfl) dX9_four_27 (fun H locs hP hD hS => ?_)
  have hP : va_P (dC, dI) vwCl [(h0, .inr (9, [.int i_thrown, .ref m1, .int (nI ((n9 + 1) + 1)), .int i_size, .int i_p, .ref m5, .ref m6, .ref m7, .int i_token, .int i_at, .int i_number, .int i_fault, .int i_faultAt, .int i_hour, .long i_word, .ref m15, .ref m16, .ref m17, .ref m18, .ref m19, .ref m20, .int i_horses, .ref m22, .ref m23, .ref m24, .ref m25, .ref m26, .ref m27, .ref m28, .ref m29, .ref m30, .ref m31, .ref m32, .ref m33, .ref m34, .int i_tablets, .int i_riders, .ref m37, .ref m38, .ref m39, .ref m40, .ref m41, .ref m42, .ref m43, .ref m44, .ref m45, .ref m46])), (m1, .inl (k_tape, 200, .inl f_7))] H := hP
  have hD : va_D A [(h0, .inr (9, [.int i_thrown, .ref m1, .int (nI ((n9 + 1) + 1)), .int i_size, .int i_p, .ref m5, .ref m6, .ref m7, .int i_token, .int i_at, .int i_number, .int i_fault, .int i_faultAt, .int i_hour, .long i_word, .ref m15, .ref m16, .ref m17, .ref m18, .ref m19, .ref m20, .int i_horses, .ref m22, .ref m23, .ref m24, .ref m25, .ref m26, .ref m27, .ref m28, .ref m29, .ref m30, .ref m31, .ref m32, .ref m33, .ref m34, .int i_tablets, .int i_riders, .ref m37, .ref m38, .ref m39, .ref m40, .ref m41, .ref m42, .ref m43, .ref m44, .ref m45, .ref m46])), (m1, .inl (k_tape, 200, .inl f_7))] := hD
  refine lv_iinc (v := 8) (lv' := [(2, .int 8), (0, .ref h0), (1, .int p0)]) hx hb dX9_four_30 hl (k := 0) rfl (by decide) (by decide) rfl (fun ls hl => ?_)
  refine lv_goto (tgt := 3) hx hb dX9_four_33 (by decide) ?_
  refine lv_iload_n hx hb dX9_four_3 rfl (lv_at hl 0 rfl) ?_
  refine lv_if_lt (tgt := 36) hx hb dX9_four_4 (by decide) (fun c_9 => by first | exact absurd c_9 (by decide) | exact absurd (by decide) c_9) (fun _ => ?_)
  refine lv_aload_n hx hb dX9_four_7 rfl (lv_at hl 1 rfl) ?_
  refine va_get (D := (dC, dI)) (ci := 9) (v := .ref m1) (C := RX9) (T := TX9) (N := 47) hx hb hts hin9 hown hK hP 0 rfl rfl 1 (by decide) (hts (.fieldLink RX9 7 "YamRidersModel" "tape" "[B") (by decide +kernel)) (fun _ h9 => h9) rfl dX9_four_8 ?_
  refine lv_aload_n hx hb dX9_four_11 rfl (lv_at hl 1 rfl) ?_
  refine va_get (D := (dC, dI)) (ci := 9) (v := .int (nI ((n9 + 1) + 1))) (C := RX9) (T := TX9) (N := 47) hx hb hts hin9 hown hK hP 0 rfl rfl 2 (by decide) (hts (.fieldLink RX9 115 "YamRidersModel" "length" "I") (by decide +kernel)) (fun _ h9 => h9) rfl dX9_four_12 ?_
  refine lv_iload_n hx hb dX9_four_15 rfl (lv_at hl 2 rfl) ?_
  refine lv_iload_n hx hb dX9_four_16 rfl (lv_at hl 0 rfl) ?_
  refine lv_ishr hx hb dX9_four_17 ?_
  refine lv_i2b hx hb dX9_four_18 rfl ?_
  refine lv_topi (fun v_10 ev_10 => ?_)
  refine va_bast hx hb hK hP hD hS 1 0 rfl rfl (vp_in_nI (by omega) (by decide)) dX9_four_19 (fun H locs hP hD hS => ?_)
  have hP : va_P (dC, dI) vwCl [(h0, .inr (9, [.int i_thrown, .ref m1, .int (nI ((n9 + 1) + 1)), .int i_size, .int i_p, .ref m5, .ref m6, .ref m7, .int i_token, .int i_at, .int i_number, .int i_fault, .int i_faultAt, .int i_hour, .long i_word, .ref m15, .ref m16, .ref m17, .ref m18, .ref m19, .ref m20, .int i_horses, .ref m22, .ref m23, .ref m24, .ref m25, .ref m26, .ref m27, .ref m28, .ref m29, .ref m30, .ref m31, .ref m32, .ref m33, .ref m34, .int i_tablets, .int i_riders, .ref m37, .ref m38, .ref m39, .ref m40, .ref m41, .ref m42, .ref m43, .ref m44, .ref m45, .ref m46])), (m1, .inl (k_tape, 200, .inl (upd f_7 (nI ((n9 + 1) + 1)).toNatClampNeg (vp_nar .byte v_10))))] H := hP
  have hD : va_D A [(h0, .inr (9, [.int i_thrown, .ref m1, .int (nI ((n9 + 1) + 1)), .int i_size, .int i_p, .ref m5, .ref m6, .ref m7, .int i_token, .int i_at, .int i_number, .int i_fault, .int i_faultAt, .int i_hour, .long i_word, .ref m15, .ref m16, .ref m17, .ref m18, .ref m19, .ref m20, .int i_horses, .ref m22, .ref m23, .ref m24, .ref m25, .ref m26, .ref m27, .ref m28, .ref m29, .ref m30, .ref m31, .ref m32, .ref m33, .ref m34, .int i_tablets, .int i_riders, .ref m37, .ref m38, .ref m39, .ref m40, .ref m41, .ref m42, .ref m43, .ref m44, .ref m45, .ref m46])), (m1, .inl (k_tape, 200, .inl (upd f_7 (nI ((n9 + 1) + 1)).toNatClampNeg (vp_nar .byte v_10))))] := hD
  obtain ⟨f_11, ef_11⟩ : ∃ w9 : Nat → Int32, w9 = upd f_7 (nI ((n9 + 1) + 1)).toNatClampNeg (vp_nar .byte v_10) := ⟨_, rfl⟩
  rw [← ef_11] at hP hD
  refine lv_aload_n hx hb dX9_four_20 rfl (lv_at hl 1 rfl) ?_
  refine lv_dup hx hb dX9_four_21 rfl ?_
  refine va_get (D := (dC, dI)) (ci := 9) (v := .int (nI ((n9 + 1) + 1))) (C := RX9) (T := TX9) (N := 47) hx hb hts hin9 hown hK hP 0 rfl rfl 2 (by decide) (hts (.fieldLink RX9 115 "YamRidersModel" "length" "I") (by decide +kernel)) (fun _ h9 => h9) rfl dX9_four_22 ?_
  refine lv_iconst (v := 1) hx hb dX9_four_25 (by decide) ?_
  refine lv_iadd hx hb dX9_four_26 ?_
  refine lv_topi (fun y_12 ey_12 => ?_)
  obtain rfl : y_12 = nI (((n9 + 1) + 1) + 1) := ey_12.trans (nI_1 ((n9 + 1) + 1))
  refine va_put (D := (dC, dI)) (ci := 9) (v := .int (nI (((n9 + 1) + 1) + 1))) (ty := (tyX9 2)) (C := RX9) (T := TX9) (N := 47) hx hb hts hin9 tyX9 tyX9_ok nmX9 hown hK hP hD hS 0 rfl rfl 2 (by decide) (hts (.fieldLink RX9 115 "YamRidersModel" "length" "I") (by decide +kernel)) (fun _ h9 => h9) rfl (by decide +kernel) rfl rfl (Nat.le_of_ble_eq_true rfl) dX9_four_27 (fun H locs hP hD hS => ?_)
  have hP : va_P (dC, dI) vwCl [(h0, .inr (9, [.int i_thrown, .ref m1, .int (nI (((n9 + 1) + 1) + 1)), .int i_size, .int i_p, .ref m5, .ref m6, .ref m7, .int i_token, .int i_at, .int i_number, .int i_fault, .int i_faultAt, .int i_hour, .long i_word, .ref m15, .ref m16, .ref m17, .ref m18, .ref m19, .ref m20, .int i_horses, .ref m22, .ref m23, .ref m24, .ref m25, .ref m26, .ref m27, .ref m28, .ref m29, .ref m30, .ref m31, .ref m32, .ref m33, .ref m34, .int i_tablets, .int i_riders, .ref m37, .ref m38, .ref m39, .ref m40, .ref m41, .ref m42, .ref m43, .ref m44, .ref m45, .ref m46])), (m1, .inl (k_tape, 200, .inl f_11))] H := hP
  have hD : va_D A [(h0, .inr (9, [.int i_thrown, .ref m1, .int (nI (((n9 + 1) + 1) + 1)), .int i_size, .int i_p, .ref m5, .ref m6, .ref m7, .int i_token, .int i_at, .int i_number, .int i_fault, .int i_faultAt, .int i_hour, .long i_word, .ref m15, .ref m16, .ref m17, .ref m18, .ref m19, .ref m20, .int i_horses, .ref m22, .ref m23, .ref m24, .ref m25, .ref m26, .ref m27, .ref m28, .ref m29, .ref m30, .ref m31, .ref m32, .ref m33, .ref m34, .int i_tablets, .int i_riders, .ref m37, .ref m38, .ref m39, .ref m40, .ref m41, .ref m42, .ref m43, .ref m44, .ref m45, .ref m46])), (m1, .inl (k_tape, 200, .inl f_11))] := hD
  refine lv_iinc (v := 0) (lv' := [(2, .int 0), (0, .ref h0), (1, .int p0)]) hx hb dX9_four_30 hl (k := 0) rfl (by decide) (by decide) rfl (fun ls hl => ?_)
  refine lv_goto (tgt := 3) hx hb dX9_four_33 (by decide) ?_
  refine lv_iload_n hx hb dX9_four_3 rfl (lv_at hl 0 rfl) ?_
  refine lv_if_lt (tgt := 36) hx hb dX9_four_4 (by decide) (fun c_13 => by first | exact absurd c_13 (by decide) | exact absurd (by decide) c_13) (fun _ => ?_)
  refine lv_aload_n hx hb dX9_four_7 rfl (lv_at hl 1 rfl) ?_
  refine va_get (D := (dC, dI)) (ci := 9) (v := .ref m1) (C := RX9) (T := TX9) (N := 47) hx hb hts hin9 hown hK hP 0 rfl rfl 1 (by decide) (hts (.fieldLink RX9 7 "YamRidersModel" "tape" "[B") (by decide +kernel)) (fun _ h9 => h9) rfl dX9_four_8 ?_
  refine lv_aload_n hx hb dX9_four_11 rfl (lv_at hl 1 rfl) ?_
  refine va_get (D := (dC, dI)) (ci := 9) (v := .int (nI (((n9 + 1) + 1) + 1))) (C := RX9) (T := TX9) (N := 47) hx hb hts hin9 hown hK hP 0 rfl rfl 2 (by decide) (hts (.fieldLink RX9 115 "YamRidersModel" "length" "I") (by decide +kernel)) (fun _ h9 => h9) rfl dX9_four_12 ?_
  refine lv_iload_n hx hb dX9_four_15 rfl (lv_at hl 2 rfl) ?_
  refine lv_iload_n hx hb dX9_four_16 rfl (lv_at hl 0 rfl) ?_
  refine lv_ishr hx hb dX9_four_17 ?_
  refine lv_i2b hx hb dX9_four_18 rfl ?_
  refine lv_topi (fun v_14 ev_14 => ?_)
  refine va_bast hx hb hK hP hD hS 1 0 rfl rfl (vp_in_nI (by omega) (by decide)) dX9_four_19 (fun H locs hP hD hS => ?_)
  have hP : va_P (dC, dI) vwCl [(h0, .inr (9, [.int i_thrown, .ref m1, .int (nI (((n9 + 1) + 1) + 1)), .int i_size, .int i_p, .ref m5, .ref m6, .ref m7, .int i_token, .int i_at, .int i_number, .int i_fault, .int i_faultAt, .int i_hour, .long i_word, .ref m15, .ref m16, .ref m17, .ref m18, .ref m19, .ref m20, .int i_horses, .ref m22, .ref m23, .ref m24, .ref m25, .ref m26, .ref m27, .ref m28, .ref m29, .ref m30, .ref m31, .ref m32, .ref m33, .ref m34, .int i_tablets, .int i_riders, .ref m37, .ref m38, .ref m39, .ref m40, .ref m41, .ref m42, .ref m43, .ref m44, .ref m45, .ref m46])), (m1, .inl (k_tape, 200, .inl (upd f_11 (nI (((n9 + 1) + 1) + 1)).toNatClampNeg (vp_nar .byte v_14))))] H := hP
  have hD : va_D A [(h0, .inr (9, [.int i_thrown, .ref m1, .int (nI (((n9 + 1) + 1) + 1)), .int i_size, .int i_p, .ref m5, .ref m6, .ref m7, .int i_token, .int i_at, .int i_number, .int i_fault, .int i_faultAt, .int i_hour, .long i_word, .ref m15, .ref m16, .ref m17, .ref m18, .ref m19, .ref m20, .int i_horses, .ref m22, .ref m23, .ref m24, .ref m25, .ref m26, .ref m27, .ref m28, .ref m29, .ref m30, .ref m31, .ref m32, .ref m33, .ref m34, .int i_tablets, .int i_riders, .ref m37, .ref m38, .ref m39, .ref m40, .ref m41, .ref m42, .ref m43, .ref m44, .ref m45, .ref m46])), (m1, .inl (k_tape, 200, .inl (upd f_11 (nI (((n9 + 1) + 1) + 1)).toNatClampNeg (vp_nar .byte v_14))))] := hD
  obtain ⟨f_15, ef_15⟩ : ∃ w9 : Nat → Int32, w9 = upd f_11 (nI (((n9 + 1) + 1) + 1)).toNatClampNeg (vp_nar .byte v_14) := ⟨_, rfl⟩
  rw [← ef_15] at hP hD
  refine lv_aload_n hx hb dX9_four_20 rfl (lv_at hl 1 rfl) ?_
  refine lv_dup hx hb dX9_four_21 rfl ?_
  refine va_get (D := (dC, dI)) (ci := 9) (v := .int (nI (((n9 + 1) + 1) + 1))) (C := RX9) (T := TX9) (N := 47) hx hb hts hin9 hown hK hP 0 rfl rfl 2 (by decide) (hts (.fieldLink RX9 115 "YamRidersModel" "length" "I") (by decide +kernel)) (fun _ h9 => h9) rfl dX9_four_22 ?_
  refine lv_iconst (v := 1) hx hb dX9_four_25 (by decide) ?_
  refine lv_iadd hx hb dX9_four_26 ?_
  refine lv_topi (fun y_16 ey_16 => ?_)
  obtain rfl : y_16 = nI ((((n9 + 1) + 1) + 1) + 1) := ey_16.trans (nI_1 (((n9 + 1) + 1) + 1))
  refine va_put (D := (dC, dI)) (ci := 9) (v := .int (nI ((((n9 + 1) + 1) + 1) + 1))) (ty := (tyX9 2)) (C := RX9) (T := TX9) (N := 47) hx hb hts hin9 tyX9 tyX9_ok nmX9 hown hK hP hD hS 0 rfl rfl 2 (by decide) (hts (.fieldLink RX9 115 "YamRidersModel" "length" "I") (by decide +kernel)) (fun _ h9 => h9) rfl (by decide +kernel) rfl rfl (Nat.le_of_ble_eq_true rfl) dX9_four_27 (fun H locs hP hD hS => ?_)
  have hP : va_P (dC, dI) vwCl [(h0, .inr (9, [.int i_thrown, .ref m1, .int (nI ((((n9 + 1) + 1) + 1) + 1)), .int i_size, .int i_p, .ref m5, .ref m6, .ref m7, .int i_token, .int i_at, .int i_number, .int i_fault, .int i_faultAt, .int i_hour, .long i_word, .ref m15, .ref m16, .ref m17, .ref m18, .ref m19, .ref m20, .int i_horses, .ref m22, .ref m23, .ref m24, .ref m25, .ref m26, .ref m27, .ref m28, .ref m29, .ref m30, .ref m31, .ref m32, .ref m33, .ref m34, .int i_tablets, .int i_riders, .ref m37, .ref m38, .ref m39, .ref m40, .ref m41, .ref m42, .ref m43, .ref m44, .ref m45, .ref m46])), (m1, .inl (k_tape, 200, .inl f_15))] H := hP
  have hD : va_D A [(h0, .inr (9, [.int i_thrown, .ref m1, .int (nI ((((n9 + 1) + 1) + 1) + 1)), .int i_size, .int i_p, .ref m5, .ref m6, .ref m7, .int i_token, .int i_at, .int i_number, .int i_fault, .int i_faultAt, .int i_hour, .long i_word, .ref m15, .ref m16, .ref m17, .ref m18, .ref m19, .ref m20, .int i_horses, .ref m22, .ref m23, .ref m24, .ref m25, .ref m26, .ref m27, .ref m28, .ref m29, .ref m30, .ref m31, .ref m32, .ref m33, .ref m34, .int i_tablets, .int i_riders, .ref m37, .ref m38, .ref m39, .ref m40, .ref m41, .ref m42, .ref m43, .ref m44, .ref m45, .ref m46])), (m1, .inl (k_tape, 200, .inl f_15))] := hD
  refine lv_iinc (v := (-8)) (lv' := [(2, .int (-8)), (0, .ref h0), (1, .int p0)]) hx hb dX9_four_30 hl (k := 0) rfl (by decide) (by decide) rfl (fun ls hl => ?_)
  refine lv_goto (tgt := 3) hx hb dX9_four_33 (by decide) ?_
  refine lv_iload_n hx hb dX9_four_3 rfl (lv_at hl 0 rfl) ?_
  refine lv_if_lt (tgt := 36) hx hb dX9_four_4 (by decide) (fun _ => ?_) (fun c_17 => by first | exact absurd c_17 (by decide) | exact absurd (by decide) c_17)
  have hP9 := hP.sub (ws' := [(h0, .inr (9, [.int i_thrown, .ref m1, .int (nI (n9 + 1 + 1 + 1 + 1)), .int i_size, .int i_p, .ref m5, .ref m6, .ref m7, .int i_token, .int i_at, .int i_number, .int i_fault, .int i_faultAt, .int i_hour, .long i_word, .ref m15, .ref m16, .ref m17, .ref m18, .ref m19, .ref m20, .int i_horses, .ref m22, .ref m23, .ref m24, .ref m25, .ref m26, .ref m27, .ref m28, .ref m29, .ref m30, .ref m31, .ref m32, .ref m33, .ref m34, .int i_tablets, .int i_riders, .ref m37, .ref m38, .ref m39, .ref m40, .ref m41, .ref m42, .ref m43, .ref m44, .ref m45, .ref m46])), (m1, .inl (k_tape, 200, .inl f_15))]) [0, 1] rfl
  have hD9 := hD.sub (ws' := [(h0, .inr (9, [.int i_thrown, .ref m1, .int (nI (n9 + 1 + 1 + 1 + 1)), .int i_size, .int i_p, .ref m5, .ref m6, .ref m7, .int i_token, .int i_at, .int i_number, .int i_fault, .int i_faultAt, .int i_hour, .long i_word, .ref m15, .ref m16, .ref m17, .ref m18, .ref m19, .ref m20, .int i_horses, .ref m22, .ref m23, .ref m24, .ref m25, .ref m26, .ref m27, .ref m28, .ref m29, .ref m30, .ref m31, .ref m32, .ref m33, .ref m34, .int i_tablets, .int i_riders, .ref m37, .ref m38, .ref m39, .ref m40, .ref m41, .ref m42, .ref m43, .ref m44, .ref m45, .ref m46])), (m1, .inl (k_tape, 200, .inl f_15))]) [0, 1] (by decide) rfl
  have hK9 := hK.sub (tys' := []) [] rfl
  refine W.widen (k := 0) (n := 0) (Nat.le_of_ble_eq_true rfl) (Nat.le_of_ble_eq_true rfl) ?_
  exact W.vret hx hb hr (fun t9 ht hW => ⟨⟨(), rfl, trivial, f_15, (by rw [ef_15, ef_11, ef_7, ef_3, ev_14, ev_10, ev_6, ev_2, nI_clamp (by omega), nI_clamp (by omega), nI_clamp (by omega), nI_clamp (by omega)]; rfl), by rw [ht]; exact hP9, va_K.moved hW.alike hK9, hD9⟩, hS.F ht⟩) hS.2.2 dX9_four_36

set_option maxHeartbeats 4000000 in
set_option maxRecDepth 100000 in
theorem r_X9_feed (l : Launch) (dC : Nat → ClassId) (dI : Nat → Nat → Nat) (h0 : Nat) (m1 : Nat) (m5 : Nat) (m6 : Nat) (m7 : Nat) (m15 : Nat) (m16 : Nat) (m17 : Nat) (m18 : Nat) (m19 : Nat) (m20 : Nat) (m22 : Nat) (m23 : Nat) (m24 : Nat) (m25 : Nat) (m26 : Nat) (m27 : Nat) (m28 : Nat) (m29 : Nat) (m30 : Nat) (m31 : Nat) (m32 : Nat) (m33 : Nat) (m34 : Nat) (m37 : Nat) (m38 : Nat) (m39 : Nat) (m40 : Nat) (m41 : Nat) (m42 : Nat) (m43 : Nat) (m44 : Nat) (m45 : Nat) (m46 : Nat) (i_thrown : Int32) (i_size : Int32) (i_p : Int32) (i_token : Int32) (i_at : Int32) (i_number : Int32) (i_fault : Int32) (i_faultAt : Int32) (i_hour : Int32) (i_horses : Int32) (i_tablets : Int32) (i_riders : Int32) (i_word : Int64) (k_tape : ClassId) (a_tape : Nat → Int32) (l9 : Nat) (p0 : Int32) (p1 : Int32) (p2 : Int32) (p3 : Int32) (p4 : Int32) (sz : Nat) (hl9 : l9 ≤ 200) : Met l yX9_feed wsX9_feed ({ frames := 1, cells := 0, slots := 0, locals := 22 }) (va_Pc [.ref h0, .int p0, .int p1, .int p2, .int p3, .int p4] (cP dC dI [(h0, .inr (9, [.int i_thrown, .ref m1, .int (nI l9), .int i_size, .int i_p, .ref m5, .ref m6, .ref m7, .int i_token, .int i_at, .int i_number, .int i_fault, .int i_faultAt, .int i_hour, .long i_word, .ref m15, .ref m16, .ref m17, .ref m18, .ref m19, .ref m20, .int i_horses, .ref m22, .ref m23, .ref m24, .ref m25, .ref m26, .ref m27, .ref m28, .ref m29, .ref m30, .ref m31, .ref m32, .ref m33, .ref m34, .int i_tablets, .int i_riders, .ref m37, .ref m38, .ref m39, .ref m40, .ref m41, .ref m42, .ref m43, .ref m44, .ref m45, .ref m46])), (m1, .inl (k_tape, 200, .inl a_tape))] [(k_tape, .byte)] sz)) (va_Qi (fun (r rv : Int32) => r = rv) (fun (rv : Int32) t9 => ∃ (n2 : Nat) (f2 : Nat → Int32), (n2 ≤ 200 ∧ ((n2 = l9 ∧ rv = -1 ∧ 200 < l9 + 20) ∨ (n2 = l9 + 20 ∧ rv = nI (l9 + 20)))) ∧ (FDx mb a_tape f2 l9 n2 p0 p1 p2 p3 p4) ∧ cQ dC dI [(h0, .inr (9, [.int 0, .ref m1, .int (nI n2), .int i_size, .int i_p, .ref m5, .ref m6, .ref m7, .int i_token, .int i_at, .int i_number, .int i_fault, .int i_faultAt, .int i_hour, .long i_word, .ref m15, .ref m16, .ref m17, .ref m18, .ref m19, .ref m20, .int i_horses, .ref m22, .ref m23, .ref m24, .ref m25, .ref m26, .ref m27, .ref m28, .ref m29, .ref m30, .ref m31, .ref m32, .ref m33, .ref m34, .int i_tablets, .int i_riders, .ref m37, .ref m38, .ref m39, .ref m40, .ref m41, .ref m42, .ref m43, .ref m44, .ref m45, .ref m46])), (m1, .inl (k_tape, 200, .inl f2))] [] (va_A [(h0, .inr (9, [.int i_thrown, .ref m1, .int (nI l9), .int i_size, .int i_p, .ref m5, .ref m6, .ref m7, .int i_token, .int i_at, .int i_number, .int i_fault, .int i_faultAt, .int i_hour, .long i_word, .ref m15, .ref m16, .ref m17, .ref m18, .ref m19, .ref m20, .int i_horses, .ref m22, .ref m23, .ref m24, .ref m25, .ref m26, .ref m27, .ref m28, .ref m29, .ref m30, .ref m31, .ref m32, .ref m33, .ref m34, .int i_tablets, .int i_riders, .ref m37, .ref m38, .ref m39, .ref m40, .ref m41, .ref m42, .ref m43, .ref m44, .ref m45, .ref m46])), (m1, .inl (k_tape, 200, .inl a_tape))] sz) t9) (va_A [(h0, .inr (9, [.int i_thrown, .ref m1, .int (nI l9), .int i_size, .int i_p, .ref m5, .ref m6, .ref m7, .int i_token, .int i_at, .int i_number, .int i_fault, .int i_faultAt, .int i_hour, .long i_word, .ref m15, .ref m16, .ref m17, .ref m18, .ref m19, .ref m20, .int i_horses, .ref m22, .ref m23, .ref m24, .ref m25, .ref m26, .ref m27, .ref m28, .ref m29, .ref m30, .ref m31, .ref m32, .ref m33, .ref m34, .int i_tablets, .int i_riders, .ref m37, .ref m38, .ref m39, .ref m40, .ref m41, .ref m42, .ref m43, .ref m44, .ref m45, .ref m46])), (m1, .inl (k_tape, 200, .inl a_tape))] sz)) 0 0 (va_A [(h0, .inr (9, [.int i_thrown, .ref m1, .int (nI l9), .int i_size, .int i_p, .ref m5, .ref m6, .ref m7, .int i_token, .int i_at, .int i_number, .int i_fault, .int i_faultAt, .int i_hour, .long i_word, .ref m15, .ref m16, .ref m17, .ref m18, .ref m19, .ref m20, .int i_horses, .ref m22, .ref m23, .ref m24, .ref m25, .ref m26, .ref m27, .ref m28, .ref m29, .ref m30, .ref m31, .ref m32, .ref m33, .ref m34, .int i_tablets, .int i_riders, .ref m37, .ref m38, .ref m39, .ref m40, .ref m41, .ref m42, .ref m43, .ref m44, .ref m45, .ref m46])), (m1, .inl (k_tape, 200, .inl a_tape))] sz) := by
  refine Met.ofW (cc := cX9_feed) (maxL := 6) (ret := (some .int)) (by decide) rfl ?_
  intro p e s m args below meth c s₁ B hml hv
  obtain ⟨rfl, hsz, hP, hK, hD0, hN⟩ := hv
  have hx := B.exec
  have hb := B.bytes
  have hr := B.returns
  have hts := atoms_spec (ws := wsX9_feed) B.pre
  have hown : s.vm.findClass RX9 = some m.cls := findClass_of_methodNamed B.named
  have hlocks := B.notSynchronized
  subst hsz
  have hin9 : ∀ w ∈ u_ws RX9 TX9 47, w ∈ wsX9_feed := by decide +kernel
  have hD := hD0.self (sz := s.heap.size)
  generalize hAe : va_A [(h0, .inr (9, [.int i_thrown, .ref m1, .int (nI l9), .int i_size, .int i_p, .ref m5, .ref m6, .ref m7, .int i_token, .int i_at, .int i_number, .int i_fault, .int i_faultAt, .int i_hour, .long i_word, .ref m15, .ref m16, .ref m17, .ref m18, .ref m19, .ref m20, .int i_horses, .ref m22, .ref m23, .ref m24, .ref m25, .ref m26, .ref m27, .ref m28, .ref m29, .ref m30, .ref m31, .ref m32, .ref m33, .ref m34, .int i_tablets, .int i_riders, .ref m37, .ref m38, .ref m39, .ref m40, .ref m41, .ref m42, .ref m43, .ref m44, .ref m45, .ref m46])), (m1, .inl (k_tape, 200, .inl a_tape))] s.heap.size = A at hD ⊢
  have hA : ∀ q : Nat, s.heap.size ≤ q → A q := fun q h => by rw [← hAe]; exact Or.inr h
  have hS : va_S A s.heap s.heap [] := va_S.rf
  have hP : va_P (dC, dI) vwCl [(h0, .inr (9, [.int i_thrown, .ref m1, .int (nI l9), .int i_size, .int i_p, .ref m5, .ref m6, .ref m7, .int i_token, .int i_at, .int i_number, .int i_fault, .int i_faultAt, .int i_hour, .long i_word, .ref m15, .ref m16, .ref m17, .ref m18, .ref m19, .ref m20, .int i_horses, .ref m22, .ref m23, .ref m24, .ref m25, .ref m26, .ref m27, .ref m28, .ref m29, .ref m30, .ref m31, .ref m32, .ref m33, .ref m34, .int i_tablets, .int i_riders, .ref m37, .ref m38, .ref m39, .ref m40, .ref m41, .ref m42, .ref m43, .ref m44, .ref m45, .ref m46])), (m1, .inl (k_tape, 200, .inl a_tape))] s.heap := hP
  have hl := lv_entry ([.ref h0, .int p0, .int p1, .int p2, .int p3, .int p4]) (n := 6) (Nat.le_of_ble_eq_true rfl)
  rw [lg_entry_eq]
  generalize (lg_sl ([.ref h0, .int p0, .int p1, .int p2, .int p3, .int p4]) ++ List.replicate (6 - (lg_sl ([.ref h0, .int p0, .int p1, .int p2, .int p3, .int p4])).length) Slot.unset).toArray = ls at hl ⊢
  have hl : lv_has ls 6 [(0, .ref h0), (1, .int p0), (2, .int p1), (3, .int p2), (4, .int p3), (5, .int p4)] := hl
  refine lv_aload_n hx hb dX9_feed_0 rfl (lv_at hl 0 rfl) ?_
  refine lv_iconst (v := 0) hx hb dX9_feed_1 (by decide) ?_
  refine va_put (D := (dC, dI)) (ci := 9) (v := .int 0) (ty := (tyX9 0)) (C := RX9) (T := TX9) (N := 47) hx hb hts hin9 tyX9 tyX9_ok nmX9 hown hK hP hD hS 0 rfl rfl 0 (by decide) (hts (.fieldLink RX9 111 "YamRidersModel" "thrown" "I") (by decide +kernel)) (fun _ h9 => h9) rfl (by decide +kernel) rfl rfl (Nat.le_of_ble_eq_true rfl) dX9_feed_2 (fun H locs hP hD hS => ?_)
  have hP : va_P (dC, dI) vwCl [(h0, .inr (9, [.int 0, .ref m1, .int (nI l9), .int i_size, .int i_p, .ref m5, .ref m6, .ref m7, .int i_token, .int i_at, .int i_number, .int i_fault, .int i_faultAt, .int i_hour, .long i_word, .ref m15, .ref m16, .ref m17, .ref m18, .ref m19, .ref m20, .int i_horses, .ref m22, .ref m23, .ref m24, .ref m25, .ref m26, .ref m27, .ref m28, .ref m29, .ref m30, .ref m31, .ref m32, .ref m33, .ref m34, .int i_tablets, .int i_riders, .ref m37, .ref m38, .ref m39, .ref m40, .ref m41, .ref m42, .ref m43, .ref m44, .ref m45, .ref m46])), (m1, .inl (k_tape, 200, .inl a_tape))] H := hP
  have hD : va_D A [(h0, .inr (9, [.int 0, .ref m1, .int (nI l9), .int i_size, .int i_p, .ref m5, .ref m6, .ref m7, .int i_token, .int i_at, .int i_number, .int i_fault, .int i_faultAt, .int i_hour, .long i_word, .ref m15, .ref m16, .ref m17, .ref m18, .ref m19, .ref m20, .int i_horses, .ref m22, .ref m23, .ref m24, .ref m25, .ref m26, .ref m27, .ref m28, .ref m29, .ref m30, .ref m31, .ref m32, .ref m33, .ref m34, .int i_tablets, .int i_riders, .ref m37, .ref m38, .ref m39, .ref m40, .ref m41, .ref m42, .ref m43, .ref m44, .ref m45, .ref m46])), (m1, .inl (k_tape, 200, .inl a_tape))] := hD
  refine lv_aload_n hx hb dX9_feed_5 rfl (lv_at hl 0 rfl) ?_
  refine va_get (D := (dC, dI)) (ci := 9) (v := .int (nI l9)) (C := RX9) (T := TX9) (N := 47) hx hb hts hin9 hown hK hP 0 rfl rfl 2 (by decide) (hts (.fieldLink RX9 115 "YamRidersModel" "length" "I") (by decide +kernel)) (fun _ h9 => h9) rfl dX9_feed_6 ?_
  refine lv_bipush (v := 20) hx hb dX9_feed_9 (by decide) ?_
  refine lv_iadd hx hb dX9_feed_11 ?_
  refine lv_sipush (v := 200) hx hb dX9_feed_12 (by decide) ?_
  refine lv_icmp_le (tgt := 20) hx hb dX9_feed_15 (by decide) (fun c_1 => ?_) (fun c_1 => ?_)
  · have h20 : l9 + 20 ≤ 200 := f20 hl9 c_1
    refine lv_aload_n hx hb dX9_feed_20 rfl (lv_at hl 0 rfl) ?_
    refine lv_iload_n hx hb dX9_feed_21 rfl (lv_at hl 1 rfl) ?_
    have hPc := hP.sub (ws' := [(h0, .inr (9, [.int 0, .ref m1, .int (nI l9), .int i_size, .int i_p, .ref m5, .ref m6, .ref m7, .int i_token, .int i_at, .int i_number, .int i_fault, .int i_faultAt, .int i_hour, .long i_word, .ref m15, .ref m16, .ref m17, .ref m18, .ref m19, .ref m20, .int i_horses, .ref m22, .ref m23, .ref m24, .ref m25, .ref m26, .ref m27, .ref m28, .ref m29, .ref m30, .ref m31, .ref m32, .ref m33, .ref m34, .int i_tablets, .int i_riders, .ref m37, .ref m38, .ref m39, .ref m40, .ref m41, .ref m42, .ref m43, .ref m44, .ref m45, .ref m46])), (m1, .inl (k_tape, 200, .inl a_tape))]) [0, 1] rfl
    have hDc := hD.sub (ws' := [(h0, .inr (9, [.int 0, .ref m1, .int (nI l9), .int i_size, .int i_p, .ref m5, .ref m6, .ref m7, .int i_token, .int i_at, .int i_number, .int i_fault, .int i_faultAt, .int i_hour, .long i_word, .ref m15, .ref m16, .ref m17, .ref m18, .ref m19, .ref m20, .int i_horses, .ref m22, .ref m23, .ref m24, .ref m25, .ref m26, .ref m27, .ref m28, .ref m29, .ref m30, .ref m31, .ref m32, .ref m33, .ref m34, .int i_tablets, .int i_riders, .ref m37, .ref m38, .ref m39, .ref m40, .ref m41, .ref m42, .ref m43, .ref m44, .ref m45, .ref m46])), (m1, .inl (k_tape, 200, .inl a_tape))]) [0, 1] (by decide) rfl
    have hKc := hK.sub (tys' := [(k_tape, .byte)]) [0] rfl
    have hFc := va_free (wc := [(h0, .inr (9, [.int 0, .ref m1, .int (nI l9), .int i_size, .int i_p, .ref m5, .ref m6, .ref m7, .int i_token, .int i_at, .int i_number, .int i_fault, .int i_faultAt, .int i_hour, .long i_word, .ref m15, .ref m16, .ref m17, .ref m18, .ref m19, .ref m20, .int i_horses, .ref m22, .ref m23, .ref m24, .ref m25, .ref m26, .ref m27, .ref m28, .ref m29, .ref m30, .ref m31, .ref m32, .ref m33, .ref m34, .int i_tablets, .int i_riders, .ref m37, .ref m38, .ref m39, .ref m40, .ref m41, .ref m42, .ref m43, .ref m44, .ref m45, .ref m46])), (m1, .inl (k_tape, 200, .inl a_tape))]) hD hS hA [0, 1] rfl
    refine va_callv (va_runV (As := [.int p0]) (rest := []) ⟨hx, hb, hml, hown, hts⟩ (r_X9_four l dC dI h0 m1 m5 m6 m7 m15 m16 m17 m18 m19 m20 m22 m23 m24 m25 m26 m27 m28 m29 m30 m31 m32 m33 m34 m37 m38 m39 m40 m41 m42 m43 m44 m45 m46 0 i_size i_p i_token i_at i_number i_fault i_faultAt i_hour i_horses i_tablets i_riders i_word k_tape a_tape p0 l9 H.size (by omega)) (cwV 1 hts gX9_feed_X9_four rfl rfl rfl (by decide +kernel) ⟨Nat.le_of_ble_eq_true rfl, Nat.le_of_ble_eq_true rfl⟩) ⟨c_blind, va_recv hKc hPc (ci := 9) (q0 := 0) rfl rfl, c_pre hPc hKc hDc hN⟩ rfl rfl hl.1 rfl (lv_room (Nat.le_of_ble_eq_true rfl)) dX9_feed_22 ⟨Nat.le_of_ble_eq_true rfl, Nat.le_of_ble_eq_true rfl⟩) hS (fun q _ h => hFc q h) hFc (fun u9 t9 H1 locs ht hvm hw hB hz1 hk1 hS => ?_)
    obtain ⟨f_3, hf_x_4, hP1, hK1, hD1⟩ := hB
    rw [ht] at hP1
    have hK1 := va_K.moved hvm.symm hK1
    obtain ⟨hP, hD⟩ := va_join (wr := []) (w1 := [(h0, .inr (9, [.int 0, .ref m1, .int (nI (l9 + 1 + 1 + 1 + 1)), .int i_size, .int i_p, .ref m5, .ref m6, .ref m7, .int i_token, .int i_at, .int i_number, .int i_fault, .int i_faultAt, .int i_hour, .long i_word, .ref m15, .ref m16, .ref m17, .ref m18, .ref m19, .ref m20, .int i_horses, .ref m22, .ref m23, .ref m24, .ref m25, .ref m26, .ref m27, .ref m28, .ref m29, .ref m30, .ref m31, .ref m32, .ref m33, .ref m34, .int i_tablets, .int i_riders, .ref m37, .ref m38, .ref m39, .ref m40, .ref m41, .ref m42, .ref m43, .ref m44, .ref m45, .ref m46])), (m1, .inl (k_tape, 200, .inl f_3))]) hP hD [0, 1] [] rfl rfl (by decide) (by decide) hk1 hFc hP1 hD1
    have hK := (hK.sub (tys' := [(k_tape, .byte)]) [0] rfl).app hK1
    generalize H1 = H at hP hS ⊢
    have hK : va_K (dC, dI) vwCl [(k_tape, .byte)] s := hK
    have hP : va_P (dC, dI) vwCl [(h0, .inr (9, [.int 0, .ref m1, .int (nI (l9 + 1 + 1 + 1 + 1)), .int i_size, .int i_p, .ref m5, .ref m6, .ref m7, .int i_token, .int i_at, .int i_number, .int i_fault, .int i_faultAt, .int i_hour, .long i_word, .ref m15, .ref m16, .ref m17, .ref m18, .ref m19, .ref m20, .int i_horses, .ref m22, .ref m23, .ref m24, .ref m25, .ref m26, .ref m27, .ref m28, .ref m29, .ref m30, .ref m31, .ref m32, .ref m33, .ref m34, .int i_tablets, .int i_riders, .ref m37, .ref m38, .ref m39, .ref m40, .ref m41, .ref m42, .ref m43, .ref m44, .ref m45, .ref m46])), (m1, .inl (k_tape, 200, .inl f_3))] H := hP
    have hD : va_D A [(h0, .inr (9, [.int 0, .ref m1, .int (nI (l9 + 1 + 1 + 1 + 1)), .int i_size, .int i_p, .ref m5, .ref m6, .ref m7, .int i_token, .int i_at, .int i_number, .int i_fault, .int i_faultAt, .int i_hour, .long i_word, .ref m15, .ref m16, .ref m17, .ref m18, .ref m19, .ref m20, .int i_horses, .ref m22, .ref m23, .ref m24, .ref m25, .ref m26, .ref m27, .ref m28, .ref m29, .ref m30, .ref m31, .ref m32, .ref m33, .ref m34, .int i_tablets, .int i_riders, .ref m37, .ref m38, .ref m39, .ref m40, .ref m41, .ref m42, .ref m43, .ref m44, .ref m45, .ref m46])), (m1, .inl (k_tape, 200, .inl f_3))] := hD
    refine W.widen (k := 0) (n := 0) (Nat.le_of_ble_eq_true rfl) (Nat.le_of_ble_eq_true rfl) ?_
    refine lv_aload_n hx hb dX9_feed_25 rfl (lv_at hl 0 rfl) ?_
    refine lv_iload_n hx hb dX9_feed_26 rfl (lv_at hl 2 rfl) ?_
    have hPc := hP.sub (ws' := [(h0, .inr (9, [.int 0, .ref m1, .int (nI (l9 + 1 + 1 + 1 + 1)), .int i_size, .int i_p, .ref m5, .ref m6, .ref m7, .int i_token, .int i_at, .int i_number, .int i_fault, .int i_faultAt, .int i_hour, .long i_word, .ref m15, .ref m16, .ref m17, .ref m18, .ref m19, .ref m20, .int i_horses, .ref m22, .ref m23, .ref m24, .ref m25, .ref m26, .ref m27, .ref m28, .ref m29, .ref m30, .ref m31, .ref m32, .ref m33, .ref m34, .int i_tablets, .int i_riders, .ref m37, .ref m38, .ref m39, .ref m40, .ref m41, .ref m42, .ref m43, .ref m44, .ref m45, .ref m46])), (m1, .inl (k_tape, 200, .inl f_3))]) [0, 1] rfl
    have hDc := hD.sub (ws' := [(h0, .inr (9, [.int 0, .ref m1, .int (nI (l9 + 1 + 1 + 1 + 1)), .int i_size, .int i_p, .ref m5, .ref m6, .ref m7, .int i_token, .int i_at, .int i_number, .int i_fault, .int i_faultAt, .int i_hour, .long i_word, .ref m15, .ref m16, .ref m17, .ref m18, .ref m19, .ref m20, .int i_horses, .ref m22, .ref m23, .ref m24, .ref m25, .ref m26, .ref m27, .ref m28, .ref m29, .ref m30, .ref m31, .ref m32, .ref m33, .ref m34, .int i_tablets, .int i_riders, .ref m37, .ref m38, .ref m39, .ref m40, .ref m41, .ref m42, .ref m43, .ref m44, .ref m45, .ref m46])), (m1, .inl (k_tape, 200, .inl f_3))]) [0, 1] (by decide) rfl
    have hKc := hK.sub (tys' := [(k_tape, .byte)]) [0] rfl
    have hFc := va_free (wc := [(h0, .inr (9, [.int 0, .ref m1, .int (nI (l9 + 1 + 1 + 1 + 1)), .int i_size, .int i_p, .ref m5, .ref m6, .ref m7, .int i_token, .int i_at, .int i_number, .int i_fault, .int i_faultAt, .int i_hour, .long i_word, .ref m15, .ref m16, .ref m17, .ref m18, .ref m19, .ref m20, .int i_horses, .ref m22, .ref m23, .ref m24, .ref m25, .ref m26, .ref m27, .ref m28, .ref m29, .ref m30, .ref m31, .ref m32, .ref m33, .ref m34, .int i_tablets, .int i_riders, .ref m37, .ref m38, .ref m39, .ref m40, .ref m41, .ref m42, .ref m43, .ref m44, .ref m45, .ref m46])), (m1, .inl (k_tape, 200, .inl f_3))]) hD hS hA [0, 1] rfl
    refine va_callv (va_runV (As := [.int p1]) (rest := []) ⟨hx, hb, hml, hown, hts⟩ (r_X9_four l dC dI h0 m1 m5 m6 m7 m15 m16 m17 m18 m19 m20 m22 m23 m24 m25 m26 m27 m28 m29 m30 m31 m32 m33 m34 m37 m38 m39 m40 m41 m42 m43 m44 m45 m46 0 i_size i_p i_token i_at i_number i_fault i_faultAt i_hour i_horses i_tablets i_riders i_word k_tape f_3 p1 (l9 + 1 + 1 + 1 + 1) H.size (by omega)) (cwV 1 hts gX9_feed_X9_four rfl rfl rfl (by decide +kernel) ⟨Nat.le_of_ble_eq_true rfl, Nat.le_of_ble_eq_true rfl⟩) ⟨c_blind, va_recv hKc hPc (ci := 9) (q0 := 0) rfl rfl, c_pre hPc hKc hDc hN⟩ rfl rfl hl.1 rfl (lv_room (Nat.le_of_ble_eq_true rfl)) dX9_feed_27 ⟨Nat.le_of_ble_eq_true rfl, Nat.le_of_ble_eq_true rfl⟩) hS (fun q _ h => hFc q h) hFc (fun u9 t9 H1 locs ht hvm hw hB hz1 hk1 hS => ?_)
    obtain ⟨f_6, hf_x_7, hP1, hK1, hD1⟩ := hB
    rw [ht] at hP1
    have hK1 := va_K.moved hvm.symm hK1
    obtain ⟨hP, hD⟩ := va_join (wr := []) (w1 := [(h0, .inr (9, [.int 0, .ref m1, .int (nI ((l9 + 1 + 1 + 1 + 1) + 1 + 1 + 1 + 1)), .int i_size, .int i_p, .ref m5, .ref m6, .ref m7, .int i_token, .int i_at, .int i_number, .int i_fault, .int i_faultAt, .int i_hour, .long i_word, .ref m15, .ref m16, .ref m17, .ref m18, .ref m19, .ref m20, .int i_horses, .ref m22, .ref m23, .ref m24, .ref m25, .ref m26, .ref m27, .ref m28, .ref m29, .ref m30, .ref m31, .ref m32, .ref m33, .ref m34, .int i_tablets, .int i_riders, .ref m37, .ref m38, .ref m39, .ref m40, .ref m41, .ref m42, .ref m43, .ref m44, .ref m45, .ref m46])), (m1, .inl (k_tape, 200, .inl f_6))]) hP hD [0, 1] [] rfl rfl (by decide) (by decide) hk1 hFc hP1 hD1
    have hK := (hK.sub (tys' := [(k_tape, .byte)]) [0] rfl).app hK1
    generalize H1 = H at hP hS ⊢
    have hK : va_K (dC, dI) vwCl [(k_tape, .byte)] s := hK
    have hP : va_P (dC, dI) vwCl [(h0, .inr (9, [.int 0, .ref m1, .int (nI ((l9 + 1 + 1 + 1 + 1) + 1 + 1 + 1 + 1)), .int i_size, .int i_p, .ref m5, .ref m6, .ref m7, .int i_token, .int i_at, .int i_number, .int i_fault, .int i_faultAt, .int i_hour, .long i_word, .ref m15, .ref m16, .ref m17, .ref m18, .ref m19, .ref m20, .int i_horses, .ref m22, .ref m23, .ref m24, .ref m25, .ref m26, .ref m27, .ref m28, .ref m29, .ref m30, .ref m31, .ref m32, .ref m33, .ref m34, .int i_tablets, .int i_riders, .ref m37, .ref m38, .ref m39, .ref m40, .ref m41, .ref m42, .ref m43, .ref m44, .ref m45, .ref m46])), (m1, .inl (k_tape, 200, .inl f_6))] H := hP
    have hD : va_D A [(h0, .inr (9, [.int 0, .ref m1, .int (nI ((l9 + 1 + 1 + 1 + 1) + 1 + 1 + 1 + 1)), .int i_size, .int i_p, .ref m5, .ref m6, .ref m7, .int i_token, .int i_at, .int i_number, .int i_fault, .int i_faultAt, .int i_hour, .long i_word, .ref m15, .ref m16, .ref m17, .ref m18, .ref m19, .ref m20, .int i_horses, .ref m22, .ref m23, .ref m24, .ref m25, .ref m26, .ref m27, .ref m28, .ref m29, .ref m30, .ref m31, .ref m32, .ref m33, .ref m34, .int i_tablets, .int i_riders, .ref m37, .ref m38, .ref m39, .ref m40, .ref m41, .ref m42, .ref m43, .ref m44, .ref m45, .ref m46])), (m1, .inl (k_tape, 200, .inl f_6))] := hD
    refine W.widen (k := 0) (n := 0) (Nat.le_of_ble_eq_true rfl) (Nat.le_of_ble_eq_true rfl) ?_
    refine lv_aload_n hx hb dX9_feed_30 rfl (lv_at hl 0 rfl) ?_
    refine lv_iload_n hx hb dX9_feed_31 rfl (lv_at hl 3 rfl) ?_
    have hPc := hP.sub (ws' := [(h0, .inr (9, [.int 0, .ref m1, .int (nI ((l9 + 1 + 1 + 1 + 1) + 1 + 1 + 1 + 1)), .int i_size, .int i_p, .ref m5, .ref m6, .ref m7, .int i_token, .int i_at, .int i_number, .int i_fault, .int i_faultAt, .int i_hour, .long i_word, .ref m15, .ref m16, .ref m17, .ref m18, .ref m19, .ref m20, .int i_horses, .ref m22, .ref m23, .ref m24, .ref m25, .ref m26, .ref m27, .ref m28, .ref m29, .ref m30, .ref m31, .ref m32, .ref m33, .ref m34, .int i_tablets, .int i_riders, .ref m37, .ref m38, .ref m39, .ref m40, .ref m41, .ref m42, .ref m43, .ref m44, .ref m45, .ref m46])), (m1, .inl (k_tape, 200, .inl f_6))]) [0, 1] rfl
    have hDc := hD.sub (ws' := [(h0, .inr (9, [.int 0, .ref m1, .int (nI ((l9 + 1 + 1 + 1 + 1) + 1 + 1 + 1 + 1)), .int i_size, .int i_p, .ref m5, .ref m6, .ref m7, .int i_token, .int i_at, .int i_number, .int i_fault, .int i_faultAt, .int i_hour, .long i_word, .ref m15, .ref m16, .ref m17, .ref m18, .ref m19, .ref m20, .int i_horses, .ref m22, .ref m23, .ref m24, .ref m25, .ref m26, .ref m27, .ref m28, .ref m29, .ref m30, .ref m31, .ref m32, .ref m33, .ref m34, .int i_tablets, .int i_riders, .ref m37, .ref m38, .ref m39, .ref m40, .ref m41, .ref m42, .ref m43, .ref m44, .ref m45, .ref m46])), (m1, .inl (k_tape, 200, .inl f_6))]) [0, 1] (by decide) rfl
    have hKc := hK.sub (tys' := [(k_tape, .byte)]) [0] rfl
    have hFc := va_free (wc := [(h0, .inr (9, [.int 0, .ref m1, .int (nI ((l9 + 1 + 1 + 1 + 1) + 1 + 1 + 1 + 1)), .int i_size, .int i_p, .ref m5, .ref m6, .ref m7, .int i_token, .int i_at, .int i_number, .int i_fault, .int i_faultAt, .int i_hour, .long i_word, .ref m15, .ref m16, .ref m17, .ref m18, .ref m19, .ref m20, .int i_horses, .ref m22, .ref m23, .ref m24, .ref m25, .ref m26, .ref m27, .ref m28, .ref m29, .ref m30, .ref m31, .ref m32, .ref m33, .ref m34, .int i_tablets, .int i_riders, .ref m37, .ref m38, .ref m39, .ref m40, .ref m41, .ref m42, .ref m43, .ref m44, .ref m45, .ref m46])), (m1, .inl (k_tape, 200, .inl f_6))]) hD hS hA [0, 1] rfl
    refine va_callv (va_runV (As := [.int p2]) (rest := []) ⟨hx, hb, hml, hown, hts⟩ (r_X9_four l dC dI h0 m1 m5 m6 m7 m15 m16 m17 m18 m19 m20 m22 m23 m24 m25 m26 m27 m28 m29 m30 m31 m32 m33 m34 m37 m38 m39 m40 m41 m42 m43 m44 m45 m46 0 i_size i_p i_token i_at i_number i_fault i_faultAt i_hour i_horses i_tablets i_riders i_word k_tape f_6 p2 ((l9 + 1 + 1 + 1 + 1) + 1 + 1 + 1 + 1) H.size (by omega)) (cwV 1 hts gX9_feed_X9_four rfl rfl rfl (by decide +kernel) ⟨Nat.le_of_ble_eq_true rfl, Nat.le_of_ble_eq_true rfl⟩) ⟨c_blind, va_recv hKc hPc (ci := 9) (q0 := 0) rfl rfl, c_pre hPc hKc hDc hN⟩ rfl rfl hl.1 rfl (lv_room (Nat.le_of_ble_eq_true rfl)) dX9_feed_32 ⟨Nat.le_of_ble_eq_true rfl, Nat.le_of_ble_eq_true rfl⟩) hS (fun q _ h => hFc q h) hFc (fun u9 t9 H1 locs ht hvm hw hB hz1 hk1 hS => ?_)
    obtain ⟨f_9, hf_x_10, hP1, hK1, hD1⟩ := hB
    rw [ht] at hP1
    have hK1 := va_K.moved hvm.symm hK1
    obtain ⟨hP, hD⟩ := va_join (wr := []) (w1 := [(h0, .inr (9, [.int 0, .ref m1, .int (nI (((l9 + 1 + 1 + 1 + 1) + 1 + 1 + 1 + 1) + 1 + 1 + 1 + 1)), .int i_size, .int i_p, .ref m5, .ref m6, .ref m7, .int i_token, .int i_at, .int i_number, .int i_fault, .int i_faultAt, .int i_hour, .long i_word, .ref m15, .ref m16, .ref m17, .ref m18, .ref m19, .ref m20, .int i_horses, .ref m22, .ref m23, .ref m24, .ref m25, .ref m26, .ref m27, .ref m28, .ref m29, .ref m30, .ref m31, .ref m32, .ref m33, .ref m34, .int i_tablets, .int i_riders, .ref m37, .ref m38, .ref m39, .ref m40, .ref m41, .ref m42, .ref m43, .ref m44, .ref m45, .ref m46])), (m1, .inl (k_tape, 200, .inl f_9))]) hP hD [0, 1] [] rfl rfl (by decide) (by decide) hk1 hFc hP1 hD1
    have hK := (hK.sub (tys' := [(k_tape, .byte)]) [0] rfl).app hK1
    generalize H1 = H at hP hS ⊢
    have hK : va_K (dC, dI) vwCl [(k_tape, .byte)] s := hK
    have hP : va_P (dC, dI) vwCl [(h0, .inr (9, [.int 0, .ref m1, .int (nI (((l9 + 1 + 1 + 1 + 1) + 1 + 1 + 1 + 1) + 1 + 1 + 1 + 1)), .int i_size, .int i_p, .ref m5, .ref m6, .ref m7, .int i_token, .int i_at, .int i_number, .int i_fault, .int i_faultAt, .int i_hour, .long i_word, .ref m15, .ref m16, .ref m17, .ref m18, .ref m19, .ref m20, .int i_horses, .ref m22, .ref m23, .ref m24, .ref m25, .ref m26, .ref m27, .ref m28, .ref m29, .ref m30, .ref m31, .ref m32, .ref m33, .ref m34, .int i_tablets, .int i_riders, .ref m37, .ref m38, .ref m39, .ref m40, .ref m41, .ref m42, .ref m43, .ref m44, .ref m45, .ref m46])), (m1, .inl (k_tape, 200, .inl f_9))] H := hP
    have hD : va_D A [(h0, .inr (9, [.int 0, .ref m1, .int (nI (((l9 + 1 + 1 + 1 + 1) + 1 + 1 + 1 + 1) + 1 + 1 + 1 + 1)), .int i_size, .int i_p, .ref m5, .ref m6, .ref m7, .int i_token, .int i_at, .int i_number, .int i_fault, .int i_faultAt, .int i_hour, .long i_word, .ref m15, .ref m16, .ref m17, .ref m18, .ref m19, .ref m20, .int i_horses, .ref m22, .ref m23, .ref m24, .ref m25, .ref m26, .ref m27, .ref m28, .ref m29, .ref m30, .ref m31, .ref m32, .ref m33, .ref m34, .int i_tablets, .int i_riders, .ref m37, .ref m38, .ref m39, .ref m40, .ref m41, .ref m42, .ref m43, .ref m44, .ref m45, .ref m46])), (m1, .inl (k_tape, 200, .inl f_9))] := hD
    refine W.widen (k := 0) (n := 0) (Nat.le_of_ble_eq_true rfl) (Nat.le_of_ble_eq_true rfl) ?_
    refine lv_aload_n hx hb dX9_feed_35 rfl (lv_at hl 0 rfl) ?_
    refine lv_iload hx hb dX9_feed_36 (lv_at hl 4 rfl) ?_
    have hPc := hP.sub (ws' := [(h0, .inr (9, [.int 0, .ref m1, .int (nI (((l9 + 1 + 1 + 1 + 1) + 1 + 1 + 1 + 1) + 1 + 1 + 1 + 1)), .int i_size, .int i_p, .ref m5, .ref m6, .ref m7, .int i_token, .int i_at, .int i_number, .int i_fault, .int i_faultAt, .int i_hour, .long i_word, .ref m15, .ref m16, .ref m17, .ref m18, .ref m19, .ref m20, .int i_horses, .ref m22, .ref m23, .ref m24, .ref m25, .ref m26, .ref m27, .ref m28, .ref m29, .ref m30, .ref m31, .ref m32, .ref m33, .ref m34, .int i_tablets, .int i_riders, .ref m37, .ref m38, .ref m39, .ref m40, .ref m41, .ref m42, .ref m43, .ref m44, .ref m45, .ref m46])), (m1, .inl (k_tape, 200, .inl f_9))]) [0, 1] rfl
    have hDc := hD.sub (ws' := [(h0, .inr (9, [.int 0, .ref m1, .int (nI (((l9 + 1 + 1 + 1 + 1) + 1 + 1 + 1 + 1) + 1 + 1 + 1 + 1)), .int i_size, .int i_p, .ref m5, .ref m6, .ref m7, .int i_token, .int i_at, .int i_number, .int i_fault, .int i_faultAt, .int i_hour, .long i_word, .ref m15, .ref m16, .ref m17, .ref m18, .ref m19, .ref m20, .int i_horses, .ref m22, .ref m23, .ref m24, .ref m25, .ref m26, .ref m27, .ref m28, .ref m29, .ref m30, .ref m31, .ref m32, .ref m33, .ref m34, .int i_tablets, .int i_riders, .ref m37, .ref m38, .ref m39, .ref m40, .ref m41, .ref m42, .ref m43, .ref m44, .ref m45, .ref m46])), (m1, .inl (k_tape, 200, .inl f_9))]) [0, 1] (by decide) rfl
    have hKc := hK.sub (tys' := [(k_tape, .byte)]) [0] rfl
    have hFc := va_free (wc := [(h0, .inr (9, [.int 0, .ref m1, .int (nI (((l9 + 1 + 1 + 1 + 1) + 1 + 1 + 1 + 1) + 1 + 1 + 1 + 1)), .int i_size, .int i_p, .ref m5, .ref m6, .ref m7, .int i_token, .int i_at, .int i_number, .int i_fault, .int i_faultAt, .int i_hour, .long i_word, .ref m15, .ref m16, .ref m17, .ref m18, .ref m19, .ref m20, .int i_horses, .ref m22, .ref m23, .ref m24, .ref m25, .ref m26, .ref m27, .ref m28, .ref m29, .ref m30, .ref m31, .ref m32, .ref m33, .ref m34, .int i_tablets, .int i_riders, .ref m37, .ref m38, .ref m39, .ref m40, .ref m41, .ref m42, .ref m43, .ref m44, .ref m45, .ref m46])), (m1, .inl (k_tape, 200, .inl f_9))]) hD hS hA [0, 1] rfl
    refine va_callv (va_runV (As := [.int p3]) (rest := []) ⟨hx, hb, hml, hown, hts⟩ (r_X9_four l dC dI h0 m1 m5 m6 m7 m15 m16 m17 m18 m19 m20 m22 m23 m24 m25 m26 m27 m28 m29 m30 m31 m32 m33 m34 m37 m38 m39 m40 m41 m42 m43 m44 m45 m46 0 i_size i_p i_token i_at i_number i_fault i_faultAt i_hour i_horses i_tablets i_riders i_word k_tape f_9 p3 (((l9 + 1 + 1 + 1 + 1) + 1 + 1 + 1 + 1) + 1 + 1 + 1 + 1) H.size (by omega)) (cwV 1 hts gX9_feed_X9_four rfl rfl rfl (by decide +kernel) ⟨Nat.le_of_ble_eq_true rfl, Nat.le_of_ble_eq_true rfl⟩) ⟨c_blind, va_recv hKc hPc (ci := 9) (q0 := 0) rfl rfl, c_pre hPc hKc hDc hN⟩ rfl rfl hl.1 rfl (lv_room (Nat.le_of_ble_eq_true rfl)) dX9_feed_38 ⟨Nat.le_of_ble_eq_true rfl, Nat.le_of_ble_eq_true rfl⟩) hS (fun q _ h => hFc q h) hFc (fun u9 t9 H1 locs ht hvm hw hB hz1 hk1 hS => ?_)
    obtain ⟨f_12, hf_x_13, hP1, hK1, hD1⟩ := hB
    rw [ht] at hP1
    have hK1 := va_K.moved hvm.symm hK1
    obtain ⟨hP, hD⟩ := va_join (wr := []) (w1 := [(h0, .inr (9, [.int 0, .ref m1, .int (nI ((((l9 + 1 + 1 + 1 + 1) + 1 + 1 + 1 + 1) + 1 + 1 + 1 + 1) + 1 + 1 + 1 + 1)), .int i_size, .int i_p, .ref m5, .ref m6, .ref m7, .int i_token, .int i_at, .int i_number, .int i_fault, .int i_faultAt, .int i_hour, .long i_word, .ref m15, .ref m16, .ref m17, .ref m18, .ref m19, .ref m20, .int i_horses, .ref m22, .ref m23, .ref m24, .ref m25, .ref m26, .ref m27, .ref m28, .ref m29, .ref m30, .ref m31, .ref m32, .ref m33, .ref m34, .int i_tablets, .int i_riders, .ref m37, .ref m38, .ref m39, .ref m40, .ref m41, .ref m42, .ref m43, .ref m44, .ref m45, .ref m46])), (m1, .inl (k_tape, 200, .inl f_12))]) hP hD [0, 1] [] rfl rfl (by decide) (by decide) hk1 hFc hP1 hD1
    have hK := (hK.sub (tys' := [(k_tape, .byte)]) [0] rfl).app hK1
    generalize H1 = H at hP hS ⊢
    have hK : va_K (dC, dI) vwCl [(k_tape, .byte)] s := hK
    have hP : va_P (dC, dI) vwCl [(h0, .inr (9, [.int 0, .ref m1, .int (nI ((((l9 + 1 + 1 + 1 + 1) + 1 + 1 + 1 + 1) + 1 + 1 + 1 + 1) + 1 + 1 + 1 + 1)), .int i_size, .int i_p, .ref m5, .ref m6, .ref m7, .int i_token, .int i_at, .int i_number, .int i_fault, .int i_faultAt, .int i_hour, .long i_word, .ref m15, .ref m16, .ref m17, .ref m18, .ref m19, .ref m20, .int i_horses, .ref m22, .ref m23, .ref m24, .ref m25, .ref m26, .ref m27, .ref m28, .ref m29, .ref m30, .ref m31, .ref m32, .ref m33, .ref m34, .int i_tablets, .int i_riders, .ref m37, .ref m38, .ref m39, .ref m40, .ref m41, .ref m42, .ref m43, .ref m44, .ref m45, .ref m46])), (m1, .inl (k_tape, 200, .inl f_12))] H := hP
    have hD : va_D A [(h0, .inr (9, [.int 0, .ref m1, .int (nI ((((l9 + 1 + 1 + 1 + 1) + 1 + 1 + 1 + 1) + 1 + 1 + 1 + 1) + 1 + 1 + 1 + 1)), .int i_size, .int i_p, .ref m5, .ref m6, .ref m7, .int i_token, .int i_at, .int i_number, .int i_fault, .int i_faultAt, .int i_hour, .long i_word, .ref m15, .ref m16, .ref m17, .ref m18, .ref m19, .ref m20, .int i_horses, .ref m22, .ref m23, .ref m24, .ref m25, .ref m26, .ref m27, .ref m28, .ref m29, .ref m30, .ref m31, .ref m32, .ref m33, .ref m34, .int i_tablets, .int i_riders, .ref m37, .ref m38, .ref m39, .ref m40, .ref m41, .ref m42, .ref m43, .ref m44, .ref m45, .ref m46])), (m1, .inl (k_tape, 200, .inl f_12))] := hD
    refine W.widen (k := 0) (n := 0) (Nat.le_of_ble_eq_true rfl) (Nat.le_of_ble_eq_true rfl) ?_
    refine lv_aload_n hx hb dX9_feed_41 rfl (lv_at hl 0 rfl) ?_
    refine lv_iload hx hb dX9_feed_42 (lv_at hl 5 rfl) ?_
    have hPc := hP.sub (ws' := [(h0, .inr (9, [.int 0, .ref m1, .int (nI ((((l9 + 1 + 1 + 1 + 1) + 1 + 1 + 1 + 1) + 1 + 1 + 1 + 1) + 1 + 1 + 1 + 1)), .int i_size, .int i_p, .ref m5, .ref m6, .ref m7, .int i_token, .int i_at, .int i_number, .int i_fault, .int i_faultAt, .int i_hour, .long i_word, .ref m15, .ref m16, .ref m17, .ref m18, .ref m19, .ref m20, .int i_horses, .ref m22, .ref m23, .ref m24, .ref m25, .ref m26, .ref m27, .ref m28, .ref m29, .ref m30, .ref m31, .ref m32, .ref m33, .ref m34, .int i_tablets, .int i_riders, .ref m37, .ref m38, .ref m39, .ref m40, .ref m41, .ref m42, .ref m43, .ref m44, .ref m45, .ref m46])), (m1, .inl (k_tape, 200, .inl f_12))]) [0, 1] rfl
    have hDc := hD.sub (ws' := [(h0, .inr (9, [.int 0, .ref m1, .int (nI ((((l9 + 1 + 1 + 1 + 1) + 1 + 1 + 1 + 1) + 1 + 1 + 1 + 1) + 1 + 1 + 1 + 1)), .int i_size, .int i_p, .ref m5, .ref m6, .ref m7, .int i_token, .int i_at, .int i_number, .int i_fault, .int i_faultAt, .int i_hour, .long i_word, .ref m15, .ref m16, .ref m17, .ref m18, .ref m19, .ref m20, .int i_horses, .ref m22, .ref m23, .ref m24, .ref m25, .ref m26, .ref m27, .ref m28, .ref m29, .ref m30, .ref m31, .ref m32, .ref m33, .ref m34, .int i_tablets, .int i_riders, .ref m37, .ref m38, .ref m39, .ref m40, .ref m41, .ref m42, .ref m43, .ref m44, .ref m45, .ref m46])), (m1, .inl (k_tape, 200, .inl f_12))]) [0, 1] (by decide) rfl
    have hKc := hK.sub (tys' := [(k_tape, .byte)]) [0] rfl
    have hFc := va_free (wc := [(h0, .inr (9, [.int 0, .ref m1, .int (nI ((((l9 + 1 + 1 + 1 + 1) + 1 + 1 + 1 + 1) + 1 + 1 + 1 + 1) + 1 + 1 + 1 + 1)), .int i_size, .int i_p, .ref m5, .ref m6, .ref m7, .int i_token, .int i_at, .int i_number, .int i_fault, .int i_faultAt, .int i_hour, .long i_word, .ref m15, .ref m16, .ref m17, .ref m18, .ref m19, .ref m20, .int i_horses, .ref m22, .ref m23, .ref m24, .ref m25, .ref m26, .ref m27, .ref m28, .ref m29, .ref m30, .ref m31, .ref m32, .ref m33, .ref m34, .int i_tablets, .int i_riders, .ref m37, .ref m38, .ref m39, .ref m40, .ref m41, .ref m42, .ref m43, .ref m44, .ref m45, .ref m46])), (m1, .inl (k_tape, 200, .inl f_12))]) hD hS hA [0, 1] rfl
    refine va_callv (va_runV (As := [.int p4]) (rest := []) ⟨hx, hb, hml, hown, hts⟩ (r_X9_four l dC dI h0 m1 m5 m6 m7 m15 m16 m17 m18 m19 m20 m22 m23 m24 m25 m26 m27 m28 m29 m30 m31 m32 m33 m34 m37 m38 m39 m40 m41 m42 m43 m44 m45 m46 0 i_size i_p i_token i_at i_number i_fault i_faultAt i_hour i_horses i_tablets i_riders i_word k_tape f_12 p4 ((((l9 + 1 + 1 + 1 + 1) + 1 + 1 + 1 + 1) + 1 + 1 + 1 + 1) + 1 + 1 + 1 + 1) H.size (by omega)) (cwV 1 hts gX9_feed_X9_four rfl rfl rfl (by decide +kernel) ⟨Nat.le_of_ble_eq_true rfl, Nat.le_of_ble_eq_true rfl⟩) ⟨c_blind, va_recv hKc hPc (ci := 9) (q0 := 0) rfl rfl, c_pre hPc hKc hDc hN⟩ rfl rfl hl.1 rfl (lv_room (Nat.le_of_ble_eq_true rfl)) dX9_feed_44 ⟨Nat.le_of_ble_eq_true rfl, Nat.le_of_ble_eq_true rfl⟩) hS (fun q _ h => hFc q h) hFc (fun u9 t9 H1 locs ht hvm hw hB hz1 hk1 hS => ?_)
    obtain ⟨f_15, hf_x_16, hP1, hK1, hD1⟩ := hB
    rw [ht] at hP1
    have hK1 := va_K.moved hvm.symm hK1
    obtain ⟨hP, hD⟩ := va_join (wr := []) (w1 := [(h0, .inr (9, [.int 0, .ref m1, .int (nI (((((l9 + 1 + 1 + 1 + 1) + 1 + 1 + 1 + 1) + 1 + 1 + 1 + 1) + 1 + 1 + 1 + 1) + 1 + 1 + 1 + 1)), .int i_size, .int i_p, .ref m5, .ref m6, .ref m7, .int i_token, .int i_at, .int i_number, .int i_fault, .int i_faultAt, .int i_hour, .long i_word, .ref m15, .ref m16, .ref m17, .ref m18, .ref m19, .ref m20, .int i_horses, .ref m22, .ref m23, .ref m24, .ref m25, .ref m26, .ref m27, .ref m28, .ref m29, .ref m30, .ref m31, .ref m32, .ref m33, .ref m34, .int i_tablets, .int i_riders, .ref m37, .ref m38, .ref m39, .ref m40, .ref m41, .ref m42, .ref m43, .ref m44, .ref m45, .ref m46])), (m1, .inl (k_tape, 200, .inl f_15))]) hP hD [0, 1] [] rfl rfl (by decide) (by decide) hk1 hFc hP1 hD1
    have hK := (hK.sub (tys' := [(k_tape, .byte)]) [0] rfl).app hK1
    generalize H1 = H at hP hS ⊢
    have hK : va_K (dC, dI) vwCl [(k_tape, .byte)] s := hK
    have hP : va_P (dC, dI) vwCl [(h0, .inr (9, [.int 0, .ref m1, .int (nI (((((l9 + 1 + 1 + 1 + 1) + 1 + 1 + 1 + 1) + 1 + 1 + 1 + 1) + 1 + 1 + 1 + 1) + 1 + 1 + 1 + 1)), .int i_size, .int i_p, .ref m5, .ref m6, .ref m7, .int i_token, .int i_at, .int i_number, .int i_fault, .int i_faultAt, .int i_hour, .long i_word, .ref m15, .ref m16, .ref m17, .ref m18, .ref m19, .ref m20, .int i_horses, .ref m22, .ref m23, .ref m24, .ref m25, .ref m26, .ref m27, .ref m28, .ref m29, .ref m30, .ref m31, .ref m32, .ref m33, .ref m34, .int i_tablets, .int i_riders, .ref m37, .ref m38, .ref m39, .ref m40, .ref m41, .ref m42, .ref m43, .ref m44, .ref m45, .ref m46])), (m1, .inl (k_tape, 200, .inl f_15))] H := hP
    have hD : va_D A [(h0, .inr (9, [.int 0, .ref m1, .int (nI (((((l9 + 1 + 1 + 1 + 1) + 1 + 1 + 1 + 1) + 1 + 1 + 1 + 1) + 1 + 1 + 1 + 1) + 1 + 1 + 1 + 1)), .int i_size, .int i_p, .ref m5, .ref m6, .ref m7, .int i_token, .int i_at, .int i_number, .int i_fault, .int i_faultAt, .int i_hour, .long i_word, .ref m15, .ref m16, .ref m17, .ref m18, .ref m19, .ref m20, .int i_horses, .ref m22, .ref m23, .ref m24, .ref m25, .ref m26, .ref m27, .ref m28, .ref m29, .ref m30, .ref m31, .ref m32, .ref m33, .ref m34, .int i_tablets, .int i_riders, .ref m37, .ref m38, .ref m39, .ref m40, .ref m41, .ref m42, .ref m43, .ref m44, .ref m45, .ref m46])), (m1, .inl (k_tape, 200, .inl f_15))] := hD
    refine W.widen (k := 0) (n := 0) (Nat.le_of_ble_eq_true rfl) (Nat.le_of_ble_eq_true rfl) ?_
    refine lv_aload_n hx hb dX9_feed_47 rfl (lv_at hl 0 rfl) ?_
    refine va_get (D := (dC, dI)) (ci := 9) (v := .int (nI (((((l9 + 1 + 1 + 1 + 1) + 1 + 1 + 1 + 1) + 1 + 1 + 1 + 1) + 1 + 1 + 1 + 1) + 1 + 1 + 1 + 1))) (C := RX9) (T := TX9) (N := 47) hx hb hts hin9 hown hK hP 0 rfl rfl 2 (by decide) (hts (.fieldLink RX9 115 "YamRidersModel" "length" "I") (by decide +kernel)) (fun _ h9 => h9) rfl dX9_feed_48 ?_
    have hP9 := hP.sub (ws' := [(h0, .inr (9, [.int 0, .ref m1, .int (nI (((((l9 + 1 + 1 + 1 + 1) + 1 + 1 + 1 + 1) + 1 + 1 + 1 + 1) + 1 + 1 + 1 + 1) + 1 + 1 + 1 + 1)), .int i_size, .int i_p, .ref m5, .ref m6, .ref m7, .int i_token, .int i_at, .int i_number, .int i_fault, .int i_faultAt, .int i_hour, .long i_word, .ref m15, .ref m16, .ref m17, .ref m18, .ref m19, .ref m20, .int i_horses, .ref m22, .ref m23, .ref m24, .ref m25, .ref m26, .ref m27, .ref m28, .ref m29, .ref m30, .ref m31, .ref m32, .ref m33, .ref m34, .int i_tablets, .int i_riders, .ref m37, .ref m38, .ref m39, .ref m40, .ref m41, .ref m42, .ref m43, .ref m44, .ref m45, .ref m46])), (m1, .inl (k_tape, 200, .inl f_15))]) [0, 1] rfl
    have hD9 := hD.sub (ws' := [(h0, .inr (9, [.int 0, .ref m1, .int (nI (((((l9 + 1 + 1 + 1 + 1) + 1 + 1 + 1 + 1) + 1 + 1 + 1 + 1) + 1 + 1 + 1 + 1) + 1 + 1 + 1 + 1)), .int i_size, .int i_p, .ref m5, .ref m6, .ref m7, .int i_token, .int i_at, .int i_number, .int i_fault, .int i_faultAt, .int i_hour, .long i_word, .ref m15, .ref m16, .ref m17, .ref m18, .ref m19, .ref m20, .int i_horses, .ref m22, .ref m23, .ref m24, .ref m25, .ref m26, .ref m27, .ref m28, .ref m29, .ref m30, .ref m31, .ref m32, .ref m33, .ref m34, .int i_tablets, .int i_riders, .ref m37, .ref m38, .ref m39, .ref m40, .ref m41, .ref m42, .ref m43, .ref m44, .ref m45, .ref m46])), (m1, .inl (k_tape, 200, .inl f_15))]) [0, 1] (by decide) rfl
    have hK9 := hK.sub (tys' := []) [] rfl
    refine W.widen (k := 0) (n := 0) (Nat.le_of_ble_eq_true rfl) (Nat.le_of_ble_eq_true rfl) ?_
    exact W.iret (v := nI (((((l9 + 1 + 1 + 1 + 1) + 1 + 1 + 1 + 1) + 1 + 1 + 1 + 1) + 1 + 1 + 1 + 1) + 1 + 1 + 1 + 1)) hx hb hr (fun t9 ht hW => ⟨⟨_, nI (((((l9 + 1 + 1 + 1 + 1) + 1 + 1 + 1 + 1) + 1 + 1 + 1 + 1) + 1 + 1 + 1 + 1) + 1 + 1 + 1 + 1), rfl, rfl, (((((l9 + 1 + 1 + 1 + 1) + 1 + 1 + 1 + 1) + 1 + 1 + 1 + 1) + 1 + 1 + 1 + 1) + 1 + 1 + 1 + 1), f_15, ⟨by omega, Or.inr ⟨by omega, rfl⟩⟩, (Or.inr ⟨by omega, by rw [hf_x_16, hf_x_13, hf_x_10, hf_x_7, hf_x_4]; rfl⟩), by rw [ht]; exact hP9, va_K.moved hW.alike hK9, hD9⟩, hS.F ht⟩) hS.2.2 dX9_feed_51
  · refine lv_iconst (v := (-1)) hx hb dX9_feed_18 (by decide) ?_
    have hP9 := hP.sub (ws' := [(h0, .inr (9, [.int 0, .ref m1, .int (nI l9), .int i_size, .int i_p, .ref m5, .ref m6, .ref m7, .int i_token, .int i_at, .int i_number, .int i_fault, .int i_faultAt, .int i_hour, .long i_word, .ref m15, .ref m16, .ref m17, .ref m18, .ref m19, .ref m20, .int i_horses, .ref m22, .ref m23, .ref m24, .ref m25, .ref m26, .ref m27, .ref m28, .ref m29, .ref m30, .ref m31, .ref m32, .ref m33, .ref m34, .int i_tablets, .int i_riders, .ref m37, .ref m38, .ref m39, .ref m40, .ref m41, .ref m42, .ref m43, .ref m44, .ref m45, .ref m46])), (m1, .inl (k_tape, 200, .inl a_tape))]) [0, 1] rfl
    have hD9 := hD.sub (ws' := [(h0, .inr (9, [.int 0, .ref m1, .int (nI l9), .int i_size, .int i_p, .ref m5, .ref m6, .ref m7, .int i_token, .int i_at, .int i_number, .int i_fault, .int i_faultAt, .int i_hour, .long i_word, .ref m15, .ref m16, .ref m17, .ref m18, .ref m19, .ref m20, .int i_horses, .ref m22, .ref m23, .ref m24, .ref m25, .ref m26, .ref m27, .ref m28, .ref m29, .ref m30, .ref m31, .ref m32, .ref m33, .ref m34, .int i_tablets, .int i_riders, .ref m37, .ref m38, .ref m39, .ref m40, .ref m41, .ref m42, .ref m43, .ref m44, .ref m45, .ref m46])), (m1, .inl (k_tape, 200, .inl a_tape))]) [0, 1] (by decide) rfl
    have hK9 := hK.sub (tys' := []) [] rfl
    refine W.widen (k := 0) (n := 0) (Nat.le_of_ble_eq_true rfl) (Nat.le_of_ble_eq_true rfl) ?_
    exact W.iret (v := (-1)) hx hb hr (fun t9 ht hW => ⟨⟨_, (-1), rfl, rfl, l9, a_tape, ⟨by omega, Or.inl ⟨rfl, rfl, Nat.lt_of_not_le (fun q => c_1 (f20r q))⟩⟩, (Or.inl ⟨rfl, rfl⟩), by rw [ht]; exact hP9, va_K.moved hW.alike hK9, hD9⟩, hS.F ht⟩) hS.2.2 dX9_feed_19

set_option maxHeartbeats 4000000 in
set_option maxRecDepth 100000 in
theorem s_X7_addNumber (l : Launch) (dC : Nat → ClassId) (dI : Nat → Nat → Nat) (h0 : Nat) (b1 : Nat) (k1 : ClassId) (a_b : Nat → Int32) (p0 : Int32) (n9 : Nat) (sz : Nat) (hn9 : n9 + 4 ≤ 200) : Met l yX7_addNumber wsX7_addNumber ({ frames := 0, cells := 0, slots := 0, locals := 0 }) (va_Pc [.ref h0, .int p0] (cP dC dI [(h0, .inr (7, [.ref b1, .int (nI n9)])), (b1, .inl (k1, 200, .inl a_b))] [(k1, .int)] sz)) (va_Qv (fun (_ : Unit) => True) (fun (_ : Unit) t9 => ∃ (f2 : Nat → Int32), (f2 = up4 a_b n9 (cb p0)) ∧ cQ dC dI [(h0, .inr (7, [.ref b1, .int (nI (n9 + 1 + 1 + 1 + 1))])), (b1, .inl (k1, 200, .inl f2))] [] (va_A [(h0, .inr (7, [.ref b1, .int (nI n9)])), (b1, .inl (k1, 200, .inl a_b))] sz) t9) (va_A [(h0, .inr (7, [.ref b1, .int (nI n9)])), (b1, .inl (k1, 200, .inl a_b))] sz)) 0 0 (va_A [(h0, .inr (7, [.ref b1, .int (nI n9)])), (b1, .inl (k1, 200, .inl a_b))] sz) := by
  refine Met.ofW (cc := cX7_addNumber) (maxL := 3) (ret := none) (by decide) rfl ?_
  intro p e s m args below meth c s₁ B hml hv
  obtain ⟨rfl, hsz, hP, hK, hD0, hN⟩ := hv
  have hx := B.exec
  have hb := B.bytes
  have hr := B.returns
  have hts := atoms_spec (ws := wsX7_addNumber) B.pre
  have hown : s.vm.findClass RX7 = some m.cls := findClass_of_methodNamed B.named
  have hlocks := B.notSynchronized
  subst hsz
  have hin7 : ∀ w ∈ u_ws RX7 TX7 2, w ∈ wsX7_addNumber := by decide +kernel
  have hD := hD0.self (sz := s.heap.size)
  generalize hAe : va_A [(h0, .inr (7, [.ref b1, .int (nI n9)])), (b1, .inl (k1, 200, .inl a_b))] s.heap.size = A at hD ⊢
  have hA : ∀ q : Nat, s.heap.size ≤ q → A q := fun q h => by rw [← hAe]; exact Or.inr h
  have hS : va_S A s.heap s.heap [] := va_S.rf
  have hP : va_P (dC, dI) vwCl [(h0, .inr (7, [.ref b1, .int (nI n9)])), (b1, .inl (k1, 200, .inl a_b))] s.heap := hP
  have hl := lv_entry ([.ref h0, .int p0]) (n := 3) (Nat.le_of_ble_eq_true rfl)
  rw [lg_entry_eq]
  generalize (lg_sl ([.ref h0, .int p0]) ++ List.replicate (3 - (lg_sl ([.ref h0, .int p0])).length) Slot.unset).toArray = ls at hl ⊢
  have hl : lv_has ls 3 [(0, .ref h0), (1, .int p0)] := hl
  refine lv_bipush (v := 24) hx hb dX7_addNumber_0 (by decide) ?_
  refine lv_istore_n (lv' := [(2, .int 24), (0, .ref h0), (1, .int p0)]) hx hb dX7_addNumber_2 rfl hl (by decide) rfl (fun ls hl => ?_)
  refine lv_iload_n hx hb dX7_addNumber_3 rfl (lv_at hl 0 rfl) ?_
  refine lv_if_lt (tgt := 56) hx hb dX7_addNumber_4 (by decide) (fun c_1 => by first | exact absurd c_1 (by decide) | exact absurd (by decide) c_1) (fun _ => ?_)
  refine lv_aload_n hx hb dX7_addNumber_7 rfl (lv_at hl 1 rfl) ?_
  refine va_get (D := (dC, dI)) (ci := 7) (v := .int (nI n9)) (C := RX7) (T := TX7) (N := 2) hx hb hts hin7 hown hK hP 0 rfl rfl 1 (by decide) (hts (.fieldLink RX7 15 "YamRiders$Tape" "length" "I") (by decide +kernel)) (fun _ h9 => h9) rfl dX7_addNumber_8 ?_
  refine lv_if_lt (tgt := 50) hx hb dX7_addNumber_11 (by decide) (fun c_2 => by first | exact absurd c_2 (nI_pos (by omega)) | exact absurd (nI_pos (by omega)) c_2) (fun _ => ?_)
  refine lv_aload_n hx hb dX7_addNumber_14 rfl (lv_at hl 1 rfl) ?_
  refine va_get (D := (dC, dI)) (ci := 7) (v := .int (nI n9)) (C := RX7) (T := TX7) (N := 2) hx hb hts hin7 hown hK hP 0 rfl rfl 1 (by decide) (hts (.fieldLink RX7 15 "YamRiders$Tape" "length" "I") (by decide +kernel)) (fun _ h9 => h9) rfl dX7_addNumber_15 ?_
  refine lv_sipush (v := 200) hx hb dX7_addNumber_18 (by decide) ?_
  refine lv_icmp_ge (tgt := 50) hx hb dX7_addNumber_21 (by decide) (fun c_3 => by first | exact absurd c_3 (show ¬ nI 200 ≤ nI n9 from nI_ge (by omega) (by decide)) | exact absurd (show ¬ nI 200 ≤ nI n9 from nI_ge (by omega) (by decide)) c_3) (fun _ => ?_)
  refine lv_aload_n hx hb dX7_addNumber_24 rfl (lv_at hl 1 rfl) ?_
  refine va_get (D := (dC, dI)) (ci := 7) (v := .ref b1) (C := RX7) (T := TX7) (N := 2) hx hb hts hin7 hown hK hP 0 rfl rfl 0 (by decide) (hts (.fieldLink RX7 9 "YamRiders$Tape" "bytes" "[I") (by decide +kernel)) (fun _ h9 => h9) rfl dX7_addNumber_25 ?_
  refine lv_aload_n hx hb dX7_addNumber_28 rfl (lv_at hl 1 rfl) ?_
  refine va_get (D := (dC, dI)) (ci := 7) (v := .int (nI n9)) (C := RX7) (T := TX7) (N := 2) hx hb hts hin7 hown hK hP 0 rfl rfl 1 (by decide) (hts (.fieldLink RX7 15 "YamRiders$Tape" "length" "I") (by decide +kernel)) (fun _ h9 => h9) rfl dX7_addNumber_29 ?_
  refine lv_iload_n hx hb dX7_addNumber_32 rfl (lv_at hl 2 rfl) ?_
  refine lv_iload_n hx hb dX7_addNumber_33 rfl (lv_at hl 0 rfl) ?_
  refine lv_iushr hx hb dX7_addNumber_34 rfl ?_
  refine lv_topi (fun v_4 ev_4 => ?_)
  refine lv_sipush (v := 255) hx hb dX7_addNumber_35 (by decide) ?_
  refine lv_iand hx hb dX7_addNumber_38 ?_
  refine va_iast hx hb hK hP hD hS 1 0 rfl rfl (vp_in_nI (by omega) (by decide)) dX7_addNumber_39 (fun H locs hP hD hS => ?_)
  have hP : va_P (dC, dI) vwCl [(h0, .inr (7, [.ref b1, .int (nI n9)])), (b1, .inl (k1, 200, .inl (upd a_b (nI n9).toNatClampNeg (v_4 &&& 255))))] H := hP
  have hD : va_D A [(h0, .inr (7, [.ref b1, .int (nI n9)])), (b1, .inl (k1, 200, .inl (upd a_b (nI n9).toNatClampNeg (v_4 &&& 255))))] := hD
  obtain ⟨f_5, ef_5⟩ : ∃ w9 : Nat → Int32, w9 = upd a_b (nI n9).toNatClampNeg (v_4 &&& 255) := ⟨_, rfl⟩
  rw [← ef_5] at hP hD
  refine lv_aload_n hx hb dX7_addNumber_40 rfl (lv_at hl 1 rfl) ?_
  refine lv_dup hx hb dX7_addNumber_41 rfl ?_
  refine va_get (D := (dC, dI)) (ci := 7) (v := .int (nI n9)) (C := RX7) (T := TX7) (N := 2) hx hb hts hin7 hown hK hP 0 rfl rfl 1 (by decide) (hts (.fieldLink RX7 15 "YamRiders$Tape" "length" "I") (by decide +kernel)) (fun _ h9 => h9) rfl dX7_addNumber_42 ?_
  refine lv_iconst (v := 1) hx hb dX7_addNumber_45 (by decide) ?_
  refine lv_iadd hx hb dX7_addNumber_46 ?_
  refine lv_topi (fun y_6 ey_6 => ?_)
  obtain rfl : y_6 = nI (n9 + 1) := ey_6.trans (nI_1 n9)
  refine va_put (D := (dC, dI)) (ci := 7) (v := .int (nI (n9 + 1))) (ty := (tyX7 1)) (C := RX7) (T := TX7) (N := 2) hx hb hts hin7 tyX7 tyX7_ok nmX7 hown hK hP hD hS 0 rfl rfl 1 (by decide) (hts (.fieldLink RX7 15 "YamRiders$Tape" "length" "I") (by decide +kernel)) (fun _ h9 => h9) rfl (by decide +kernel) rfl rfl (Nat.le_of_ble_eq_true rfl) dX7_addNumber_47 (fun H locs hP hD hS => ?_)
  have hP : va_P (dC, dI) vwCl [(h0, .inr (7, [.ref b1, .int (nI (n9 + 1))])), (b1, .inl (k1, 200, .inl f_5))] H := hP
  have hD : va_D A [(h0, .inr (7, [.ref b1, .int (nI (n9 + 1))])), (b1, .inl (k1, 200, .inl f_5))] := hD
  refine lv_iinc (v := 16) (lv' := [(2, .int 16), (0, .ref h0), (1, .int p0)]) hx hb dX7_addNumber_50 hl (k := 0) rfl (by decide) (by decide) rfl (fun ls hl => ?_)
  refine lv_goto (tgt := 3) hx hb dX7_addNumber_53 (by decide) ?_
  refine lv_iload_n hx hb dX7_addNumber_3 rfl (lv_at hl 0 rfl) ?_
  refine lv_if_lt (tgt := 56) hx hb dX7_addNumber_4 (by decide) (fun c_7 => by first | exact absurd c_7 (by decide) | exact absurd (by decide) c_7) (fun _ => ?_)
  refine lv_aload_n hx hb dX7_addNumber_7 rfl (lv_at hl 1 rfl) ?_
  refine va_get (D := (dC, dI)) (ci := 7) (v := .int (nI (n9 + 1))) (C := RX7) (T := TX7) (N := 2) hx hb hts hin7 hown hK hP 0 rfl rfl 1 (by decide) (hts (.fieldLink RX7 15 "YamRiders$Tape" "length" "I") (by decide +kernel)) (fun _ h9 => h9) rfl dX7_addNumber_8 ?_
  refine lv_if_lt (tgt := 50) hx hb dX7_addNumber_11 (by decide) (fun c_8 => by first | exact absurd c_8 (nI_pos (by omega)) | exact absurd (nI_pos (by omega)) c_8) (fun _ => ?_)
  refine lv_aload_n hx hb dX7_addNumber_14 rfl (lv_at hl 1 rfl) ?_
  refine va_get (D := (dC, dI)) (ci := 7) (v := .int (nI (n9 + 1))) (C := RX7) (T := TX7) (N := 2) hx hb hts hin7 hown hK hP 0 rfl rfl 1 (by decide) (hts (.fieldLink RX7 15 "YamRiders$Tape" "length" "I") (by decide +kernel)) (fun _ h9 => h9) rfl dX7_addNumber_15 ?_
  refine lv_sipush (v := 200) hx hb dX7_addNumber_18 (by decide) ?_
  refine lv_icmp_ge (tgt := 50) hx hb dX7_addNumber_21 (by decide) (fun c_9 => by first | exact absurd c_9 (show ¬ nI 200 ≤ nI (n9 + 1) from nI_ge (by omega) (by decide)) | exact absurd (show ¬ nI 200 ≤ nI (n9 + 1) from nI_ge (by omega) (by decide)) c_9) (fun _ => ?_)
  refine lv_aload_n hx hb dX7_addNumber_24 rfl (lv_at hl 1 rfl) ?_
  refine va_get (D := (dC, dI)) (ci := 7) (v := .ref b1) (C := RX7) (T := TX7) (N := 2) hx hb hts hin7 hown hK hP 0 rfl rfl 0 (by decide) (hts (.fieldLink RX7 9 "YamRiders$Tape" "bytes" "[I") (by decide +kernel)) (fun _ h9 => h9) rfl dX7_addNumber_25 ?_
  refine lv_aload_n hx hb dX7_addNumber_28 rfl (lv_at hl 1 rfl) ?_
  refine va_get (D := (dC, dI)) (ci := 7) (v := .int (nI (n9 + 1))) (C := RX7) (T := TX7) (N := 2) hx hb hts hin7 hown hK hP 0 rfl rfl 1 (by decide) (hts (.fieldLink RX7 15 "YamRiders$Tape" "length" "I") (by decide +kernel)) (fun _ h9 => h9) rfl dX7_addNumber_29 ?_
  refine lv_iload_n hx hb dX7_addNumber_32 rfl (lv_at hl 2 rfl) ?_
  refine lv_iload_n hx hb dX7_addNumber_33 rfl (lv_at hl 0 rfl) ?_
  refine lv_iushr hx hb dX7_addNumber_34 rfl ?_
  refine lv_topi (fun v_10 ev_10 => ?_)
  refine lv_sipush (v := 255) hx hb dX7_addNumber_35 (by decide) ?_
  refine lv_iand hx hb dX7_addNumber_38 ?_
  refine va_iast hx hb hK hP hD hS 1 0 rfl rfl (vp_in_nI (by omega) (by decide)) dX7_addNumber_39 (fun H locs hP hD hS => ?_)
  have hP : va_P (dC, dI) vwCl [(h0, .inr (7, [.ref b1, .int (nI (n9 + 1))])), (b1, .inl (k1, 200, .inl (upd f_5 (nI (n9 + 1)).toNatClampNeg (v_10 &&& 255))))] H := hP
  have hD : va_D A [(h0, .inr (7, [.ref b1, .int (nI (n9 + 1))])), (b1, .inl (k1, 200, .inl (upd f_5 (nI (n9 + 1)).toNatClampNeg (v_10 &&& 255))))] := hD
  obtain ⟨f_11, ef_11⟩ : ∃ w9 : Nat → Int32, w9 = upd f_5 (nI (n9 + 1)).toNatClampNeg (v_10 &&& 255) := ⟨_, rfl⟩
  rw [← ef_11] at hP hD
  refine lv_aload_n hx hb dX7_addNumber_40 rfl (lv_at hl 1 rfl) ?_
  refine lv_dup hx hb dX7_addNumber_41 rfl ?_
  refine va_get (D := (dC, dI)) (ci := 7) (v := .int (nI (n9 + 1))) (C := RX7) (T := TX7) (N := 2) hx hb hts hin7 hown hK hP 0 rfl rfl 1 (by decide) (hts (.fieldLink RX7 15 "YamRiders$Tape" "length" "I") (by decide +kernel)) (fun _ h9 => h9) rfl dX7_addNumber_42 ?_
  refine lv_iconst (v := 1) hx hb dX7_addNumber_45 (by decide) ?_
  refine lv_iadd hx hb dX7_addNumber_46 ?_
  refine lv_topi (fun y_12 ey_12 => ?_)
  obtain rfl : y_12 = nI ((n9 + 1) + 1) := ey_12.trans (nI_1 (n9 + 1))
  refine va_put (D := (dC, dI)) (ci := 7) (v := .int (nI ((n9 + 1) + 1))) (ty := (tyX7 1)) (C := RX7) (T := TX7) (N := 2) hx hb hts hin7 tyX7 tyX7_ok nmX7 hown hK hP hD hS 0 rfl rfl 1 (by decide) (hts (.fieldLink RX7 15 "YamRiders$Tape" "length" "I") (by decide +kernel)) (fun _ h9 => h9) rfl (by decide +kernel) rfl rfl (Nat.le_of_ble_eq_true rfl) dX7_addNumber_47 (fun H locs hP hD hS => ?_)
  have hP : va_P (dC, dI) vwCl [(h0, .inr (7, [.ref b1, .int (nI ((n9 + 1) + 1))])), (b1, .inl (k1, 200, .inl f_11))] H := hP
  have hD : va_D A [(h0, .inr (7, [.ref b1, .int (nI ((n9 + 1) + 1))])), (b1, .inl (k1, 200, .inl f_11))] := hD
  refine lv_iinc (v := 8) (lv' := [(2, .int 8), (0, .ref h0), (1, .int p0)]) hx hb dX7_addNumber_50 hl (k := 0) rfl (by decide) (by decide) rfl (fun ls hl => ?_)
  refine lv_goto (tgt := 3) hx hb dX7_addNumber_53 (by decide) ?_
  refine lv_iload_n hx hb dX7_addNumber_3 rfl (lv_at hl 0 rfl) ?_
  refine lv_if_lt (tgt := 56) hx hb dX7_addNumber_4 (by decide) (fun c_13 => by first | exact absurd c_13 (by decide) | exact absurd (by decide) c_13) (fun _ => ?_)
  refine lv_aload_n hx hb dX7_addNumber_7 rfl (lv_at hl 1 rfl) ?_
  refine va_get (D := (dC, dI)) (ci := 7) (v := .int (nI ((n9 + 1) + 1))) (C := RX7) (T := TX7) (N := 2) hx hb hts hin7 hown hK hP 0 rfl rfl 1 (by decide) (hts (.fieldLink RX7 15 "YamRiders$Tape" "length" "I") (by decide +kernel)) (fun _ h9 => h9) rfl dX7_addNumber_8 ?_
  refine lv_if_lt (tgt := 50) hx hb dX7_addNumber_11 (by decide) (fun c_14 => by first | exact absurd c_14 (nI_pos (by omega)) | exact absurd (nI_pos (by omega)) c_14) (fun _ => ?_)
  refine lv_aload_n hx hb dX7_addNumber_14 rfl (lv_at hl 1 rfl) ?_
  refine va_get (D := (dC, dI)) (ci := 7) (v := .int (nI ((n9 + 1) + 1))) (C := RX7) (T := TX7) (N := 2) hx hb hts hin7 hown hK hP 0 rfl rfl 1 (by decide) (hts (.fieldLink RX7 15 "YamRiders$Tape" "length" "I") (by decide +kernel)) (fun _ h9 => h9) rfl dX7_addNumber_15 ?_
  refine lv_sipush (v := 200) hx hb dX7_addNumber_18 (by decide) ?_
  refine lv_icmp_ge (tgt := 50) hx hb dX7_addNumber_21 (by decide) (fun c_15 => by first | exact absurd c_15 (show ¬ nI 200 ≤ nI ((n9 + 1) + 1) from nI_ge (by omega) (by decide)) | exact absurd (show ¬ nI 200 ≤ nI ((n9 + 1) + 1) from nI_ge (by omega) (by decide)) c_15) (fun _ => ?_)
  refine lv_aload_n hx hb dX7_addNumber_24 rfl (lv_at hl 1 rfl) ?_
  refine va_get (D := (dC, dI)) (ci := 7) (v := .ref b1) (C := RX7) (T := TX7) (N := 2) hx hb hts hin7 hown hK hP 0 rfl rfl 0 (by decide) (hts (.fieldLink RX7 9 "YamRiders$Tape" "bytes" "[I") (by decide +kernel)) (fun _ h9 => h9) rfl dX7_addNumber_25 ?_
  refine lv_aload_n hx hb dX7_addNumber_28 rfl (lv_at hl 1 rfl) ?_
  refine va_get (D := (dC, dI)) (ci := 7) (v := .int (nI ((n9 + 1) + 1))) (C := RX7) (T := TX7) (N := 2) hx hb hts hin7 hown hK hP 0 rfl rfl 1 (by decide) (hts (.fieldLink RX7 15 "YamRiders$Tape" "length" "I") (by decide +kernel)) (fun _ h9 => h9) rfl dX7_addNumber_29 ?_
  refine lv_iload_n hx hb dX7_addNumber_32 rfl (lv_at hl 2 rfl) ?_
  refine lv_iload_n hx hb dX7_addNumber_33 rfl (lv_at hl 0 rfl) ?_
  refine lv_iushr hx hb dX7_addNumber_34 rfl ?_
  refine lv_topi (fun v_16 ev_16 => ?_)
  refine lv_sipush (v := 255) hx hb dX7_addNumber_35 (by decide) ?_
  refine lv_iand hx hb dX7_addNumber_38 ?_
  refine va_iast hx hb hK hP hD hS 1 0 rfl rfl (vp_in_nI (by omega) (by decide)) dX7_addNumber_39 (fun H locs hP hD hS => ?_)
  have hP : va_P (dC, dI) vwCl [(h0, .inr (7, [.ref b1, .int (nI ((n9 + 1) + 1))])), (b1, .inl (k1, 200, .inl (upd f_11 (nI ((n9 + 1) + 1)).toNatClampNeg (v_16 &&& 255))))] H := hP
  have hD : va_D A [(h0, .inr (7, [.ref b1, .int (nI ((n9 + 1) + 1))])), (b1, .inl (k1, 200, .inl (upd f_11 (nI ((n9 + 1) + 1)).toNatClampNeg (v_16 &&& 255))))] := hD
  obtain ⟨f_17, ef_17⟩ : ∃ w9 : Nat → Int32, w9 = upd f_11 (nI ((n9 + 1) + 1)).toNatClampNeg (v_16 &&& 255) := ⟨_, rfl⟩
  rw [← ef_17] at hP hD
  refine lv_aload_n hx hb dX7_addNumber_40 rfl (lv_at hl 1 rfl) ?_
  refine lv_dup hx hb dX7_addNumber_41 rfl ?_
  refine va_get (D := (dC, dI)) (ci := 7) (v := .int (nI ((n9 + 1) + 1))) (C := RX7) (T := TX7) (N := 2) hx hb hts hin7 hown hK hP 0 rfl rfl 1 (by decide) (hts (.fieldLink RX7 15 "YamRiders$Tape" "length" "I") (by decide +kernel)) (fun _ h9 => h9) rfl dX7_addNumber_42 ?_
  refine lv_iconst (v := 1) hx hb dX7_addNumber_45 (by decide) ?_
  refine lv_iadd hx hb dX7_addNumber_46 ?_
  refine lv_topi (fun y_18 ey_18 => ?_)
  obtain rfl : y_18 = nI (((n9 + 1) + 1) + 1) := ey_18.trans (nI_1 ((n9 + 1) + 1))
  refine va_put (D := (dC, dI)) (ci := 7) (v := .int (nI (((n9 + 1) + 1) + 1))) (ty := (tyX7 1)) (C := RX7) (T := TX7) (N := 2) hx hb hts hin7 tyX7 tyX7_ok nmX7 hown hK hP hD hS 0 rfl rfl 1 (by decide) (hts (.fieldLink RX7 15 "YamRiders$Tape" "length" "I") (by decide +kernel)) (fun _ h9 => h9) rfl (by decide +kernel) rfl rfl (Nat.le_of_ble_eq_true rfl) dX7_addNumber_47 (fun H locs hP hD hS => ?_)
  have hP : va_P (dC, dI) vwCl [(h0, .inr (7, [.ref b1, .int (nI (((n9 + 1) + 1) + 1))])), (b1, .inl (k1, 200, .inl f_17))] H := hP
  have hD : va_D A [(h0, .inr (7, [.ref b1, .int (nI (((n9 + 1) + 1) + 1))])), (b1, .inl (k1, 200, .inl f_17))] := hD
  refine lv_iinc (v := 0) (lv' := [(2, .int 0), (0, .ref h0), (1, .int p0)]) hx hb dX7_addNumber_50 hl (k := 0) rfl (by decide) (by decide) rfl (fun ls hl => ?_)
  refine lv_goto (tgt := 3) hx hb dX7_addNumber_53 (by decide) ?_
  refine lv_iload_n hx hb dX7_addNumber_3 rfl (lv_at hl 0 rfl) ?_
  refine lv_if_lt (tgt := 56) hx hb dX7_addNumber_4 (by decide) (fun c_19 => by first | exact absurd c_19 (by decide) | exact absurd (by decide) c_19) (fun _ => ?_)
  refine lv_aload_n hx hb dX7_addNumber_7 rfl (lv_at hl 1 rfl) ?_
  refine va_get (D := (dC, dI)) (ci := 7) (v := .int (nI (((n9 + 1) + 1) + 1))) (C := RX7) (T := TX7) (N := 2) hx hb hts hin7 hown hK hP 0 rfl rfl 1 (by decide) (hts (.fieldLink RX7 15 "YamRiders$Tape" "length" "I") (by decide +kernel)) (fun _ h9 => h9) rfl dX7_addNumber_8 ?_
  refine lv_if_lt (tgt := 50) hx hb dX7_addNumber_11 (by decide) (fun c_20 => by first | exact absurd c_20 (nI_pos (by omega)) | exact absurd (nI_pos (by omega)) c_20) (fun _ => ?_)
  refine lv_aload_n hx hb dX7_addNumber_14 rfl (lv_at hl 1 rfl) ?_
  refine va_get (D := (dC, dI)) (ci := 7) (v := .int (nI (((n9 + 1) + 1) + 1))) (C := RX7) (T := TX7) (N := 2) hx hb hts hin7 hown hK hP 0 rfl rfl 1 (by decide) (hts (.fieldLink RX7 15 "YamRiders$Tape" "length" "I") (by decide +kernel)) (fun _ h9 => h9) rfl dX7_addNumber_15 ?_
  refine lv_sipush (v := 200) hx hb dX7_addNumber_18 (by decide) ?_
  refine lv_icmp_ge (tgt := 50) hx hb dX7_addNumber_21 (by decide) (fun c_21 => by first | exact absurd c_21 (show ¬ nI 200 ≤ nI (((n9 + 1) + 1) + 1) from nI_ge (by omega) (by decide)) | exact absurd (show ¬ nI 200 ≤ nI (((n9 + 1) + 1) + 1) from nI_ge (by omega) (by decide)) c_21) (fun _ => ?_)
  refine lv_aload_n hx hb dX7_addNumber_24 rfl (lv_at hl 1 rfl) ?_
  refine va_get (D := (dC, dI)) (ci := 7) (v := .ref b1) (C := RX7) (T := TX7) (N := 2) hx hb hts hin7 hown hK hP 0 rfl rfl 0 (by decide) (hts (.fieldLink RX7 9 "YamRiders$Tape" "bytes" "[I") (by decide +kernel)) (fun _ h9 => h9) rfl dX7_addNumber_25 ?_
  refine lv_aload_n hx hb dX7_addNumber_28 rfl (lv_at hl 1 rfl) ?_
  refine va_get (D := (dC, dI)) (ci := 7) (v := .int (nI (((n9 + 1) + 1) + 1))) (C := RX7) (T := TX7) (N := 2) hx hb hts hin7 hown hK hP 0 rfl rfl 1 (by decide) (hts (.fieldLink RX7 15 "YamRiders$Tape" "length" "I") (by decide +kernel)) (fun _ h9 => h9) rfl dX7_addNumber_29 ?_
  refine lv_iload_n hx hb dX7_addNumber_32 rfl (lv_at hl 2 rfl) ?_
  refine lv_iload_n hx hb dX7_addNumber_33 rfl (lv_at hl 0 rfl) ?_
  refine lv_iushr hx hb dX7_addNumber_34 rfl ?_
  refine lv_topi (fun v_22 ev_22 => ?_)
  refine lv_sipush (v := 255) hx hb dX7_addNumber_35 (by decide) ?_
  refine lv_iand hx hb dX7_addNumber_38 ?_
  refine va_iast hx hb hK hP hD hS 1 0 rfl rfl (vp_in_nI (by omega) (by decide)) dX7_addNumber_39 (fun H locs hP hD hS => ?_)
  have hP : va_P (dC, dI) vwCl [(h0, .inr (7, [.ref b1, .int (nI (((n9 + 1) + 1) + 1))])), (b1, .inl (k1, 200, .inl (upd f_17 (nI (((n9 + 1) + 1) + 1)).toNatClampNeg (v_22 &&& 255))))] H := hP
  have hD : va_D A [(h0, .inr (7, [.ref b1, .int (nI (((n9 + 1) + 1) + 1))])), (b1, .inl (k1, 200, .inl (upd f_17 (nI (((n9 + 1) + 1) + 1)).toNatClampNeg (v_22 &&& 255))))] := hD
  obtain ⟨f_23, ef_23⟩ : ∃ w9 : Nat → Int32, w9 = upd f_17 (nI (((n9 + 1) + 1) + 1)).toNatClampNeg (v_22 &&& 255) := ⟨_, rfl⟩
  rw [← ef_23] at hP hD
  refine lv_aload_n hx hb dX7_addNumber_40 rfl (lv_at hl 1 rfl) ?_
  refine lv_dup hx hb dX7_addNumber_41 rfl ?_
  refine va_get (D := (dC, dI)) (ci := 7) (v := .int (nI (((n9 + 1) + 1) + 1))) (C := RX7) (T := TX7) (N := 2) hx hb hts hin7 hown hK hP 0 rfl rfl 1 (by decide) (hts (.fieldLink RX7 15 "YamRiders$Tape" "length" "I") (by decide +kernel)) (fun _ h9 => h9) rfl dX7_addNumber_42 ?_
  refine lv_iconst (v := 1) hx hb dX7_addNumber_45 (by decide) ?_
  refine lv_iadd hx hb dX7_addNumber_46 ?_
  refine lv_topi (fun y_24 ey_24 => ?_)
  obtain rfl : y_24 = nI ((((n9 + 1) + 1) + 1) + 1) := ey_24.trans (nI_1 (((n9 + 1) + 1) + 1))
  refine va_put (D := (dC, dI)) (ci := 7) (v := .int (nI ((((n9 + 1) + 1) + 1) + 1))) (ty := (tyX7 1)) (C := RX7) (T := TX7) (N := 2) hx hb hts hin7 tyX7 tyX7_ok nmX7 hown hK hP hD hS 0 rfl rfl 1 (by decide) (hts (.fieldLink RX7 15 "YamRiders$Tape" "length" "I") (by decide +kernel)) (fun _ h9 => h9) rfl (by decide +kernel) rfl rfl (Nat.le_of_ble_eq_true rfl) dX7_addNumber_47 (fun H locs hP hD hS => ?_)
  have hP : va_P (dC, dI) vwCl [(h0, .inr (7, [.ref b1, .int (nI ((((n9 + 1) + 1) + 1) + 1))])), (b1, .inl (k1, 200, .inl f_23))] H := hP
  have hD : va_D A [(h0, .inr (7, [.ref b1, .int (nI ((((n9 + 1) + 1) + 1) + 1))])), (b1, .inl (k1, 200, .inl f_23))] := hD
  refine lv_iinc (v := (-8)) (lv' := [(2, .int (-8)), (0, .ref h0), (1, .int p0)]) hx hb dX7_addNumber_50 hl (k := 0) rfl (by decide) (by decide) rfl (fun ls hl => ?_)
  refine lv_goto (tgt := 3) hx hb dX7_addNumber_53 (by decide) ?_
  refine lv_iload_n hx hb dX7_addNumber_3 rfl (lv_at hl 0 rfl) ?_
  refine lv_if_lt (tgt := 56) hx hb dX7_addNumber_4 (by decide) (fun _ => ?_) (fun c_25 => by first | exact absurd c_25 (by decide) | exact absurd (by decide) c_25)
  have hP9 := hP.sub (ws' := [(h0, .inr (7, [.ref b1, .int (nI (n9 + 1 + 1 + 1 + 1))])), (b1, .inl (k1, 200, .inl f_23))]) [0, 1] rfl
  have hD9 := hD.sub (ws' := [(h0, .inr (7, [.ref b1, .int (nI (n9 + 1 + 1 + 1 + 1))])), (b1, .inl (k1, 200, .inl f_23))]) [0, 1] (by decide) rfl
  have hK9 := hK.sub (tys' := []) [] rfl
  refine W.widen (k := 0) (n := 0) (Nat.le_of_ble_eq_true rfl) (Nat.le_of_ble_eq_true rfl) ?_
  exact W.vret hx hb hr (fun t9 ht hW => ⟨⟨(), rfl, trivial, f_23, (by rw [ef_23, ef_17, ef_11, ef_5, ev_22, ev_16, ev_10, ev_4, nI_clamp (by omega), nI_clamp (by omega), nI_clamp (by omega), nI_clamp (by omega)]; rfl), by rw [ht]; exact hP9, va_K.moved hW.alike hK9, hD9⟩, hS.F ht⟩) hS.2.2 dX7_addNumber_56

set_option maxHeartbeats 4000000 in
set_option maxRecDepth 100000 in
theorem s_X8_feed (l : Launch) (dC : Nat → ClassId) (dI : Nat → Nat → Nat) (h0 : Nat) (a1 : Nat) (a2 : Nat) (a3 : Nat) (a4 : Nat) (a5 : Nat) (a6 : Nat) (a7 : Nat) (a8 : Nat) (a9 : Nat) (j_faultKind : Int32) (j_horseCount : Int32) (j_tabletCount : Int32) (j_riderCount : Int32) (j_lineLength : Int32) (j_hour : Int32) (b1 : Nat) (k1 : ClassId) (a_b : Nat → Int32) (l9 : Nat) (p0 : Int32) (p1 : Int32) (p2 : Int32) (p3 : Int32) (p4 : Int32) (sz : Nat) (hl9 : l9 ≤ 200) : Met l yX8_feed wsX8_feed ({ frames := 1, cells := 0, slots := 0, locals := 22 }) (va_Pc [.ref h0, .int p0, .int p1, .int p2, .int p3, .int p4] (cP dC dI [(h0, .inr (8, [.ref a1, .ref a2, .ref a3, .ref a4, .ref a5, .ref a6, .ref a7, .ref a8, .ref a9, .int j_faultKind, .int j_horseCount, .int j_tabletCount, .int j_riderCount, .int j_lineLength, .int j_hour])), (a1, .inr (7, [.ref b1, .int (nI l9)])), (b1, .inl (k1, 200, .inl a_b))] [(k1, .int)] sz)) (va_Qi (fun (r rv : Int32) => r = rv) (fun (rv : Int32) t9 => ∃ (n2 : Nat) (f2 : Nat → Int32), (n2 ≤ 200 ∧ ((n2 = l9 ∧ rv = -1 ∧ 200 < l9 + 20) ∨ (n2 = l9 + 20 ∧ rv = nI (l9 + 20)))) ∧ (FDx cb a_b f2 l9 n2 p0 p1 p2 p3 p4) ∧ cQ dC dI [(h0, .inr (8, [.ref a1, .ref a2, .ref a3, .ref a4, .ref a5, .ref a6, .ref a7, .ref a8, .ref a9, .int j_faultKind, .int j_horseCount, .int j_tabletCount, .int j_riderCount, .int j_lineLength, .int j_hour])), (a1, .inr (7, [.ref b1, .int (nI n2)])), (b1, .inl (k1, 200, .inl f2))] [] (va_A [(h0, .inr (8, [.ref a1, .ref a2, .ref a3, .ref a4, .ref a5, .ref a6, .ref a7, .ref a8, .ref a9, .int j_faultKind, .int j_horseCount, .int j_tabletCount, .int j_riderCount, .int j_lineLength, .int j_hour])), (a1, .inr (7, [.ref b1, .int (nI l9)])), (b1, .inl (k1, 200, .inl a_b))] sz) t9) (va_A [(h0, .inr (8, [.ref a1, .ref a2, .ref a3, .ref a4, .ref a5, .ref a6, .ref a7, .ref a8, .ref a9, .int j_faultKind, .int j_horseCount, .int j_tabletCount, .int j_riderCount, .int j_lineLength, .int j_hour])), (a1, .inr (7, [.ref b1, .int (nI l9)])), (b1, .inl (k1, 200, .inl a_b))] sz)) 0 0 (va_A [(h0, .inr (8, [.ref a1, .ref a2, .ref a3, .ref a4, .ref a5, .ref a6, .ref a7, .ref a8, .ref a9, .int j_faultKind, .int j_horseCount, .int j_tabletCount, .int j_riderCount, .int j_lineLength, .int j_hour])), (a1, .inr (7, [.ref b1, .int (nI l9)])), (b1, .inl (k1, 200, .inl a_b))] sz) := by
  refine Met.ofW (cc := cX8_feed) (maxL := 6) (ret := (some .int)) (by decide) rfl ?_
  intro p e s m args below meth c s₁ B hml hv
  obtain ⟨rfl, hsz, hP, hK, hD0, hN⟩ := hv
  have hx := B.exec
  have hb := B.bytes
  have hr := B.returns
  have hts := atoms_spec (ws := wsX8_feed) B.pre
  have hown : s.vm.findClass RX8 = some m.cls := findClass_of_methodNamed B.named
  have hlocks := B.notSynchronized
  subst hsz
  have hin7 : ∀ w ∈ u_ws RX7 TX7 2, w ∈ wsX8_feed := by decide +kernel
  have hin8 : ∀ w ∈ u_ws RX8 TX8 15, w ∈ wsX8_feed := by decide +kernel
  have hD := hD0.self (sz := s.heap.size)
  generalize hAe : va_A [(h0, .inr (8, [.ref a1, .ref a2, .ref a3, .ref a4, .ref a5, .ref a6, .ref a7, .ref a8, .ref a9, .int j_faultKind, .int j_horseCount, .int j_tabletCount, .int j_riderCount, .int j_lineLength, .int j_hour])), (a1, .inr (7, [.ref b1, .int (nI l9)])), (b1, .inl (k1, 200, .inl a_b))] s.heap.size = A at hD ⊢
  have hA : ∀ q : Nat, s.heap.size ≤ q → A q := fun q h => by rw [← hAe]; exact Or.inr h
  have hS : va_S A s.heap s.heap [] := va_S.rf
  have hP : va_P (dC, dI) vwCl [(h0, .inr (8, [.ref a1, .ref a2, .ref a3, .ref a4, .ref a5, .ref a6, .ref a7, .ref a8, .ref a9, .int j_faultKind, .int j_horseCount, .int j_tabletCount, .int j_riderCount, .int j_lineLength, .int j_hour])), (a1, .inr (7, [.ref b1, .int (nI l9)])), (b1, .inl (k1, 200, .inl a_b))] s.heap := hP
  have hl := lv_entry ([.ref h0, .int p0, .int p1, .int p2, .int p3, .int p4]) (n := 6) (Nat.le_of_ble_eq_true rfl)
  rw [lg_entry_eq]
  generalize (lg_sl ([.ref h0, .int p0, .int p1, .int p2, .int p3, .int p4]) ++ List.replicate (6 - (lg_sl ([.ref h0, .int p0, .int p1, .int p2, .int p3, .int p4])).length) Slot.unset).toArray = ls at hl ⊢
  have hl : lv_has ls 6 [(0, .ref h0), (1, .int p0), (2, .int p1), (3, .int p2), (4, .int p3), (5, .int p4)] := hl
  refine lv_aload_n hx hb dX8_feed_0 rfl (lv_at hl 0 rfl) ?_
  refine va_get (D := (dC, dI)) (ci := 8) (v := .ref a1) (C := RX8) (T := TX8) (N := 15) hx hb hts hin8 hown hK hP 0 rfl rfl 0 (by decide) (hts (.fieldLink RX8 10 "YamRiders" "tape" "LYamRiders$Tape;") (by decide +kernel)) (fun _ h9 => h9) rfl dX8_feed_1 ?_
  refine lv_bipush (v := 20) hx hb dX8_feed_4 (by decide) ?_
  have hPc := hP.sub (ws' := [(a1, .inr (7, [.ref b1, .int (nI l9)]))]) [1] rfl
  have hDc := hD.sub (ws' := [(a1, .inr (7, [.ref b1, .int (nI l9)]))]) [1] (by decide) rfl
  have hKc := hK.sub (tys' := []) [] rfl
  refine cs_i (va_runV (As := [.int 20]) (rest := []) ⟨hx, hb, hml, hown, hts⟩ (g_X7_hasRoomFor l dC dI a1 b1 (nI l9) 20 s.heap.size) (cwV 1 hts gX8_feed_X7_hasRoomFor rfl rfl rfl (by decide +kernel) ⟨Nat.le_of_ble_eq_true rfl, Nat.le_of_ble_eq_true rfl⟩) ⟨c_blind, va_recv hKc hPc (ci := 7) (q0 := 0) rfl rfl, c_pre hPc hKc hDc hN⟩ rfl rfl hl.1 rfl (lv_room (Nat.le_of_ble_eq_true rfl)) dX8_feed_6 ⟨Nat.le_of_ble_eq_true rfl, Nat.le_of_ble_eq_true rfl⟩) (fun r_1 hr_1 => ?_)
  subst hr_1
  refine lv_if_ne (tgt := 14) hx hb dX8_feed_9 (by decide) (fun c_2 => ?_) (fun c_2 => ?_)
  · have h20 : l9 + 20 ≤ 200 := f20x hl9 c_2
    refine lv_aload_n hx hb dX8_feed_14 rfl (lv_at hl 0 rfl) ?_
    refine va_get (D := (dC, dI)) (ci := 8) (v := .ref a1) (C := RX8) (T := TX8) (N := 15) hx hb hts hin8 hown hK hP 0 rfl rfl 0 (by decide) (hts (.fieldLink RX8 10 "YamRiders" "tape" "LYamRiders$Tape;") (by decide +kernel)) (fun _ h9 => h9) rfl dX8_feed_15 ?_
    refine lv_iload_n hx hb dX8_feed_18 rfl (lv_at hl 1 rfl) ?_
    have hPc := hP.sub (ws' := [(a1, .inr (7, [.ref b1, .int (nI l9)])), (b1, .inl (k1, 200, .inl a_b))]) [1, 2] rfl
    have hDc := hD.sub (ws' := [(a1, .inr (7, [.ref b1, .int (nI l9)])), (b1, .inl (k1, 200, .inl a_b))]) [1, 2] (by decide) rfl
    have hKc := hK.sub (tys' := [(k1, .int)]) [0] rfl
    have hFc := va_free (wc := [(a1, .inr (7, [.ref b1, .int (nI l9)])), (b1, .inl (k1, 200, .inl a_b))]) hD hS hA [1, 2] rfl
    refine va_callv (va_runV (As := [.int p0]) (rest := []) ⟨hx, hb, hml, hown, hts⟩ (s_X7_addNumber l dC dI a1 b1 k1 a_b p0 l9 s.heap.size (by omega)) (cwV 1 hts gX8_feed_X7_addNumber rfl rfl rfl (by decide +kernel) ⟨Nat.le_of_ble_eq_true rfl, Nat.le_of_ble_eq_true rfl⟩) ⟨c_blind, va_recv hKc hPc (ci := 7) (q0 := 0) rfl rfl, c_pre hPc hKc hDc hN⟩ rfl rfl hl.1 rfl (lv_room (Nat.le_of_ble_eq_true rfl)) dX8_feed_19 ⟨Nat.le_of_ble_eq_true rfl, Nat.le_of_ble_eq_true rfl⟩) hS (fun q _ h => hFc q h) hFc (fun u9 t9 H1 locs ht hvm hw hB hz1 hk1 hS => ?_)
    obtain ⟨f_4, hf_x_5, hP1, hK1, hD1⟩ := hB
    rw [ht] at hP1
    have hK1 := va_K.moved hvm.symm hK1
    obtain ⟨hP, hD⟩ := va_join (wr := [(h0, .inr (8, [.ref a1, .ref a2, .ref a3, .ref a4, .ref a5, .ref a6, .ref a7, .ref a8, .ref a9, .int j_faultKind, .int j_horseCount, .int j_tabletCount, .int j_riderCount, .int j_lineLength, .int j_hour]))]) (w1 := [(a1, .inr (7, [.ref b1, .int (nI (l9 + 1 + 1 + 1 + 1))])), (b1, .inl (k1, 200, .inl f_4))]) hP hD [1, 2] [0] rfl rfl (by decide) (by decide) hk1 hFc hP1 hD1
    have hK := (hK.sub (tys' := [(k1, .int)]) [0] rfl).app hK1
    generalize H1 = H at hP hS ⊢
    have hK : va_K (dC, dI) vwCl [(k1, .int)] s := hK
    have hP : va_P (dC, dI) vwCl [(h0, .inr (8, [.ref a1, .ref a2, .ref a3, .ref a4, .ref a5, .ref a6, .ref a7, .ref a8, .ref a9, .int j_faultKind, .int j_horseCount, .int j_tabletCount, .int j_riderCount, .int j_lineLength, .int j_hour])), (a1, .inr (7, [.ref b1, .int (nI (l9 + 1 + 1 + 1 + 1))])), (b1, .inl (k1, 200, .inl f_4))] H := hP
    have hD : va_D A [(h0, .inr (8, [.ref a1, .ref a2, .ref a3, .ref a4, .ref a5, .ref a6, .ref a7, .ref a8, .ref a9, .int j_faultKind, .int j_horseCount, .int j_tabletCount, .int j_riderCount, .int j_lineLength, .int j_hour])), (a1, .inr (7, [.ref b1, .int (nI (l9 + 1 + 1 + 1 + 1))])), (b1, .inl (k1, 200, .inl f_4))] := hD
    refine W.widen (k := 0) (n := 0) (Nat.le_of_ble_eq_true rfl) (Nat.le_of_ble_eq_true rfl) ?_
    refine lv_aload_n hx hb dX8_feed_22 rfl (lv_at hl 0 rfl) ?_
    refine va_get (D := (dC, dI)) (ci := 8) (v := .ref a1) (C := RX8) (T := TX8) (N := 15) hx hb hts hin8 hown hK hP 0 rfl rfl 0 (by decide) (hts (.fieldLink RX8 10 "YamRiders" "tape" "LYamRiders$Tape;") (by decide +kernel)) (fun _ h9 => h9) rfl dX8_feed_23 ?_
    refine lv_iload_n hx hb dX8_feed_26 rfl (lv_at hl 2 rfl) ?_
    have hPc := hP.sub (ws' := [(a1, .inr (7, [.ref b1, .int (nI (l9 + 1 + 1 + 1 + 1))])), (b1, .inl (k1, 200, .inl f_4))]) [1, 2] rfl
    have hDc := hD.sub (ws' := [(a1, .inr (7, [.ref b1, .int (nI (l9 + 1 + 1 + 1 + 1))])), (b1, .inl (k1, 200, .inl f_4))]) [1, 2] (by decide) rfl
    have hKc := hK.sub (tys' := [(k1, .int)]) [0] rfl
    have hFc := va_free (wc := [(a1, .inr (7, [.ref b1, .int (nI (l9 + 1 + 1 + 1 + 1))])), (b1, .inl (k1, 200, .inl f_4))]) hD hS hA [1, 2] rfl
    refine va_callv (va_runV (As := [.int p1]) (rest := []) ⟨hx, hb, hml, hown, hts⟩ (s_X7_addNumber l dC dI a1 b1 k1 f_4 p1 (l9 + 1 + 1 + 1 + 1) H.size (by omega)) (cwV 1 hts gX8_feed_X7_addNumber rfl rfl rfl (by decide +kernel) ⟨Nat.le_of_ble_eq_true rfl, Nat.le_of_ble_eq_true rfl⟩) ⟨c_blind, va_recv hKc hPc (ci := 7) (q0 := 0) rfl rfl, c_pre hPc hKc hDc hN⟩ rfl rfl hl.1 rfl (lv_room (Nat.le_of_ble_eq_true rfl)) dX8_feed_27 ⟨Nat.le_of_ble_eq_true rfl, Nat.le_of_ble_eq_true rfl⟩) hS (fun q _ h => hFc q h) hFc (fun u9 t9 H1 locs ht hvm hw hB hz1 hk1 hS => ?_)
    obtain ⟨f_7, hf_x_8, hP1, hK1, hD1⟩ := hB
    rw [ht] at hP1
    have hK1 := va_K.moved hvm.symm hK1
    obtain ⟨hP, hD⟩ := va_join (wr := [(h0, .inr (8, [.ref a1, .ref a2, .ref a3, .ref a4, .ref a5, .ref a6, .ref a7, .ref a8, .ref a9, .int j_faultKind, .int j_horseCount, .int j_tabletCount, .int j_riderCount, .int j_lineLength, .int j_hour]))]) (w1 := [(a1, .inr (7, [.ref b1, .int (nI ((l9 + 1 + 1 + 1 + 1) + 1 + 1 + 1 + 1))])), (b1, .inl (k1, 200, .inl f_7))]) hP hD [1, 2] [0] rfl rfl (by decide) (by decide) hk1 hFc hP1 hD1
    have hK := (hK.sub (tys' := [(k1, .int)]) [0] rfl).app hK1
    generalize H1 = H at hP hS ⊢
    have hK : va_K (dC, dI) vwCl [(k1, .int)] s := hK
    have hP : va_P (dC, dI) vwCl [(h0, .inr (8, [.ref a1, .ref a2, .ref a3, .ref a4, .ref a5, .ref a6, .ref a7, .ref a8, .ref a9, .int j_faultKind, .int j_horseCount, .int j_tabletCount, .int j_riderCount, .int j_lineLength, .int j_hour])), (a1, .inr (7, [.ref b1, .int (nI ((l9 + 1 + 1 + 1 + 1) + 1 + 1 + 1 + 1))])), (b1, .inl (k1, 200, .inl f_7))] H := hP
    have hD : va_D A [(h0, .inr (8, [.ref a1, .ref a2, .ref a3, .ref a4, .ref a5, .ref a6, .ref a7, .ref a8, .ref a9, .int j_faultKind, .int j_horseCount, .int j_tabletCount, .int j_riderCount, .int j_lineLength, .int j_hour])), (a1, .inr (7, [.ref b1, .int (nI ((l9 + 1 + 1 + 1 + 1) + 1 + 1 + 1 + 1))])), (b1, .inl (k1, 200, .inl f_7))] := hD
    refine W.widen (k := 0) (n := 0) (Nat.le_of_ble_eq_true rfl) (Nat.le_of_ble_eq_true rfl) ?_
    refine lv_aload_n hx hb dX8_feed_30 rfl (lv_at hl 0 rfl) ?_
    refine va_get (D := (dC, dI)) (ci := 8) (v := .ref a1) (C := RX8) (T := TX8) (N := 15) hx hb hts hin8 hown hK hP 0 rfl rfl 0 (by decide) (hts (.fieldLink RX8 10 "YamRiders" "tape" "LYamRiders$Tape;") (by decide +kernel)) (fun _ h9 => h9) rfl dX8_feed_31 ?_
    refine lv_iload_n hx hb dX8_feed_34 rfl (lv_at hl 3 rfl) ?_
    have hPc := hP.sub (ws' := [(a1, .inr (7, [.ref b1, .int (nI ((l9 + 1 + 1 + 1 + 1) + 1 + 1 + 1 + 1))])), (b1, .inl (k1, 200, .inl f_7))]) [1, 2] rfl
    have hDc := hD.sub (ws' := [(a1, .inr (7, [.ref b1, .int (nI ((l9 + 1 + 1 + 1 + 1) + 1 + 1 + 1 + 1))])), (b1, .inl (k1, 200, .inl f_7))]) [1, 2] (by decide) rfl
    have hKc := hK.sub (tys' := [(k1, .int)]) [0] rfl
    have hFc := va_free (wc := [(a1, .inr (7, [.ref b1, .int (nI ((l9 + 1 + 1 + 1 + 1) + 1 + 1 + 1 + 1))])), (b1, .inl (k1, 200, .inl f_7))]) hD hS hA [1, 2] rfl
    refine va_callv (va_runV (As := [.int p2]) (rest := []) ⟨hx, hb, hml, hown, hts⟩ (s_X7_addNumber l dC dI a1 b1 k1 f_7 p2 ((l9 + 1 + 1 + 1 + 1) + 1 + 1 + 1 + 1) H.size (by omega)) (cwV 1 hts gX8_feed_X7_addNumber rfl rfl rfl (by decide +kernel) ⟨Nat.le_of_ble_eq_true rfl, Nat.le_of_ble_eq_true rfl⟩) ⟨c_blind, va_recv hKc hPc (ci := 7) (q0 := 0) rfl rfl, c_pre hPc hKc hDc hN⟩ rfl rfl hl.1 rfl (lv_room (Nat.le_of_ble_eq_true rfl)) dX8_feed_35 ⟨Nat.le_of_ble_eq_true rfl, Nat.le_of_ble_eq_true rfl⟩) hS (fun q _ h => hFc q h) hFc (fun u9 t9 H1 locs ht hvm hw hB hz1 hk1 hS => ?_)
    obtain ⟨f_10, hf_x_11, hP1, hK1, hD1⟩ := hB
    rw [ht] at hP1
    have hK1 := va_K.moved hvm.symm hK1
    obtain ⟨hP, hD⟩ := va_join (wr := [(h0, .inr (8, [.ref a1, .ref a2, .ref a3, .ref a4, .ref a5, .ref a6, .ref a7, .ref a8, .ref a9, .int j_faultKind, .int j_horseCount, .int j_tabletCount, .int j_riderCount, .int j_lineLength, .int j_hour]))]) (w1 := [(a1, .inr (7, [.ref b1, .int (nI (((l9 + 1 + 1 + 1 + 1) + 1 + 1 + 1 + 1) + 1 + 1 + 1 + 1))])), (b1, .inl (k1, 200, .inl f_10))]) hP hD [1, 2] [0] rfl rfl (by decide) (by decide) hk1 hFc hP1 hD1
    have hK := (hK.sub (tys' := [(k1, .int)]) [0] rfl).app hK1
    generalize H1 = H at hP hS ⊢
    have hK : va_K (dC, dI) vwCl [(k1, .int)] s := hK
    have hP : va_P (dC, dI) vwCl [(h0, .inr (8, [.ref a1, .ref a2, .ref a3, .ref a4, .ref a5, .ref a6, .ref a7, .ref a8, .ref a9, .int j_faultKind, .int j_horseCount, .int j_tabletCount, .int j_riderCount, .int j_lineLength, .int j_hour])), (a1, .inr (7, [.ref b1, .int (nI (((l9 + 1 + 1 + 1 + 1) + 1 + 1 + 1 + 1) + 1 + 1 + 1 + 1))])), (b1, .inl (k1, 200, .inl f_10))] H := hP
    have hD : va_D A [(h0, .inr (8, [.ref a1, .ref a2, .ref a3, .ref a4, .ref a5, .ref a6, .ref a7, .ref a8, .ref a9, .int j_faultKind, .int j_horseCount, .int j_tabletCount, .int j_riderCount, .int j_lineLength, .int j_hour])), (a1, .inr (7, [.ref b1, .int (nI (((l9 + 1 + 1 + 1 + 1) + 1 + 1 + 1 + 1) + 1 + 1 + 1 + 1))])), (b1, .inl (k1, 200, .inl f_10))] := hD
    refine W.widen (k := 0) (n := 0) (Nat.le_of_ble_eq_true rfl) (Nat.le_of_ble_eq_true rfl) ?_
    refine lv_aload_n hx hb dX8_feed_38 rfl (lv_at hl 0 rfl) ?_
    refine va_get (D := (dC, dI)) (ci := 8) (v := .ref a1) (C := RX8) (T := TX8) (N := 15) hx hb hts hin8 hown hK hP 0 rfl rfl 0 (by decide) (hts (.fieldLink RX8 10 "YamRiders" "tape" "LYamRiders$Tape;") (by decide +kernel)) (fun _ h9 => h9) rfl dX8_feed_39 ?_
    refine lv_iload hx hb dX8_feed_42 (lv_at hl 4 rfl) ?_
    have hPc := hP.sub (ws' := [(a1, .inr (7, [.ref b1, .int (nI (((l9 + 1 + 1 + 1 + 1) + 1 + 1 + 1 + 1) + 1 + 1 + 1 + 1))])), (b1, .inl (k1, 200, .inl f_10))]) [1, 2] rfl
    have hDc := hD.sub (ws' := [(a1, .inr (7, [.ref b1, .int (nI (((l9 + 1 + 1 + 1 + 1) + 1 + 1 + 1 + 1) + 1 + 1 + 1 + 1))])), (b1, .inl (k1, 200, .inl f_10))]) [1, 2] (by decide) rfl
    have hKc := hK.sub (tys' := [(k1, .int)]) [0] rfl
    have hFc := va_free (wc := [(a1, .inr (7, [.ref b1, .int (nI (((l9 + 1 + 1 + 1 + 1) + 1 + 1 + 1 + 1) + 1 + 1 + 1 + 1))])), (b1, .inl (k1, 200, .inl f_10))]) hD hS hA [1, 2] rfl
    refine va_callv (va_runV (As := [.int p3]) (rest := []) ⟨hx, hb, hml, hown, hts⟩ (s_X7_addNumber l dC dI a1 b1 k1 f_10 p3 (((l9 + 1 + 1 + 1 + 1) + 1 + 1 + 1 + 1) + 1 + 1 + 1 + 1) H.size (by omega)) (cwV 1 hts gX8_feed_X7_addNumber rfl rfl rfl (by decide +kernel) ⟨Nat.le_of_ble_eq_true rfl, Nat.le_of_ble_eq_true rfl⟩) ⟨c_blind, va_recv hKc hPc (ci := 7) (q0 := 0) rfl rfl, c_pre hPc hKc hDc hN⟩ rfl rfl hl.1 rfl (lv_room (Nat.le_of_ble_eq_true rfl)) dX8_feed_44 ⟨Nat.le_of_ble_eq_true rfl, Nat.le_of_ble_eq_true rfl⟩) hS (fun q _ h => hFc q h) hFc (fun u9 t9 H1 locs ht hvm hw hB hz1 hk1 hS => ?_)
    obtain ⟨f_13, hf_x_14, hP1, hK1, hD1⟩ := hB
    rw [ht] at hP1
    have hK1 := va_K.moved hvm.symm hK1
    obtain ⟨hP, hD⟩ := va_join (wr := [(h0, .inr (8, [.ref a1, .ref a2, .ref a3, .ref a4, .ref a5, .ref a6, .ref a7, .ref a8, .ref a9, .int j_faultKind, .int j_horseCount, .int j_tabletCount, .int j_riderCount, .int j_lineLength, .int j_hour]))]) (w1 := [(a1, .inr (7, [.ref b1, .int (nI ((((l9 + 1 + 1 + 1 + 1) + 1 + 1 + 1 + 1) + 1 + 1 + 1 + 1) + 1 + 1 + 1 + 1))])), (b1, .inl (k1, 200, .inl f_13))]) hP hD [1, 2] [0] rfl rfl (by decide) (by decide) hk1 hFc hP1 hD1
    have hK := (hK.sub (tys' := [(k1, .int)]) [0] rfl).app hK1
    generalize H1 = H at hP hS ⊢
    have hK : va_K (dC, dI) vwCl [(k1, .int)] s := hK
    have hP : va_P (dC, dI) vwCl [(h0, .inr (8, [.ref a1, .ref a2, .ref a3, .ref a4, .ref a5, .ref a6, .ref a7, .ref a8, .ref a9, .int j_faultKind, .int j_horseCount, .int j_tabletCount, .int j_riderCount, .int j_lineLength, .int j_hour])), (a1, .inr (7, [.ref b1, .int (nI ((((l9 + 1 + 1 + 1 + 1) + 1 + 1 + 1 + 1) + 1 + 1 + 1 + 1) + 1 + 1 + 1 + 1))])), (b1, .inl (k1, 200, .inl f_13))] H := hP
    have hD : va_D A [(h0, .inr (8, [.ref a1, .ref a2, .ref a3, .ref a4, .ref a5, .ref a6, .ref a7, .ref a8, .ref a9, .int j_faultKind, .int j_horseCount, .int j_tabletCount, .int j_riderCount, .int j_lineLength, .int j_hour])), (a1, .inr (7, [.ref b1, .int (nI ((((l9 + 1 + 1 + 1 + 1) + 1 + 1 + 1 + 1) + 1 + 1 + 1 + 1) + 1 + 1 + 1 + 1))])), (b1, .inl (k1, 200, .inl f_13))] := hD
    refine W.widen (k := 0) (n := 0) (Nat.le_of_ble_eq_true rfl) (Nat.le_of_ble_eq_true rfl) ?_
    refine lv_aload_n hx hb dX8_feed_47 rfl (lv_at hl 0 rfl) ?_
    refine va_get (D := (dC, dI)) (ci := 8) (v := .ref a1) (C := RX8) (T := TX8) (N := 15) hx hb hts hin8 hown hK hP 0 rfl rfl 0 (by decide) (hts (.fieldLink RX8 10 "YamRiders" "tape" "LYamRiders$Tape;") (by decide +kernel)) (fun _ h9 => h9) rfl dX8_feed_48 ?_
    refine lv_iload hx hb dX8_feed_51 (lv_at hl 5 rfl) ?_
    have hPc := hP.sub (ws' := [(a1, .inr (7, [.ref b1, .int (nI ((((l9 + 1 + 1 + 1 + 1) + 1 + 1 + 1 + 1) + 1 + 1 + 1 + 1) + 1 + 1 + 1 + 1))])), (b1, .inl (k1, 200, .inl f_13))]) [1, 2] rfl
    have hDc := hD.sub (ws' := [(a1, .inr (7, [.ref b1, .int (nI ((((l9 + 1 + 1 + 1 + 1) + 1 + 1 + 1 + 1) + 1 + 1 + 1 + 1) + 1 + 1 + 1 + 1))])), (b1, .inl (k1, 200, .inl f_13))]) [1, 2] (by decide) rfl
    have hKc := hK.sub (tys' := [(k1, .int)]) [0] rfl
    have hFc := va_free (wc := [(a1, .inr (7, [.ref b1, .int (nI ((((l9 + 1 + 1 + 1 + 1) + 1 + 1 + 1 + 1) + 1 + 1 + 1 + 1) + 1 + 1 + 1 + 1))])), (b1, .inl (k1, 200, .inl f_13))]) hD hS hA [1, 2] rfl
    refine va_callv (va_runV (As := [.int p4]) (rest := []) ⟨hx, hb, hml, hown, hts⟩ (s_X7_addNumber l dC dI a1 b1 k1 f_13 p4 ((((l9 + 1 + 1 + 1 + 1) + 1 + 1 + 1 + 1) + 1 + 1 + 1 + 1) + 1 + 1 + 1 + 1) H.size (by omega)) (cwV 1 hts gX8_feed_X7_addNumber rfl rfl rfl (by decide +kernel) ⟨Nat.le_of_ble_eq_true rfl, Nat.le_of_ble_eq_true rfl⟩) ⟨c_blind, va_recv hKc hPc (ci := 7) (q0 := 0) rfl rfl, c_pre hPc hKc hDc hN⟩ rfl rfl hl.1 rfl (lv_room (Nat.le_of_ble_eq_true rfl)) dX8_feed_53 ⟨Nat.le_of_ble_eq_true rfl, Nat.le_of_ble_eq_true rfl⟩) hS (fun q _ h => hFc q h) hFc (fun u9 t9 H1 locs ht hvm hw hB hz1 hk1 hS => ?_)
    obtain ⟨f_16, hf_x_17, hP1, hK1, hD1⟩ := hB
    rw [ht] at hP1
    have hK1 := va_K.moved hvm.symm hK1
    obtain ⟨hP, hD⟩ := va_join (wr := [(h0, .inr (8, [.ref a1, .ref a2, .ref a3, .ref a4, .ref a5, .ref a6, .ref a7, .ref a8, .ref a9, .int j_faultKind, .int j_horseCount, .int j_tabletCount, .int j_riderCount, .int j_lineLength, .int j_hour]))]) (w1 := [(a1, .inr (7, [.ref b1, .int (nI (((((l9 + 1 + 1 + 1 + 1) + 1 + 1 + 1 + 1) + 1 + 1 + 1 + 1) + 1 + 1 + 1 + 1) + 1 + 1 + 1 + 1))])), (b1, .inl (k1, 200, .inl f_16))]) hP hD [1, 2] [0] rfl rfl (by decide) (by decide) hk1 hFc hP1 hD1
    have hK := (hK.sub (tys' := [(k1, .int)]) [0] rfl).app hK1
    generalize H1 = H at hP hS ⊢
    have hK : va_K (dC, dI) vwCl [(k1, .int)] s := hK
    have hP : va_P (dC, dI) vwCl [(h0, .inr (8, [.ref a1, .ref a2, .ref a3, .ref a4, .ref a5, .ref a6, .ref a7, .ref a8, .ref a9, .int j_faultKind, .int j_horseCount, .int j_tabletCount, .int j_riderCount, .int j_lineLength, .int j_hour])), (a1, .inr (7, [.ref b1, .int (nI (((((l9 + 1 + 1 + 1 + 1) + 1 + 1 + 1 + 1) + 1 + 1 + 1 + 1) + 1 + 1 + 1 + 1) + 1 + 1 + 1 + 1))])), (b1, .inl (k1, 200, .inl f_16))] H := hP
    have hD : va_D A [(h0, .inr (8, [.ref a1, .ref a2, .ref a3, .ref a4, .ref a5, .ref a6, .ref a7, .ref a8, .ref a9, .int j_faultKind, .int j_horseCount, .int j_tabletCount, .int j_riderCount, .int j_lineLength, .int j_hour])), (a1, .inr (7, [.ref b1, .int (nI (((((l9 + 1 + 1 + 1 + 1) + 1 + 1 + 1 + 1) + 1 + 1 + 1 + 1) + 1 + 1 + 1 + 1) + 1 + 1 + 1 + 1))])), (b1, .inl (k1, 200, .inl f_16))] := hD
    refine W.widen (k := 0) (n := 0) (Nat.le_of_ble_eq_true rfl) (Nat.le_of_ble_eq_true rfl) ?_
    refine lv_aload_n hx hb dX8_feed_56 rfl (lv_at hl 0 rfl) ?_
    refine va_get (D := (dC, dI)) (ci := 8) (v := .ref a1) (C := RX8) (T := TX8) (N := 15) hx hb hts hin8 hown hK hP 0 rfl rfl 0 (by decide) (hts (.fieldLink RX8 10 "YamRiders" "tape" "LYamRiders$Tape;") (by decide +kernel)) (fun _ h9 => h9) rfl dX8_feed_57 ?_
    refine va_getN (D := (dC, dI)) (ci := 7) (v := .int (nI (((((l9 + 1 + 1 + 1 + 1) + 1 + 1 + 1 + 1) + 1 + 1 + 1 + 1) + 1 + 1 + 1 + 1) + 1 + 1 + 1 + 1))) (C := RX7) (T := TX7) (N := 2) hx hb hts hin7 hown hK hP 1 rfl rfl 1 (by decide) (hN.nx (.fieldLinkNest RX8 70 "YamRiders$Tape" "length" "I" "YamRiders") (by decide +kernel)) (fun _ h9 => h9) rfl dX8_feed_60 ?_
    have hP9 := hP.sub (ws' := [(h0, .inr (8, [.ref a1, .ref a2, .ref a3, .ref a4, .ref a5, .ref a6, .ref a7, .ref a8, .ref a9, .int j_faultKind, .int j_horseCount, .int j_tabletCount, .int j_riderCount, .int j_lineLength, .int j_hour])), (a1, .inr (7, [.ref b1, .int (nI (((((l9 + 1 + 1 + 1 + 1) + 1 + 1 + 1 + 1) + 1 + 1 + 1 + 1) + 1 + 1 + 1 + 1) + 1 + 1 + 1 + 1))])), (b1, .inl (k1, 200, .inl f_16))]) [0, 1, 2] rfl
    have hD9 := hD.sub (ws' := [(h0, .inr (8, [.ref a1, .ref a2, .ref a3, .ref a4, .ref a5, .ref a6, .ref a7, .ref a8, .ref a9, .int j_faultKind, .int j_horseCount, .int j_tabletCount, .int j_riderCount, .int j_lineLength, .int j_hour])), (a1, .inr (7, [.ref b1, .int (nI (((((l9 + 1 + 1 + 1 + 1) + 1 + 1 + 1 + 1) + 1 + 1 + 1 + 1) + 1 + 1 + 1 + 1) + 1 + 1 + 1 + 1))])), (b1, .inl (k1, 200, .inl f_16))]) [0, 1, 2] (by decide) rfl
    have hK9 := hK.sub (tys' := []) [] rfl
    refine W.widen (k := 0) (n := 0) (Nat.le_of_ble_eq_true rfl) (Nat.le_of_ble_eq_true rfl) ?_
    exact W.iret (v := nI (((((l9 + 1 + 1 + 1 + 1) + 1 + 1 + 1 + 1) + 1 + 1 + 1 + 1) + 1 + 1 + 1 + 1) + 1 + 1 + 1 + 1)) hx hb hr (fun t9 ht hW => ⟨⟨_, nI (((((l9 + 1 + 1 + 1 + 1) + 1 + 1 + 1 + 1) + 1 + 1 + 1 + 1) + 1 + 1 + 1 + 1) + 1 + 1 + 1 + 1), rfl, rfl, (((((l9 + 1 + 1 + 1 + 1) + 1 + 1 + 1 + 1) + 1 + 1 + 1 + 1) + 1 + 1 + 1 + 1) + 1 + 1 + 1 + 1), f_16, ⟨by omega, Or.inr ⟨by omega, rfl⟩⟩, (Or.inr ⟨by omega, by rw [hf_x_17, hf_x_14, hf_x_11, hf_x_8, hf_x_5]; rfl⟩), by rw [ht]; exact hP9, va_K.moved hW.alike hK9, hD9⟩, hS.F ht⟩) hS.2.2 dX8_feed_63
  · refine lv_iconst (v := (-1)) hx hb dX8_feed_12 (by decide) ?_
    have hP9 := hP.sub (ws' := [(h0, .inr (8, [.ref a1, .ref a2, .ref a3, .ref a4, .ref a5, .ref a6, .ref a7, .ref a8, .ref a9, .int j_faultKind, .int j_horseCount, .int j_tabletCount, .int j_riderCount, .int j_lineLength, .int j_hour])), (a1, .inr (7, [.ref b1, .int (nI l9)])), (b1, .inl (k1, 200, .inl a_b))]) [0, 1, 2] rfl
    have hD9 := hD.sub (ws' := [(h0, .inr (8, [.ref a1, .ref a2, .ref a3, .ref a4, .ref a5, .ref a6, .ref a7, .ref a8, .ref a9, .int j_faultKind, .int j_horseCount, .int j_tabletCount, .int j_riderCount, .int j_lineLength, .int j_hour])), (a1, .inr (7, [.ref b1, .int (nI l9)])), (b1, .inl (k1, 200, .inl a_b))]) [0, 1, 2] (by decide) rfl
    have hK9 := hK.sub (tys' := []) [] rfl
    refine W.widen (k := 0) (n := 0) (Nat.le_of_ble_eq_true rfl) (Nat.le_of_ble_eq_true rfl) ?_
    exact W.iret (v := (-1)) hx hb hr (fun t9 ht hW => ⟨⟨_, (-1), rfl, rfl, l9, a_b, ⟨by omega, Or.inl ⟨rfl, rfl, f20y c_2⟩⟩, (Or.inl ⟨rfl, rfl⟩), by rw [ht]; exact hP9, va_K.moved hW.alike hK9, hD9⟩, hS.F ht⟩) hS.2.2 dX8_feed_13
