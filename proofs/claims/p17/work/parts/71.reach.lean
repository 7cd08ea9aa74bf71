theorem ixN {u v n : Nat} (h : 12 * u + v < n) (hn : n < 2 ^ 31) : vp_in (12 * nI u + nI v) n := by
  rw [show (12 : Int32) = nI 12 from rfl, pk_mul, nI_add]
  exact vp_in_nI h hn
theorem ixc0 {u : Nat} (hu : u < 60) : (12 * nI u).toNatClampNeg = 12 * u := by
  rw [show (12 : Int32) = nI 12 from rfl, pk_mul, nI_clamp (by omega)]

set_option maxHeartbeats 4000000 in
set_option maxRecDepth 100000 in
theorem n_X9_roadOf (l : Launch) (dC : Nat → ClassId) (dI : Nat → Nat → Nat) (h0 : Nat) (m1 : Nat) (m5 : Nat) (m6 : Nat) (m7 : Nat) (m15 : Nat) (m16 : Nat) (m17 : Nat) (m18 : Nat) (m19 : Nat) (m20 : Nat) (m22 : Nat) (m23 : Nat) (m24 : Nat) (m25 : Nat) (m26 : Nat) (m27 : Nat) (m28 : Nat) (m29 : Nat) (m30 : Nat) (m31 : Nat) (m32 : Nat) (m33 : Nat) (m34 : Nat) (m37 : Nat) (m38 : Nat) (m39 : Nat) (m40 : Nat) (m41 : Nat) (m42 : Nat) (m43 : Nat) (m44 : Nat) (m45 : Nat) (m46 : Nat) (i_thrown : Int32) (i_length : Int32) (i_size : Int32) (i_p : Int32) (i_token : Int32) (i_at : Int32) (i_number : Int32) (i_fault : Int32) (i_faultAt : Int32) (i_hour : Int32) (i_horses : Int32) (i_tablets : Int32) (i_riders : Int32) (i_word : Int64) (k_hours : ClassId) (a_hours : Nat → Int32) (u9 : Nat) (v9 : Nat) (sz : Nat) (hu9 : u9 < 12) (hv9 : v9 < 12) : Met l yX9_roadOf wsX9_roadOf ({ frames := 0, cells := 0, slots := 0, locals := 0 }) (va_Pc [.ref h0, .int (nI u9), .int (nI v9)] (cP dC dI [(h0, .inr (9, [.int i_thrown, .ref m1, .int i_length, .int i_size, .int i_p, .ref m5, .ref m6, .ref m7, .int i_token, .int i_at, .int i_number, .int i_fault, .int i_faultAt, .int i_hour, .long i_word, .ref m15, .ref m16, .ref m17, .ref m18, .ref m19, .ref m20, .int i_horses, .ref m22, .ref m23, .ref m24, .ref m25, .ref m26, .ref m27, .ref m28, .ref m29, .ref m30, .ref m31, .ref m32, .ref m33, .ref m34, .int i_tablets, .int i_riders, .ref m37, .ref m38, .ref m39, .ref m40, .ref m41, .ref m42, .ref m43, .ref m44, .ref m45, .ref m46])), (m15, .inl (k_hours, 144, .inl a_hours))] [(k_hours, .int)] sz)) (vp_Si (fun r => r = a_hours (12 * u9 + v9))) 0 0 (fun _ => False) := by
  refine Met.ofW (cc := cX9_roadOf) (maxL := 3) (ret := (some .int)) (by decide) rfl ?_
  intro p e s m args below meth c s₁ B hml hv
  obtain ⟨rfl, hsz, hP, hK, hD0, hN⟩ := hv
  have hx := B.exec
  have hb := B.bytes
  have hr := B.returns
  have hts := atoms_spec (ws := wsX9_roadOf) B.pre
  have hown : s.vm.findClass RX9 = some m.cls := findClass_of_methodNamed B.named
  have hlocks := B.notSynchronized
  subst hsz
  have hin9 : ∀ w ∈ u_ws RX9 TX9 47, w ∈ wsX9_roadOf := by decide +kernel
  have hD := hD0
  have hP : va_P (dC, dI) vwCl [(h0, .inr (9, [.int i_thrown, .ref m1, .int i_length, .int i_size, .int i_p, .ref m5, .ref m6, .ref m7, .int i_token, .int i_at, .int i_number, .int i_fault, .int i_faultAt, .int i_hour, .long i_word, .ref m15, .ref m16, .ref m17, .ref m18, .ref m19, .ref m20, .int i_horses, .ref m22, .ref m23, .ref m24, .ref m25, .ref m26, .ref m27, .ref m28, .ref m29, .ref m30, .ref m31, .ref m32, .ref m33, .ref m34, .int i_tablets, .int i_riders, .ref m37, .ref m38, .ref m39, .ref m40, .ref m41, .ref m42, .ref m43, .ref m44, .ref m45, .ref m46])), (m15, .inl (k_hours, 144, .inl a_hours))] s.heap := hP
  have hl := lv_entry ([.ref h0, .int (nI u9), .int (nI v9)]) (n := 3) (Nat.le_of_ble_eq_true rfl)
  rw [lg_entry_eq]
  generalize (lg_sl ([.ref h0, .int (nI u9), .int (nI v9)]) ++ List.replicate (3 - (lg_sl ([.ref h0, .int (nI u9), .int (nI v9)])).length) Slot.unset).toArray = ls at hl ⊢
  have hl : lv_has ls 3 [(0, .ref h0), (1, .int (nI u9)), (2, .int (nI v9))] := hl
  refine lv_aload_n hx hb dX9_roadOf_0 rfl (lv_at hl 0 rfl) ?_
  refine va_get (D := (dC, dI)) (ci := 9) (v := .ref m15) (C := RX9) (T := TX9) (N := 47) hx hb hts hin9 hown hK hP 0 rfl rfl 15 (by decide) (hts (.fieldLink RX9 24 "YamRidersModel" "hours" "[I") (by decide +kernel)) (fun _ h9 => h9) rfl dX9_roadOf_1 ?_
  refine lv_bipush (v := 12) hx hb dX9_roadOf_4 (by decide) ?_
  refine lv_iload_n hx hb dX9_roadOf_6 rfl (lv_at hl 1 rfl) ?_
  refine lv_imul hx hb dX9_roadOf_7 ?_
  refine lv_iload_n hx hb dX9_roadOf_8 rfl (lv_at hl 2 rfl) ?_
  refine lv_iadd hx hb dX9_roadOf_9 ?_
  refine va_iald hx hb hK hP 1 0 rfl rfl (ixN (u := u9) (v := v9) (by omega) (by decide)) dX9_roadOf_10 ?_
  refine lv_topi (fun v_1 ev_1 => ?_)
  obtain rfl : v_1 = a_hours (12 * u9 + v9) := ev_1.trans (by rw [(ixc (by omega) (by omega))])
  exact W.iret (v := a_hours (12 * u9 + v9)) hx hb hr (fun t9 ht hW => ⟨_, rfl, rfl, ht⟩) (fun q h => nomatch h) dX9_roadOf_11

set_option maxHeartbeats 4000000 in
set_option maxRecDepth 100000 in
theorem n_X9_timeOf (l : Launch) (dC : Nat → ClassId) (dI : Nat → Nat → Nat) (h0 : Nat) (m1 : Nat) (m5 : Nat) (m6 : Nat) (m7 : Nat) (m15 : Nat) (m16 : Nat) (m17 : Nat) (m18 : Nat) (m19 : Nat) (m20 : Nat) (m22 : Nat) (m23 : Nat) (m24 : Nat) (m25 : Nat) (m26 : Nat) (m27 : Nat) (m28 : Nat) (m29 : Nat) (m30 : Nat) (m31 : Nat) (m32 : Nat) (m33 : Nat) (m34 : Nat) (m37 : Nat) (m38 : Nat) (m39 : Nat) (m40 : Nat) (m41 : Nat) (m42 : Nat) (m43 : Nat) (m44 : Nat) (m45 : Nat) (m46 : Nat) (i_thrown : Int32) (i_length : Int32) (i_size : Int32) (i_p : Int32) (i_token : Int32) (i_at : Int32) (i_number : Int32) (i_fault : Int32) (i_faultAt : Int32) (i_hour : Int32) (i_horses : Int32) (i_tablets : Int32) (i_riders : Int32) (i_word : Int64) (k_hours : ClassId) (k_snow : ClassId) (a_hours : Nat → Int32) (a_snow : Nat → Int32) (u9 : Nat) (v9 : Nat) (sz : Nat) (hu9 : u9 < 12) (hv9 : v9 < 12) : Met l yX9_timeOf wsX9_timeOf ({ frames := 0, cells := 0, slots := 0, locals := 0 }) (va_Pc [.ref h0, .int (nI u9), .int (nI v9)] (cP dC dI [(h0, .inr (9, [.int i_thrown, .ref m1, .int i_length, .int i_size, .int i_p, .ref m5, .ref m6, .ref m7, .int i_token, .int i_at, .int i_number, .int i_fault, .int i_faultAt, .int i_hour, .long i_word, .ref m15, .ref m16, .ref m17, .ref m18, .ref m19, .ref m20, .int i_horses, .ref m22, .ref m23, .ref m24, .ref m25, .ref m26, .ref m27, .ref m28, .ref m29, .ref m30, .ref m31, .ref m32, .ref m33, .ref m34, .int i_tablets, .int i_riders, .ref m37, .ref m38, .ref m39, .ref m40, .ref m41, .ref m42, .ref m43, .ref m44, .ref m45, .ref m46])), (m15, .inl (k_hours, 144, .inl a_hours)), (m16, .inl (k_snow, 144, .inl a_snow))] [(k_hours, .int), (k_snow, .int)] sz)) (vp_Si (fun r => r = a_hours (12 * u9 + v9) + a_snow (12 * u9 + v9))) 0 0 (fun _ => False) := by
  refine Met.ofW (cc := cX9_timeOf) (maxL := 3) (ret := (some .int)) (by decide) rfl ?_
  intro p e s m args below meth c s₁ B hml hv
  obtain ⟨rfl, hsz, hP, hK, hD0, hN⟩ := hv
  have hx := B.exec
  have hb := B.bytes
  have hr := B.returns
  have hts := atoms_spec (ws := wsX9_timeOf) B.pre
  have hown : s.vm.findClass RX9 = some m.cls := findClass_of_methodNamed B.named
  have hlocks := B.notSynchronized
  subst hsz
  have hin9 : ∀ w ∈ u_ws RX9 TX9 47, w ∈ wsX9_timeOf := by decide +kernel
  have hD := hD0
  have hP : va_P (dC, dI) vwCl [(h0, .inr (9, [.int i_thrown, .ref m1, .int i_length, .int i_size, .int i_p, .ref m5, .ref m6, .ref m7, .int i_token, .int i_at, .int i_number, .int i_fault, .int i_faultAt, .int i_hour, .long i_word, .ref m15, .ref m16, .ref m17, .ref m18, .ref m19, .ref m20, .int i_horses, .ref m22, .ref m23, .ref m24, .ref m25, .ref m26, .ref m27, .ref m28, .ref m29, .ref m30, .ref m31, .ref m32, .ref m33, .ref m34, .int i_tablets, .int i_riders, .ref m37, .ref m38, .ref m39, .ref m40, .ref m41, .ref m42, .ref m43, .ref m44, .ref m45, .ref m46])), (m15, .inl (k_hours, 144, .inl a_hours)), (m16, .inl (k_snow, 144, .inl a_snow))] s.heap := hP
  have hl := lv_entry ([.ref h0, .int (nI u9), .int (nI v9)]) (n := 3) (Nat.le_of_ble_eq_true rfl)
  rw [lg_entry_eq]
  generalize (lg_sl ([.ref h0, .int (nI u9), .int (nI v9)]) ++ List.replicate (3 - (lg_sl ([.ref h0, .int (nI u9), .int (nI v9)])).length) Slot.unset).toArray = ls at hl ⊢
  have hl : lv_has ls 3 [(0, .ref h0), (1, .int (nI u9)), (2, .int (nI v9))] := hl
  refine lv_aload_n hx hb dX9_timeOf_0 rfl (lv_at hl 0 rfl) ?_
  refine va_get (D := (dC, dI)) (ci := 9) (v := .ref m15) (C := RX9) (T := TX9) (N := 47) hx hb hts hin9 hown hK hP 0 rfl rfl 15 (by decide) (hts (.fieldLink RX9 24 "YamRidersModel" "hours" "[I") (by decide +kernel)) (fun _ h9 => h9) rfl dX9_timeOf_1 ?_
  refine lv_bipush (v := 12) hx hb dX9_timeOf_4 (by decide) ?_
  refine lv_iload_n hx hb dX9_timeOf_6 rfl (lv_at hl 1 rfl) ?_
  refine lv_imul hx hb dX9_timeOf_7 ?_
  refine lv_iload_n hx hb dX9_timeOf_8 rfl (lv_at hl 2 rfl) ?_
  refine lv_iadd hx hb dX9_timeOf_9 ?_
  refine va_iald hx hb hK hP 1 0 rfl rfl (ixN (u := u9) (v := v9) (by omega) (by decide)) dX9_timeOf_10 ?_
  refine lv_topi (fun v_1 ev_1 => ?_)
  obtain rfl : v_1 = a_hours (12 * u9 + v9) := ev_1.trans (by rw [(ixc (by omega) (by omega))])
  refine lv_aload_n hx hb dX9_timeOf_11 rfl (lv_at hl 0 rfl) ?_
  refine va_get (D := (dC, dI)) (ci := 9) (v := .ref m16) (C := RX9) (T := TX9) (N := 47) hx hb hts hin9 hown hK hP 0 rfl rfl 16 (by decide) (hts (.fieldLink RX9 27 "YamRidersModel" "snow" "[I") (by decide +kernel)) (fun _ h9 => h9) rfl dX9_timeOf_12 ?_
  refine lv_bipush (v := 12) hx hb dX9_timeOf_15 (by decide) ?_
  refine lv_iload_n hx hb dX9_timeOf_17 rfl (lv_at hl 1 rfl) ?_
  refine lv_imul hx hb dX9_timeOf_18 ?_
  refine lv_iload_n hx hb dX9_timeOf_19 rfl (lv_at hl 2 rfl) ?_
  refine lv_iadd hx hb dX9_timeOf_20 ?_
  refine va_iald hx hb hK hP 2 1 rfl rfl (ixN (u := u9) (v := v9) (by omega) (by decide)) dX9_timeOf_21 ?_
  refine lv_topi (fun v_2 ev_2 => ?_)
  obtain rfl : v_2 = a_snow (12 * u9 + v9) := ev_2.trans (by rw [(ixc (by omega) (by omega))])
  refine lv_iadd hx hb dX9_timeOf_22 ?_
  exact W.iret (v := (a_hours (12 * u9 + v9)) + (a_snow (12 * u9 + v9))) hx hb hr (fun t9 ht hW => ⟨_, rfl, rfl, ht⟩) (fun q h => nomatch h) dX9_timeOf_23

set_option maxHeartbeats 4000000 in
set_option maxRecDepth 100000 in
theorem n_X9_reach (l : Launch) (dC : Nat → ClassId) (dI : Nat → Nat → Nat) (h0 : Nat) (m1 : Nat) (m5 : Nat) (m6 : Nat) (m7 : Nat) (m15 : Nat) (m16 : Nat) (m17 : Nat) (m18 : Nat) (m19 : Nat) (m20 : Nat) (m22 : Nat) (m23 : Nat) (m24 : Nat) (m25 : Nat) (m26 : Nat) (m27 : Nat) (m28 : Nat) (m29 : Nat) (m30 : Nat) (m31 : Nat) (m32 : Nat) (m33 : Nat) (m34 : Nat) (m37 : Nat) (m38 : Nat) (m39 : Nat) (m40 : Nat) (m41 : Nat) (m42 : Nat) (m43 : Nat) (m44 : Nat) (m45 : Nat) (m46 : Nat) (i_thrown : Int32) (i_length : Int32) (i_size : Int32) (i_p : Int32) (i_token : Int32) (i_at : Int32) (i_number : Int32) (i_fault : Int32) (i_faultAt : Int32) (i_hour : Int32) (i_horses : Int32) (i_tablets : Int32) (i_riders : Int32) (i_word : Int64) (k_hours : ClassId) (k_snow : ClassId) (k_least : ClassId) (a_hours : Nat → Int32) (a_snow : Nat → Int32) (a_least : Nat → Int32) (to9 : Nat) (sz : Nat) (hto9 : to9 < 12) (hRh : Rng a_hours) (hRs : Rng a_snow) : Met l yX9_reach wsX9_reach ({ frames := 1, cells := 0, slots := 0, locals := 22 }) (va_Pc [.ref h0, .int (nI to9)] (cP dC dI [(h0, .inr (9, [.int i_thrown, .ref m1, .int i_length, .int i_size, .int i_p, .ref m5, .ref m6, .ref m7, .int i_token, .int i_at, .int i_number, .int i_fault, .int i_faultAt, .int i_hour, .long i_word, .ref m15, .ref m16, .ref m17, .ref m18, .ref m19, .ref m20, .int i_horses, .ref m22, .ref m23, .ref m24, .ref m25, .ref m26, .ref m27, .ref m28, .ref m29, .ref m30, .ref m31, .ref m32, .ref m33, .ref m34, .int i_tablets, .int i_riders, .ref m37, .ref m38, .ref m39, .ref m40, .ref m41, .ref m42, .ref m43, .ref m44, .ref m45, .ref m46])), (m15, .inl (k_hours, 144, .inl a_hours)), (m16, .inl (k_snow, 144, .inl a_snow)), (m17, .inl (k_least, 12, .inl a_least))] [(k_hours, .int), (k_snow, .int), (k_least, .int)] sz)) (va_Qv (fun (_ : Unit) => True) (fun (_ : Unit) t9 => ∃ (f2 : Nat → Int32), (L1 a_hours a_snow to9 f2 ∧ FXa a_hours a_snow f2) ∧ cQ dC dI [(h0, .inr (9, [.int i_thrown, .ref m1, .int i_length, .int i_size, .int i_p, .ref m5, .ref m6, .ref m7, .int i_token, .int i_at, .int i_number, .int i_fault, .int i_faultAt, .int i_hour, .long i_word, .ref m15, .ref m16, .ref m17, .ref m18, .ref m19, .ref m20, .int i_horses, .ref m22, .ref m23, .ref m24, .ref m25, .ref m26, .ref m27, .ref m28, .ref m29, .ref m30, .ref m31, .ref m32, .ref m33, .ref m34, .int i_tablets, .int i_riders, .ref m37, .ref m38, .ref m39, .ref m40, .ref m41, .ref m42, .ref m43, .ref m44, .ref m45, .ref m46])), (m15, .inl (k_hours, 144, .inl a_hours)), (m16, .inl (k_snow, 144, .inl a_snow)), (m17, .inl (k_least, 12, .inl f2))] [] (va_A [(h0, .inr (9, [.int i_thrown, .ref m1, .int i_length, .int i_size, .int i_p, .ref m5, .ref m6, .ref m7, .int i_token, .int i_at, .int i_number, .int i_fault, .int i_faultAt, .int i_hour, .long i_word, .ref m15, .ref m16, .ref m17, .ref m18, .ref m19, .ref m20, .int i_horses, .ref m22, .ref m23, .ref m24, .ref m25, .ref m26, .ref m27, .ref m28, .ref m29, .ref m30, .ref m31, .ref m32, .ref m33, .ref m34, .int i_tablets, .int i_riders, .ref m37, .ref m38, .ref m39, .ref m40, .ref m41, .ref m42, .ref m43, .ref m44, .ref m45, .ref m46])), (m15, .inl (k_hours, 144, .inl a_hours)), (m16, .inl (k_snow, 144, .inl a_snow)), (m17, .inl (k_least, 12, .inl a_least))] sz) t9) (va_A [(h0, .inr (9, [.int i_thrown, .ref m1, .int i_length, .int i_size, .int i_p, .ref m5, .ref m6, .ref m7, .int i_token, .int i_at, .int i_number, .int i_fault, .int i_faultAt, .int i_hour, .long i_word, .ref m15, .ref m16, .ref m17, .ref m18, .ref m19, .ref m20, .int i_horses, .ref m22, .ref m23, .ref m24, .ref m25, .ref m26, .ref m27, .ref m28, .ref m29, .ref m30, .ref m31, .ref m32, .ref m33, .ref m34, .int i_tablets, .int i_riders, .ref m37, .ref m38, .ref m39, .ref m40, .ref m41, .ref m42, .ref m43, .ref m44, .ref m45, .ref m46])), (m15, .inl (k_hours, 144, .inl a_hours)), (m16, .inl (k_snow, 144, .inl a_snow)), (m17, .inl (k_least, 12, .inl a_least))] sz)) 0 0 (va_A [(h0, .inr (9, [.int i_thrown, .ref m1, .int i_length, .int i_size, .int i_p, .ref m5, .ref m6, .ref m7, .int i_token, .int i_at, .int i_number, .int i_fault, .int i_faultAt, .int i_hour, .long i_word, .ref m15, .ref m16, .ref m17, .ref m18, .ref m19, .ref m20, .int i_horses, .ref m22, .ref m23, .ref m24, .ref m25, .ref m26, .ref m27, .ref m28, .ref m29, .ref m30, .ref m31, .ref m32, .ref m33, .ref m34, .int i_tablets, .int i_riders, .ref m37, .ref m38, .ref m39, .ref m40, .ref m41, .ref m42, .ref m43, .ref m44, .ref m45, .ref m46])), (m15, .inl (k_hours, 144, .inl a_hours)), (m16, .inl (k_snow, 144, .inl a_snow)), (m17, .inl (k_least, 12, .inl a_least))] sz) := by
  refine Met.ofW (cc := cX9_reach) (maxL := 5) (ret := none) (by decide) rfl ?_
  intro p e s m args below meth c s₁ B hml hv
  obtain ⟨rfl, hsz, hP, hK, hD0, hN⟩ := hv
  have hx := B.exec
  have hb := B.bytes
  have hr := B.returns
  have hts := atoms_spec (ws := wsX9_reach) B.pre
  have hown : s.vm.findClass RX9 = some m.cls := findClass_of_methodNamed B.named
  have hlocks := B.notSynchronized
  subst hsz
  have hin9 : ∀ w ∈ u_ws RX9 TX9 47, w ∈ wsX9_reach := by decide +kernel
  have hD := hD0.self (sz := s.heap.size)
  generalize hAe : va_A [(h0, .inr (9, [.int i_thrown, .ref m1, .int i_length, .int i_size, .int i_p, .ref m5, .ref m6, .ref m7, .int i_token, .int i_at, .int i_number, .int i_fault, .int i_faultAt, .int i_hour, .long i_word, .ref m15, .ref m16, .ref m17, .ref m18, .ref m19, .ref m20, .int i_horses, .ref m22, .ref m23, .ref m24, .ref m25, .ref m26, .ref m27, .ref m28, .ref m29, .ref m30, .ref m31, .ref m32, .ref m33, .ref m34, .int i_tablets, .int i_riders, .ref m37, .ref m38, .ref m39, .ref m40, .ref m41, .ref m42, .ref m43, .ref m44, .ref m45, .ref m46])), (m15, .inl (k_hours, 144, .inl a_hours)), (m16, .inl (k_snow, 144, .inl a_snow)), (m17, .inl (k_least, 12, .inl a_least))] s.heap.size = A at hD ⊢
  have hA : ∀ q : Nat, s.heap.size ≤ q → A q := fun q h => by rw [← hAe]; exact Or.inr h
  have hS : va_S A s.heap s.heap [] := va_S.rf
  have hP : va_P (dC, dI) vwCl [(h0, .inr (9, [.int i_thrown, .ref m1, .int i_length, .int i_size, .int i_p, .ref m5, .ref m6, .ref m7, .int i_token, .int i_at, .int i_number, .int i_fault, .int i_faultAt, .int i_hour, .long i_word, .ref m15, .ref m16, .ref m17, .ref m18, .ref m19, .ref m20, .int i_horses, .ref m22, .ref m23, .ref m24, .ref m25, .ref m26, .ref m27, .ref m28, .ref m29, .ref m30, .ref m31, .ref m32, .ref m33, .ref m34, .int i_tablets, .int i_riders, .ref m37, .ref m38, .ref m39, .ref m40, .ref m41, .ref m42, .ref m43, .ref m44, .ref m45, .ref m46])), (m15, .inl (k_hours, 144, .inl a_hours)), (m16, .inl (k_snow, 144, .inl a_snow)), (m17, .inl (k_least, 12, .inl a_least))] s.heap := hP
  have hl := lv_entry ([.ref h0, .int (nI to9)]) (n := 5) (Nat.le_of_ble_eq_true rfl)
  rw [lg_entry_eq]
  generalize (lg_sl ([.ref h0, .int (nI to9)]) ++ List.replicate (5 - (lg_sl ([.ref h0, .int (nI to9)])).length) Slot.unset).toArray = ls at hl ⊢
  have hl : lv_has ls 5 [(0, .ref h0), (1, .int (nI to9))] := hl
  refine lv_iconst (v := 0) hx hb dX9_reach_0 (by decide) ?_
  refine lv_istore_n (lv' := [(2, .int 0), (0, .ref h0), (1, .int (nI to9))]) hx hb dX9_reach_1 rfl hl (by decide) rfl (fun ls hl => ?_)
  have HL_i : ∀ (n_i i : Nat) (g9 : Nat → Int32), i ≤ 12 → 12 + 1 ≤ i + n_i → (i0 to9 i g9) → ∀ (H : Heap) (locs : List Loc), va_P (dC, dI) vwCl [(h0, .inr (9, [.int i_thrown, .ref m1, .int i_length, .int i_size, .int i_p, .ref m5, .ref m6, .ref m7, .int i_token, .int i_at, .int i_number, .int i_fault, .int i_faultAt, .int i_hour, .long i_word, .ref m15, .ref m16, .ref m17, .ref m18, .ref m19, .ref m20, .int i_horses, .ref m22, .ref m23, .ref m24, .ref m25, .ref m26, .ref m27, .ref m28, .ref m29, .ref m30, .ref m31, .ref m32, .ref m33, .ref m34, .int i_tablets, .int i_riders, .ref m37, .ref m38, .ref m39, .ref m40, .ref m41, .ref m42, .ref m43, .ref m44, .ref m45, .ref m46])), (m15, .inl (k_hours, 144, .inl a_hours)), (m16, .inl (k_snow, 144, .inl a_snow)), (m17, .inl (k_least, 12, .inl g9))] H → va_D A [(h0, .inr (9, [.int i_thrown, .ref m1, .int i_length, .int i_size, .int i_p, .ref m5, .ref m6, .ref m7, .int i_token, .int i_at, .int i_number, .int i_fault, .int i_faultAt, .int i_hour, .long i_word, .ref m15, .ref m16, .ref m17, .ref m18, .ref m19, .ref m20, .int i_horses, .ref m22, .ref m23, .ref m24, .ref m25, .ref m26, .ref m27, .ref m28, .ref m29, .ref m30, .ref m31, .ref m32, .ref m33, .ref m34, .int i_tablets, .int i_riders, .ref m37, .ref m38, .ref m39, .ref m40, .ref m41, .ref m42, .ref m43, .ref m44, .ref m45, .ref m46])), (m15, .inl (k_hours, 144, .inl a_hours)), (m16, .inl (k_snow, 144, .inl a_snow)), (m17, .inl (k_least, 12, .inl g9))] → va_S A s.heap H locs → ∀ ls : Array Slot, lv_has ls 5 [(0, .ref h0), (1, .int (nI to9)), (2, .int (nI i))] → W p l e (headSpec wsX9_reach ({ frames := 1, cells := 0, slots := 0, locals := 22 })).room s m ([.ref h0, .int (nI to9)]).toArray below meth c H locs 0 0 (MQ below (va_Qv (fun (_ : Unit) => True) (fun (_ : Unit) t9 => ∃ (f2 : Nat → Int32), (L1 a_hours a_snow to9 f2 ∧ FXa a_hours a_snow f2) ∧ cQ dC dI [(h0, .inr (9, [.int i_thrown, .ref m1, .int i_length, .int i_size, .int i_p, .ref m5, .ref m6, .ref m7, .int i_token, .int i_at, .int i_number, .int i_fault, .int i_faultAt, .int i_hour, .long i_word, .ref m15, .ref m16, .ref m17, .ref m18, .ref m19, .ref m20, .int i_horses, .ref m22, .ref m23, .ref m24, .ref m25, .ref m26, .ref m27, .ref m28, .ref m29, .ref m30, .ref m31, .ref m32, .ref m33, .ref m34, .int i_tablets, .int i_riders, .ref m37, .ref m38, .ref m39, .ref m40, .ref m41, .ref m42, .ref m43, .ref m44, .ref m45, .ref m46])), (m15, .inl (k_hours, 144, .inl a_hours)), (m16, .inl (k_snow, 144, .inl a_snow)), (m17, .inl (k_least, 12, .inl f2))] [] A t9) A) ([.ref h0, .int (nI to9)]).toArray s 0 0 A) (F0 m 2 ls []) := by
    intro n_i
    induction n_i with
    | zero => intro i g9 h1 h2; exact absurd h2 (by omega)
    | succ n_i ih_i =>
      intro i g9 hk_i hn_i hi9 H locs hP hD hS ls hl
      refine lv_iload_n hx hb dX9_reach_2 rfl (lv_at hl 2 rfl) ?_
      refine lv_bipush (v := 12) hx hb dX9_reach_3 (by decide) ?_
      refine lv_icmp_ge (tgt := 31) hx hb dX9_reach_5 (by decide) (fun c_1 => ?_) (fun c_1 => ?_)
      · have hke_i : i = 12 := by
          rcases Nat.lt_or_ge i 12 with q | q
          · exact absurd c_1 (nI_ge q (by decide))
          · omega
        refine lv_iconst (v := 1) hx hb dX9_reach_31 (by decide) ?_
        refine lv_istore_n (lv' := [(2, .int 1), (0, .ref h0), (1, .int (nI to9))]) hx hb dX9_reach_32 rfl hl (by decide) rfl (fun ls hl => ?_)
        have HL_a : ∀ (n_a : Nat) (g8 : Nat → Int32) (mo8 : Int32), sumG g8 12 + 1 + wb mo8 ≤ n_a → (L1 a_hours a_snow to9 g8) → ((mo8 = 0 ∧ FXa a_hours a_snow g8) ∨ mo8 = 1) → ∀ (H : Heap) (locs : List Loc), va_P (dC, dI) vwCl [(h0, .inr (9, [.int i_thrown, .ref m1, .int i_length, .int i_size, .int i_p, .ref m5, .ref m6, .ref m7, .int i_token, .int i_at, .int i_number, .int i_fault, .int i_faultAt, .int i_hour, .long i_word, .ref m15, .ref m16, .ref m17, .ref m18, .ref m19, .ref m20, .int i_horses, .ref m22, .ref m23, .ref m24, .ref m25, .ref m26, .ref m27, .ref m28, .ref m29, .ref m30, .ref m31, .ref m32, .ref m33, .ref m34, .int i_tablets, .int i_riders, .ref m37, .ref m38, .ref m39, .ref m40, .ref m41, .ref m42, .ref m43, .ref m44, .ref m45, .ref m46])), (m15, .inl (k_hours, 144, .inl a_hours)), (m16, .inl (k_snow, 144, .inl a_snow)), (m17, .inl (k_least, 12, .inl g8))] H → va_D A [(h0, .inr (9, [.int i_thrown, .ref m1, .int i_length, .int i_size, .int i_p, .ref m5, .ref m6, .ref m7, .int i_token, .int i_at, .int i_number, .int i_fault, .int i_faultAt, .int i_hour, .long i_word, .ref m15, .ref m16, .ref m17, .ref m18, .ref m19, .ref m20, .int i_horses, .ref m22, .ref m23, .ref m24, .ref m25, .ref m26, .ref m27, .ref m28, .ref m29, .ref m30, .ref m31, .ref m32, .ref m33, .ref m34, .int i_tablets, .int i_riders, .ref m37, .ref m38, .ref m39, .ref m40, .ref m41, .ref m42, .ref m43, .ref m44, .ref m45, .ref m46])), (m15, .inl (k_hours, 144, .inl a_hours)), (m16, .inl (k_snow, 144, .inl a_snow)), (m17, .inl (k_least, 12, .inl g8))] → va_S A s.heap H locs → ∀ ls : Array Slot, lv_has ls 5 [(0, .ref h0), (1, .int (nI to9)), (2, .int mo8)] → W p l e (headSpec wsX9_reach ({ frames := 1, cells := 0, slots := 0, locals := 22 })).room s m ([.ref h0, .int (nI to9)]).toArray below meth c H locs 0 0 (MQ below (va_Qv (fun (_ : Unit) => True) (fun (_ : Unit) t9 => ∃ (f2 : Nat → Int32), (L1 a_hours a_snow to9 f2 ∧ FXa a_hours a_snow f2) ∧ cQ dC dI [(h0, .inr (9, [.int i_thrown, .ref m1, .int i_length, .int i_size, .int i_p, .ref m5, .ref m6, .ref m7, .int i_token, .int i_at, .int i_number, .int i_fault, .int i_faultAt, .int i_hour, .long i_word, .ref m15, .ref m16, .ref m17, .ref m18, .ref m19, .ref m20, .int i_horses, .ref m22, .ref m23, .ref m24, .ref m25, .ref m26, .ref m27, .ref m28, .ref m29, .ref m30, .ref m31, .ref m32, .ref m33, .ref m34, .int i_tablets, .int i_riders, .ref m37, .ref m38, .ref m39, .ref m40, .ref m41, .ref m42, .ref m43, .ref m44, .ref m45, .ref m46])), (m15, .inl (k_hours, 144, .inl a_hours)), (m16, .inl (k_snow, 144, .inl a_snow)), (m17, .inl (k_least, 12, .inl f2))] [] A t9) A) ([.ref h0, .int (nI to9)]).toArray s 0 0 A) (F0 m 33 ls []) := by
          intro n_a
          induction n_a with
          | zero => intro g8 mo8 hfu hL8 hX8; exact absurd hfu (by omega)
          | succ n_a ih_a =>
            intro g8 mo8 hfu_a hL8 hX8 H locs hP hD hS ls hl
            refine lv_iload_n hx hb dX9_reach_33 rfl (lv_at hl 2 rfl) ?_
            refine lv_if_eq (tgt := 132) hx hb dX9_reach_34 (by decide) (fun c_2 => ?_) (fun c_2 => ?_)
            · have hP9 := hP.sub (ws' := [(h0, .inr (9, [.int i_thrown, .ref m1, .int i_length, .int i_size, .int i_p, .ref m5, .ref m6, .ref m7, .int i_token, .int i_at, .int i_number, .int i_fault, .int i_faultAt, .int i_hour, .long i_word, .ref m15, .ref m16, .ref m17, .ref m18, .ref m19, .ref m20, .int i_horses, .ref m22, .ref m23, .ref m24, .ref m25, .ref m26, .ref m27, .ref m28, .ref m29, .ref m30, .ref m31, .ref m32, .ref m33, .ref m34, .int i_tablets, .int i_riders, .ref m37, .ref m38, .ref m39, .ref m40, .ref m41, .ref m42, .ref m43, .ref m44, .ref m45, .ref m46])), (m15, .inl (k_hours, 144, .inl a_hours)), (m16, .inl (k_snow, 144, .inl a_snow)), (m17, .inl (k_least, 12, .inl g8))]) [0, 1, 2, 3] rfl
              have hD9 := hD.sub (ws' := [(h0, .inr (9, [.int i_thrown, .ref m1, .int i_length, .int i_size, .int i_p, .ref m5, .ref m6, .ref m7, .int i_token, .int i_at, .int i_number, .int i_fault, .int i_faultAt, .int i_hour, .long i_word, .ref m15, .ref m16, .ref m17, .ref m18, .ref m19, .ref m20, .int i_horses, .ref m22, .ref m23, .ref m24, .ref m25, .ref m26, .ref m27, .ref m28, .ref m29, .ref m30, .ref m31, .ref m32, .ref m33, .ref m34, .int i_tablets, .int i_riders, .ref m37, .ref m38, .ref m39, .ref m40, .ref m41, .ref m42, .ref m43, .ref m44, .ref m45, .ref m46])), (m15, .inl (k_hours, 144, .inl a_hours)), (m16, .inl (k_snow, 144, .inl a_snow)), (m17, .inl (k_least, 12, .inl g8))]) [0, 1, 2, 3] (by decide) rfl
              have hK9 := hK.sub (tys' := []) [] rfl
              refine W.widen (k := 0) (n := 0) (Nat.le_of_ble_eq_true rfl) (Nat.le_of_ble_eq_true rfl) ?_
              exact W.vret hx hb hr (fun t9 ht hW => ⟨⟨(), rfl, trivial, g8, ⟨hL8, hX8.elim (fun q => q.2) (fun q => absurd (q.symm.trans c_2) (by decide))⟩, by rw [ht]; exact hP9, va_K.moved hW.alike hK9, hD9⟩, hS.F ht⟩) hS.2.2 dX9_reach_132
            · refine lv_iconst (v := 0) hx hb dX9_reach_37 (by decide) ?_
              refine lv_istore_n (lv' := [(2, .int 0), (0, .ref h0), (1, .int (nI to9))]) hx hb dX9_reach_38 rfl hl (by decide) rfl (fun ls hl => ?_)
              refine lv_iconst (v := 0) hx hb dX9_reach_39 (by decide) ?_
              refine lv_istore_n (lv' := [(3, .int 0), (2, .int 0), (0, .ref h0), (1, .int (nI to9))]) hx hb dX9_reach_40 rfl hl (by decide) rfl (fun ls hl => ?_)
              have HL : ∀ (n k : Nat) (g7 : Nat → Int32) (mo7 : Int32), k ≤ 12 → 12 + 1 ≤ k + n → (L1 a_hours a_snow to9 g7) → (IN a_hours a_snow g8 g7 mo7 k 0) → ∀ (H : Heap) (locs : List Loc), va_P (dC, dI) vwCl [(h0, .inr (9, [.int i_thrown, .ref m1, .int i_length, .int i_size, .int i_p, .ref m5, .ref m6, .ref m7, .int i_token, .int i_at, .int i_number, .int i_fault, .int i_faultAt, .int i_hour, .long i_word, .ref m15, .ref m16, .ref m17, .ref m18, .ref m19, .ref m20, .int i_horses, .ref m22, .ref m23, .ref m24, .ref m25, .ref m26, .ref m27, .ref m28, .ref m29, .ref m30, .ref m31, .ref m32, .ref m33, .ref m34, .int i_tablets, .int i_riders, .ref m37, .ref m38, .ref m39, .ref m40, .ref m41, .ref m42, .ref m43, .ref m44, .ref m45, .ref m46])), (m15, .inl (k_hours, 144, .inl a_hours)), (m16, .inl (k_snow, 144, .inl a_snow)), (m17, .inl (k_least, 12, .inl g7))] H → va_D A [(h0, .inr (9, [.int i_thrown, .ref m1, .int i_length, .int i_size, .int i_p, .ref m5, .ref m6, .ref m7, .int i_token, .int i_at, .int i_number, .int i_fault, .int i_faultAt, .int i_hour, .long i_word, .ref m15, .ref m16, .ref m17, .ref m18, .ref m19, .ref m20, .int i_horses, .ref m22, .ref m23, .ref m24, .ref m25, .ref m26, .ref m27, .ref m28, .ref m29, .ref m30, .ref m31, .ref m32, .ref m33, .ref m34, .int i_tablets, .int i_riders, .ref m37, .ref m38, .ref m39, .ref m40, .ref m41, .ref m42, .ref m43, .ref m44, .ref m45, .ref m46])), (m15, .inl (k_hours, 144, .inl a_hours)), (m16, .inl (k_snow, 144, .inl a_snow)), (m17, .inl (k_least, 12, .inl g7))] → va_S A s.heap H locs → ∀ ls : Array Slot, lv_has ls 5 [(0, .ref h0), (1, .int (nI to9)), (2, .int mo7), (3, .int (nI k))] → W p l e (headSpec wsX9_reach ({ frames := 1, cells := 0, slots := 0, locals := 22 })).room s m ([.ref h0, .int (nI to9)]).toArray below meth c H locs 0 0 (MQ below (va_Qv (fun (_ : Unit) => True) (fun (_ : Unit) t9 => ∃ (f2 : Nat → Int32), (L1 a_hours a_snow to9 f2 ∧ FXa a_hours a_snow f2) ∧ cQ dC dI [(h0, .inr (9, [.int i_thrown, .ref m1, .int i_length, .int i_size, .int i_p, .ref m5, .ref m6, .ref m7, .int i_token, .int i_at, .int i_number, .int i_fault, .int i_faultAt, .int i_hour, .long i_word, .ref m15, .ref m16, .ref m17, .ref m18, .ref m19, .ref m20, .int i_horses, .ref m22, .ref m23, .ref m24, .ref m25, .ref m26, .ref m27, .ref m28, .ref m29, .ref m30, .ref m31, .ref m32, .ref m33, .ref m34, .int i_tablets, .int i_riders, .ref m37, .ref m38, .ref m39, .ref m40, .ref m41, .ref m42, .ref m43, .ref m44, .ref m45, .ref m46])), (m15, .inl (k_hours, 144, .inl a_hours)), (m16, .inl (k_snow, 144, .inl a_snow)), (m17, .inl (k_least, 12, .inl f2))] [] A t9) A) ([.ref h0, .int (nI to9)]).toArray s 0 0 A) (F0 m 41 ls []) := by
                intro n
                induction n with
                | zero => intro k g7 mo7 h1 h2; exact absurd h2 (by omega)
                | succ n ih =>
                  intro k g7 mo7 hk hn hL7 hI7 H locs hP hD hS ls hl
                  refine lv_iload_n hx hb dX9_reach_41 rfl (lv_at hl 3 rfl) ?_
                  refine lv_bipush (v := 12) hx hb dX9_reach_42 (by decide) ?_
                  refine lv_icmp_ge (tgt := 129) hx hb dX9_reach_44 (by decide) (fun c_3 => ?_) (fun c_3 => ?_)
                  · have hke : k = 12 := by
                      rcases Nat.lt_or_ge k 12 with q | q
                      · exact absurd c_3 (nI_ge q (by decide))
                      · omega
                    refine lv_goto (tgt := 33) hx hb dX9_reach_129 (by decide) ?_
                    have hfu2 := IN_fu (hke ▸ hI7) hfu_a c_2
                    exact ih_a g7 mo7 (by omega) hL7 (IN_ex (hke ▸ hI7)) _ _ (hP.sub [0, 1, 2, 3] rfl) (hD.sub [0, 1, 2, 3] (by decide) rfl) hS ls (lv_sub hl [0, 1, 2] rfl)
                  · have hlt : k < 12 := by
                      rcases Nat.lt_or_ge k 12 with q | q
                      · exact q
                      · exact absurd (show nI 12 ≤ nI k from nI_le q (by omega)) c_3
                    refine lv_iconst (v := 0) hx hb dX9_reach_47 (by decide) ?_
                    refine lv_istore (lv' := [(4, .int 0), (0, .ref h0), (1, .int (nI to9)), (2, .int mo7), (3, .int (nI k))]) hx hb dX9_reach_48 hl (by decide) rfl (fun ls hl => ?_)
                    have HL_j : ∀ (n_j j : Nat) (g6 : Nat → Int32) (mo6 : Int32), j ≤ 12 → 12 + 1 ≤ j + n_j → (L1 a_hours a_snow to9 g6) → (IN a_hours a_snow g8 g6 mo6 k j) → ∀ (H : Heap) (locs : List Loc), va_P (dC, dI) vwCl [(h0, .inr (9, [.int i_thrown, .ref m1, .int i_length, .int i_size, .int i_p, .ref m5, .ref m6, .ref m7, .int i_token, .int i_at, .int i_number, .int i_fault, .int i_faultAt, .int i_hour, .long i_word, .ref m15, .ref m16, .ref m17, .ref m18, .ref m19, .ref m20, .int i_horses, .ref m22, .ref m23, .ref m24, .ref m25, .ref m26, .ref m27, .ref m28, .ref m29, .ref m30, .ref m31, .ref m32, .ref m33, .ref m34, .int i_tablets, .int i_riders, .ref m37, .ref m38, .ref m39, .ref m40, .ref m41, .ref m42, .ref m43, .ref m44, .ref m45, .ref m46])), (m15, .inl (k_hours, 144, .inl a_hours)), (m16, .inl (k_snow, 144, .inl a_snow)), (m17, .inl (k_least, 12, .inl g6))] H → va_D A [(h0, .inr (9, [.int i_thrown, .ref m1, .int i_length, .int i_size, .int i_p, .ref m5, .ref m6, .ref m7, .int i_token, .int i_at, .int i_number, .int i_fault, .int i_faultAt, .int i_hour, .long i_word, .ref m15, .ref m16, .ref m17, .ref m18, .ref m19, .ref m20, .int i_horses, .ref m22, .ref m23, .ref m24, .ref m25, .ref m26, .ref m27, .ref m28, .ref m29, .ref m30, .ref m31, .ref m32, .ref m33, .ref m34, .int i_tablets, .int i_riders, .ref m37, .ref m38, .ref m39, .ref m40, .ref m41, .ref m42, .ref m43, .ref m44, .ref m45, .ref m46])), (m15, .inl (k_hours, 144, .inl a_hours)), (m16, .inl (k_snow, 144, .inl a_snow)), (m17, .inl (k_least, 12, .inl g6))] → va_S A s.heap H locs → ∀ ls : Array Slot, lv_has ls 5 [(0, .ref h0), (1, .int (nI to9)), (2, .int mo6), (3, .int (nI k)), (4, .int (nI j))] → W p l e (headSpec wsX9_reach ({ frames := 1, cells := 0, slots := 0, locals := 22 })).room s m ([.ref h0, .int (nI to9)]).toArray below meth c H locs 0 0 (MQ below (va_Qv (fun (_ : Unit) => True) (fun (_ : Unit) t9 => ∃ (f2 : Nat → Int32), (L1 a_hours a_snow to9 f2 ∧ FXa a_hours a_snow f2) ∧ cQ dC dI [(h0, .inr (9, [.int i_thrown, .ref m1, .int i_length, .int i_size, .int i_p, .ref m5, .ref m6, .ref m7, .int i_token, .int i_at, .int i_number, .int i_fault, .int i_faultAt, .int i_hour, .long i_word, .ref m15, .ref m16, .ref m17, .ref m18, .ref m19, .ref m20, .int i_horses, .ref m22, .ref m23, .ref m24, .ref m25, .ref m26, .ref m27, .ref m28, .ref m29, .ref m30, .ref m31, .ref m32, .ref m33, .ref m34, .int i_tablets, .int i_riders, .ref m37, .ref m38, .ref m39, .ref m40, .ref m41, .ref m42, .ref m43, .ref m44, .ref m45, .ref m46])), (m15, .inl (k_hours, 144, .inl a_hours)), (m16, .inl (k_snow, 144, .inl a_snow)), (m17, .inl (k_least, 12, .inl f2))] [] A t9) A) ([.ref h0, .int (nI to9)]).toArray s 0 0 A) (F0 m 50 ls []) := by
                      intro n_j
                      induction n_j with
                      | zero => intro j g6 mo6 h1 h2; exact absurd h2 (by omega)
                      | succ n_j ih_j =>
                        intro j g6 mo6 hk_j hn_j hL6 hI6 H locs hP hD hS ls hl
                        refine lv_iload hx hb dX9_reach_50 (lv_at hl 4 rfl) ?_
                        refine lv_bipush (v := 12) hx hb dX9_reach_52 (by decide) ?_
                        refine lv_icmp_ge (tgt := 123) hx hb dX9_reach_54 (by decide) (fun c_4 => ?_) (fun c_4 => ?_)
                        · have hke_j : j = 12 := by
                            rcases Nat.lt_or_ge j 12 with q | q
                            · exact absurd c_4 (nI_ge q (by decide))
                            · omega
                          refine lv_iinc (v := nI (k + 1)) (lv' := [(3, .int (nI (k + 1))), (0, .ref h0), (1, .int (nI to9)), (2, .int mo6), (4, .int (nI j))]) hx hb dX9_reach_123 hl (k := 3) rfl (by exact (nI_1 k)) (by decide) rfl (fun ls hl => ?_)
                          refine lv_goto (tgt := 41) hx hb dX9_reach_126 (by decide) ?_
                          exact ih (k + 1) g6 mo6 (by omega) (by omega) hL6 (IN_row (hke_j ▸ hI6)) _ _ (hP.sub [0, 1, 2, 3] rfl) (hD.sub [0, 1, 2, 3] (by decide) rfl) hS ls (lv_sub hl [1, 2, 3, 0] rfl)
                        · have hlt_j : j < 12 := by
                            rcases Nat.lt_or_ge j 12 with q | q
                            · exact q
                            · exact absurd (show nI 12 ≤ nI j from nI_le q (by omega)) c_4
                          refine lv_aload_n hx hb dX9_reach_57 rfl (lv_at hl 0 rfl) ?_
                          refine lv_iload_n hx hb dX9_reach_58 rfl (lv_at hl 3 rfl) ?_
                          refine lv_iload hx hb dX9_reach_59 (lv_at hl 4 rfl) ?_
                          have hPc := hP.sub (ws' := [(h0, .inr (9, [.int i_thrown, .ref m1, .int i_length, .int i_size, .int i_p, .ref m5, .ref m6, .ref m7, .int i_token, .int i_at, .int i_number, .int i_fault, .int i_faultAt, .int i_hour, .long i_word, .ref m15, .ref m16, .ref m17, .ref m18, .ref m19, .ref m20, .int i_horses, .ref m22, .ref m23, .ref m24, .ref m25, .ref m26, .ref m27, .ref m28, .ref m29, .ref m30, .ref m31, .ref m32, .ref m33, .ref m34, .int i_tablets, .int i_riders, .ref m37, .ref m38, .ref m39, .ref m40, .ref m41, .ref m42, .ref m43, .ref m44, .ref m45, .ref m46])), (m15, .inl (k_hours, 144, .inl a_hours))]) [0, 1] rfl
                          have hDc := hD.sub (ws' := [(h0, .inr (9, [.int i_thrown, .ref m1, .int i_length, .int i_size, .int i_p, .ref m5, .ref m6, .ref m7, .int i_token, .int i_at, .int i_number, .int i_fault, .int i_faultAt, .int i_hour, .long i_word, .ref m15, .ref m16, .ref m17, .ref m18, .ref m19, .ref m20, .int i_horses, .ref m22, .ref m23, .ref m24, .ref m25, .ref m26, .ref m27, .ref m28, .ref m29, .ref m30, .ref m31, .ref m32, .ref m33, .ref m34, .int i_tablets, .int i_riders, .ref m37, .ref m38, .ref m39, .ref m40, .ref m41, .ref m42, .ref m43, .ref m44, .ref m45, .ref m46])), (m15, .inl (k_hours, 144, .inl a_hours))]) [0, 1] (by decide) rfl
                          have hKc := hK.sub (tys' := [(k_hours, .int)]) [0] rfl
                          refine cs_i (va_runV (As := [.int (nI k), .int (nI j)]) (rest := []) ⟨hx, hb, hml, hown, hts⟩ (n_X9_roadOf l dC dI h0 m1 m5 m6 m7 m15 m16 m17 m18 m19 m20 m22 m23 m24 m25 m26 m27 m28 m29 m30 m31 m32 m33 m34 m37 m38 m39 m40 m41 m42 m43 m44 m45 m46 i_thrown i_length i_size i_p i_token i_at i_number i_fault i_faultAt i_hour i_horses i_tablets i_riders i_word k_hours a_hours k j H.size (by omega) (by omega)) (cwV 2 hts gX9_reach_X9_roadOf rfl rfl rfl (by decide +kernel) ⟨Nat.le_of_ble_eq_true rfl, Nat.le_of_ble_eq_true rfl⟩) ⟨c_blind, va_recv hKc hPc (ci := 9) (q0 := 0) rfl rfl, c_pre hPc hKc hDc hN⟩ rfl rfl hl.1 rfl (lv_room (Nat.le_of_ble_eq_true rfl)) dX9_reach_61 ⟨Nat.le_of_ble_eq_true rfl, Nat.le_of_ble_eq_true rfl⟩) (fun r_5 hr_5 => ?_)
                          subst hr_5
                          refine lv_if_eq (tgt := 117) hx hb dX9_reach_64 (by decide) (fun c_6 => ?_) (fun c_6 => ?_)
                          · refine lv_iinc (v := nI (j + 1)) (lv' := [(4, .int (nI (j + 1))), (0, .ref h0), (1, .int (nI to9)), (2, .int mo6), (3, .int (nI k))]) hx hb dX9_reach_117 hl (k := 4) rfl (by exact (nI_1 j)) (by decide) rfl (fun ls hl => ?_)
                            refine lv_goto (tgt := 50) hx hb dX9_reach_120 (by decide) ?_
                            exact ih_j (j + 1) g6 mo6 (by omega) (by omega) hL6 (IN_s1 hI6 c_6) _ _ (hP.sub [0, 1, 2, 3] rfl) (hD.sub [0, 1, 2, 3] (by decide) rfl) hS ls (lv_sub hl [1, 2, 3, 4, 0] rfl)
                          · refine lv_aload_n hx hb dX9_reach_67 rfl (lv_at hl 0 rfl) ?_
                            refine va_get (D := (dC, dI)) (ci := 9) (v := .ref m17) (C := RX9) (T := TX9) (N := 47) hx hb hts hin9 hown hK hP 0 rfl rfl 17 (by decide) (hts (.fieldLink RX9 30 "YamRidersModel" "least" "[I") (by decide +kernel)) (fun _ h9 => h9) rfl dX9_reach_68 ?_
                            refine lv_iload hx hb dX9_reach_71 (lv_at hl 4 rfl) ?_
                            refine va_iald hx hb hK hP 3 2 rfl rfl (vp_in_nI hlt_j (by decide)) dX9_reach_73 ?_
                            refine lv_topi (fun v_7 ev_7 => ?_)
                            obtain rfl : v_7 = g6 j := ev_7.trans (by rw [(nI_clamp (by omega))])
                            refine lv_aload_n hx hb dX9_reach_74 rfl (lv_at hl 0 rfl) ?_
                            refine lv_iload_n hx hb dX9_reach_75 rfl (lv_at hl 3 rfl) ?_
                            refine lv_iload hx hb dX9_reach_76 (lv_at hl 4 rfl) ?_
                            have hPc := hP.sub (ws' := [(h0, .inr (9, [.int i_thrown, .ref m1, .int i_length, .int i_size, .int i_p, .ref m5, .ref m6, .ref m7, .int i_token, .int i_at, .int i_number, .int i_fault, .int i_faultAt, .int i_hour, .long i_word, .ref m15, .ref m16, .ref m17, .ref m18, .ref m19, .ref m20, .int i_horses, .ref m22, .ref m23, .ref m24, .ref m25, .ref m26, .ref m27, .ref m28, .ref m29, .ref m30, .ref m31, .ref m32, .ref m33, .ref m34, .int i_tablets, .int i_riders, .ref m37, .ref m38, .ref m39, .ref m40, .ref m41, .ref m42, .ref m43, .ref m44, .ref m45, .ref m46])), (m15, .inl (k_hours, 144, .inl a_hours)), (m16, .inl (k_snow, 144, .inl a_snow))]) [0, 1, 2] rfl
                            have hDc := hD.sub (ws' := [(h0, .inr (9, [.int i_thrown, .ref m1, .int i_length, .int i_size, .int i_p, .ref m5, .ref m6, .ref m7, .int i_token, .int i_at, .int i_number, .int i_fault, .int i_faultAt, .int i_hour, .long i_word, .ref m15, .ref m16, .ref m17, .ref m18, .ref m19, .ref m20, .int i_horses, .ref m22, .ref m23, .ref m24, .ref m25, .ref m26, .ref m27, .ref m28, .ref m29, .ref m30, .ref m31, .ref m32, .ref m33, .ref m34, .int i_tablets, .int i_riders, .ref m37, .ref m38, .ref m39, .ref m40, .ref m41, .ref m42, .ref m43, .ref m44, .ref m45, .ref m46])), (m15, .inl (k_hours, 144, .inl a_hours)), (m16, .inl (k_snow, 144, .inl a_snow))]) [0, 1, 2] (by decide) rfl
                            have hKc := hK.sub (tys' := [(k_hours, .int), (k_snow, .int)]) [0, 1] rfl
                            refine cs_i (va_runV (As := [.int (nI k), .int (nI j)]) (rest := [.int (g6 j)]) ⟨hx, hb, hml, hown, hts⟩ (n_X9_timeOf l dC dI h0 m1 m5 m6 m7 m15 m16 m17 m18 m19 m20 m22 m23 m24 m25 m26 m27 m28 m29 m30 m31 m32 m33 m34 m37 m38 m39 m40 m41 m42 m43 m44 m45 m46 i_thrown i_length i_size i_p i_token i_at i_number i_fault i_faultAt i_hour i_horses i_tablets i_riders i_word k_hours k_snow a_hours a_snow k j H.size (by omega) (by omega)) (cwV 2 hts gX9_reach_X9_timeOf rfl rfl rfl (by decide +kernel) ⟨Nat.le_of_ble_eq_true rfl, Nat.le_of_ble_eq_true rfl⟩) ⟨c_blind, va_recv hKc hPc (ci := 9) (q0 := 0) rfl rfl, c_pre hPc hKc hDc hN⟩ rfl rfl hl.1 rfl (lv_room (Nat.le_of_ble_eq_true rfl)) dX9_reach_78 ⟨Nat.le_of_ble_eq_true rfl, Nat.le_of_ble_eq_true rfl⟩) (fun r_8 hr_8 => ?_)
                            subst hr_8
                            refine lv_iadd hx hb dX9_reach_81 ?_
                            refine lv_aload_n hx hb dX9_reach_82 rfl (lv_at hl 0 rfl) ?_
                            refine va_get (D := (dC, dI)) (ci := 9) (v := .ref m17) (C := RX9) (T := TX9) (N := 47) hx hb hts hin9 hown hK hP 0 rfl rfl 17 (by decide) (hts (.fieldLink RX9 30 "YamRidersModel" "least" "[I") (by decide +kernel)) (fun _ h9 => h9) rfl dX9_reach_83 ?_
                            refine lv_iload_n hx hb dX9_reach_86 rfl (lv_at hl 3 rfl) ?_
                            refine va_iald hx hb hK hP 3 2 rfl rfl (vp_in_nI hlt (by decide)) dX9_reach_87 ?_
                            refine lv_topi (fun v_9 ev_9 => ?_)
                            obtain rfl : v_9 = g6 k := ev_9.trans (by rw [(nI_clamp (by omega))])
                            refine lv_icmp_lt (tgt := 94) hx hb dX9_reach_88 (by decide) (fun c_10 => ?_) (fun c_10 => ?_)
                            · refine lv_aload_n hx hb dX9_reach_94 rfl (lv_at hl 0 rfl) ?_
                              refine va_get (D := (dC, dI)) (ci := 9) (v := .ref m17) (C := RX9) (T := TX9) (N := 47) hx hb hts hin9 hown hK hP 0 rfl rfl 17 (by decide) (hts (.fieldLink RX9 30 "YamRidersModel" "least" "[I") (by decide +kernel)) (fun _ h9 => h9) rfl dX9_reach_95 ?_
                              refine lv_iload_n hx hb dX9_reach_98 rfl (lv_at hl 3 rfl) ?_
                              refine lv_aload_n hx hb dX9_reach_99 rfl (lv_at hl 0 rfl) ?_
                              refine va_get (D := (dC, dI)) (ci := 9) (v := .ref m17) (C := RX9) (T := TX9) (N := 47) hx hb hts hin9 hown hK hP 0 rfl rfl 17 (by decide) (hts (.fieldLink RX9 30 "YamRidersModel" "least" "[I") (by decide +kernel)) (fun _ h9 => h9) rfl dX9_reach_100 ?_
                              refine lv_iload hx hb dX9_reach_103 (lv_at hl 4 rfl) ?_
                              refine va_iald hx hb hK hP 3 2 rfl rfl (vp_in_nI hlt_j (by decide)) dX9_reach_105 ?_
                              refine lv_topi (fun v_11 ev_11 => ?_)
                              obtain rfl : v_11 = g6 j := ev_11.trans (by rw [(nI_clamp (by omega))])
                              refine lv_aload_n hx hb dX9_reach_106 rfl (lv_at hl 0 rfl) ?_
                              refine lv_iload_n hx hb dX9_reach_107 rfl (lv_at hl 3 rfl) ?_
                              refine lv_iload hx hb dX9_reach_108 (lv_at hl 4 rfl) ?_
                              have hPc := hP.sub (ws' := [(h0, .inr (9, [.int i_thrown, .ref m1, .int i_length, .int i_size, .int i_p, .ref m5, .ref m6, .ref m7, .int i_token, .int i_at, .int i_number, .int i_fault, .int i_faultAt, .int i_hour, .long i_word, .ref m15, .ref m16, .ref m17, .ref m18, .ref m19, .ref m20, .int i_horses, .ref m22, .ref m23, .ref m24, .ref m25, .ref m26, .ref m27, .ref m28, .ref m29, .ref m30, .ref m31, .ref m32, .ref m33, .ref m34, .int i_tablets, .int i_riders, .ref m37, .ref m38, .ref m39, .ref m40, .ref m41, .ref m42, .ref m43, .ref m44, .ref m45, .ref m46])), (m15, .inl (k_hours, 144, .inl a_hours)), (m16, .inl (k_snow, 144, .inl a_snow))]) [0, 1, 2] rfl
                              have hDc := hD.sub (ws' := [(h0, .inr (9, [.int i_thrown, .ref m1, .int i_length, .int i_size, .int i_p, .ref m5, .ref m6, .ref m7, .int i_token, .int i_at, .int i_number, .int i_fault, .int i_faultAt, .int i_hour, .long i_word, .ref m15, .ref m16, .ref m17, .ref m18, .ref m19, .ref m20, .int i_horses, .ref m22, .ref m23, .ref m24, .ref m25, .ref m26, .ref m27, .ref m28, .ref m29, .ref m30, .ref m31, .ref m32, .ref m33, .ref m34, .int i_tablets, .int i_riders, .ref m37, .ref m38, .ref m39, .ref m40, .ref m41, .ref m42, .ref m43, .ref m44, .ref m45, .ref m46])), (m15, .inl (k_hours, 144, .inl a_hours)), (m16, .inl (k_snow, 144, .inl a_snow))]) [0, 1, 2] (by decide) rfl
                              have hKc := hK.sub (tys' := [(k_hours, .int), (k_snow, .int)]) [0, 1] rfl
                              refine cs_i (va_runV (As := [.int (nI k), .int (nI j)]) (rest := [.int (g6 j), .int (nI k), .ref m17]) ⟨hx, hb, hml, hown, hts⟩ (n_X9_timeOf l dC dI h0 m1 m5 m6 m7 m15 m16 m17 m18 m19 m20 m22 m23 m24 m25 m26 m27 m28 m29 m30 m31 m32 m33 m34 m37 m38 m39 m40 m41 m42 m43 m44 m45 m46 i_thrown i_length i_size i_p i_token i_at i_number i_fault i_faultAt i_hour i_horses i_tablets i_riders i_word k_hours k_snow a_hours a_snow k j H.size (by omega) (by omega)) (cwV 2 hts gX9_reach_X9_timeOf rfl rfl rfl (by decide +kernel) ⟨Nat.le_of_ble_eq_true rfl, Nat.le_of_ble_eq_true rfl⟩) ⟨c_blind, va_recv hKc hPc (ci := 9) (q0 := 0) rfl rfl, c_pre hPc hKc hDc hN⟩ rfl rfl hl.1 rfl (lv_room (Nat.le_of_ble_eq_true rfl)) dX9_reach_110 ⟨Nat.le_of_ble_eq_true rfl, Nat.le_of_ble_eq_true rfl⟩) (fun r_12 hr_12 => ?_)
                              subst hr_12
                              refine lv_iadd hx hb dX9_reach_113 ?_
                              refine va_iast hx hb hK hP hD hS 3 2 rfl rfl (vp_in_nI hlt (by decide)) dX9_reach_114 (fun H locs hP hD hS => ?_)
                              have hP : va_P (dC, dI) vwCl [(h0, .inr (9, [.int i_thrown, .ref m1, .int i_length, .int i_size, .int i_p, .ref m5, .ref m6, .ref m7, .int i_token, .int i_at, .int i_number, .int i_fault, .int i_faultAt, .int i_hour, .long i_word, .ref m15, .ref m16, .ref m17, .ref m18, .ref m19, .ref m20, .int i_horses, .ref m22, .ref m23, .ref m24, .ref m25, .ref m26, .ref m27, .ref m28, .ref m29, .ref m30, .ref m31, .ref m32, .ref m33, .ref m34, .int i_tablets, .int i_riders, .ref m37, .ref m38, .ref m39, .ref m40, .ref m41, .ref m42, .ref m43, .ref m44, .ref m45, .ref m46])), (m15, .inl (k_hours, 144, .inl a_hours)), (m16, .inl (k_snow, 144, .inl a_snow)), (m17, .inl (k_least, 12, .inl (upd g6 (nI k).toNatClampNeg ((g6 j) + (a_hours (12 * k + j) + a_snow (12 * k + j))))))] H := hP
                              have hD : va_D A [(h0, .inr (9, [.int i_thrown, .ref m1, .int i_length, .int i_size, .int i_p, .ref m5, .ref m6, .ref m7, .int i_token, .int i_at, .int i_number, .int i_fault, .int i_faultAt, .int i_hour, .long i_word, .ref m15, .ref m16, .ref m17, .ref m18, .ref m19, .ref m20, .int i_horses, .ref m22, .ref m23, .ref m24, .ref m25, .ref m26, .ref m27, .ref m28, .ref m29, .ref m30, .ref m31, .ref m32, .ref m33, .ref m34, .int i_tablets, .int i_riders, .ref m37, .ref m38, .ref m39, .ref m40, .ref m41, .ref m42, .ref m43, .ref m44, .ref m45, .ref m46])), (m15, .inl (k_hours, 144, .inl a_hours)), (m16, .inl (k_snow, 144, .inl a_snow)), (m17, .inl (k_least, 12, .inl (upd g6 (nI k).toNatClampNeg ((g6 j) + (a_hours (12 * k + j) + a_snow (12 * k + j))))))] := hD
                              obtain ⟨f_13, ef_13⟩ : ∃ w9 : Nat → Int32, w9 = upd g6 (nI k).toNatClampNeg ((g6 j) + (a_hours (12 * k + j) + a_snow (12 * k + j))) := ⟨_, rfl⟩
                              rw [← ef_13] at hP hD
                              rw [(nI_clamp (by omega))] at ef_13
                              refine lv_iconst (v := 1) hx hb dX9_reach_115 (by decide) ?_
                              refine lv_istore_n (lv' := [(2, .int 1), (0, .ref h0), (1, .int (nI to9)), (3, .int (nI k)), (4, .int (nI j))]) hx hb dX9_reach_116 rfl hl (by decide) rfl (fun ls hl => ?_)
                              refine lv_iinc (v := nI (j + 1)) (lv' := [(4, .int (nI (j + 1))), (2, .int 1), (0, .ref h0), (1, .int (nI to9)), (3, .int (nI k))]) hx hb dX9_reach_117 hl (k := 4) rfl (by exact (nI_1 j)) (by decide) rfl (fun ls hl => ?_)
                              refine lv_goto (tgt := 50) hx hb dX9_reach_120 (by decide) ?_
                              exact ih_j (j + 1) f_13 1 (by omega) (by omega) (by rw [ef_13]; exact (L1_up hRh hRs hL6 (by omega) (by omega) c_6 c_10).1) (by rw [ef_13]; exact IN_up hRh hRs hL6 (by omega) (by omega) hI6 c_6 c_10) _ _ (hP.sub [0, 1, 2, 3] rfl) (hD.sub [0, 1, 2, 3] (by decide) rfl) hS ls (lv_sub hl [2, 3, 1, 4, 0] rfl)
                            · refine lv_goto (tgt := 117) hx hb dX9_reach_91 (by decide) ?_
                              refine lv_iinc (v := nI (j + 1)) (lv' := [(4, .int (nI (j + 1))), (0, .ref h0), (1, .int (nI to9)), (2, .int mo6), (3, .int (nI k))]) hx hb dX9_reach_117 hl (k := 4) rfl (by exact (nI_1 j)) (by decide) rfl (fun ls hl => ?_)
                              refine lv_goto (tgt := 50) hx hb dX9_reach_120 (by decide) ?_
                              exact ih_j (j + 1) g6 mo6 (by omega) (by omega) hL6 (IN_s2 hRh hRs hL6 (by omega) (by omega) hI6 c_10) _ _ (hP.sub [0, 1, 2, 3] rfl) (hD.sub [0, 1, 2, 3] (by decide) rfl) hS ls (lv_sub hl [1, 2, 3, 4, 0] rfl)
                    exact HL_j 13 0 g7 mo7 (by omega) (by omega) hL7 hI7 _ _ (hP.sub [0, 1, 2, 3] rfl) (hD.sub [0, 1, 2, 3] (by decide) rfl) hS ls (lv_sub hl [1, 2, 3, 4, 0] rfl)
              exact HL 13 0 g8 0 (by omega) (by omega) hL8 IN_0 _ _ (hP.sub [0, 1, 2, 3] rfl) (hD.sub [0, 1, 2, 3] (by decide) rfl) hS ls (lv_sub hl [2, 3, 1, 0] rfl)
        exact HL_a (sumG g9 12 + 1 + wb 1) g9 1 (by omega) (i0_L hto9 (hke_i ▸ hi9)) (Or.inr rfl) _ _ (hP.sub [0, 1, 2, 3] rfl) (hD.sub [0, 1, 2, 3] (by decide) rfl) hS ls (lv_sub hl [1, 2, 0] rfl)
      · have hlt_i : i < 12 := by
          rcases Nat.lt_or_ge i 12 with q | q
          · exact q
          · exact absurd (show nI 12 ≤ nI i from nI_le q (by omega)) c_1
        refine lv_aload_n hx hb dX9_reach_8 rfl (lv_at hl 0 rfl) ?_
        refine va_get (D := (dC, dI)) (ci := 9) (v := .ref m17) (C := RX9) (T := TX9) (N := 47) hx hb hts hin9 hown hK hP 0 rfl rfl 17 (by decide) (hts (.fieldLink RX9 30 "YamRidersModel" "least" "[I") (by decide +kernel)) (fun _ h9 => h9) rfl dX9_reach_9 ?_
        refine lv_iload_n hx hb dX9_reach_12 rfl (lv_at hl 2 rfl) ?_
        refine lv_iload_n hx hb dX9_reach_13 rfl (lv_at hl 2 rfl) ?_
        refine lv_iload_n hx hb dX9_reach_14 rfl (lv_at hl 1 rfl) ?_
        refine lv_icmp_ne (tgt := 22) hx hb dX9_reach_15 (by decide) (fun c_14 => ?_) (fun c_14 => ?_)
        · refine lv_ldc (v := 1000000) hx hb hown (hts (.constant RX9 194 (1000000)) (by decide +kernel)) dX9_reach_22 ?_
          refine va_iast hx hb hK hP hD hS 3 2 rfl rfl (vp_in_nI hlt_i (by decide)) dX9_reach_24 (fun H locs hP hD hS => ?_)
          have hP : va_P (dC, dI) vwCl [(h0, .inr (9, [.int i_thrown, .ref m1, .int i_length, .int i_size, .int i_p, .ref m5, .ref m6, .ref m7, .int i_token, .int i_at, .int i_number, .int i_fault, .int i_faultAt, .int i_hour, .long i_word, .ref m15, .ref m16, .ref m17, .ref m18, .ref m19, .ref m20, .int i_horses, .ref m22, .ref m23, .ref m24, .ref m25, .ref m26, .ref m27, .ref m28, .ref m29, .ref m30, .ref m31, .ref m32, .ref m33, .ref m34, .int i_tablets, .int i_riders, .ref m37, .ref m38, .ref m39, .ref m40, .ref m41, .ref m42, .ref m43, .ref m44, .ref m45, .ref m46])), (m15, .inl (k_hours, 144, .inl a_hours)), (m16, .inl (k_snow, 144, .inl a_snow)), (m17, .inl (k_least, 12, .inl (upd g9 (nI i).toNatClampNeg 1000000)))] H := hP
          have hD : va_D A [(h0, .inr (9, [.int i_thrown, .ref m1, .int i_length, .int i_size, .int i_p, .ref m5, .ref m6, .ref m7, .int i_token, .int i_at, .int i_number, .int i_fault, .int i_faultAt, .int i_hour, .long i_word, .ref m15, .ref m16, .ref m17, .ref m18, .ref m19, .ref m20, .int i_horses, .ref m22, .ref m23, .ref m24, .ref m25, .ref m26, .ref m27, .ref m28, .ref m29, .ref m30, .ref m31, .ref m32, .ref m33, .ref m34, .int i_tablets, .int i_riders, .ref m37, .ref m38, .ref m39, .ref m40, .ref m41, .ref m42, .ref m43, .ref m44, .ref m45, .ref m46])), (m15, .inl (k_hours, 144, .inl a_hours)), (m16, .inl (k_snow, 144, .inl a_snow)), (m17, .inl (k_least, 12, .inl (upd g9 (nI i).toNatClampNeg 1000000)))] := hD
          obtain ⟨f_15, ef_15⟩ : ∃ w9 : Nat → Int32, w9 = upd g9 (nI i).toNatClampNeg 1000000 := ⟨_, rfl⟩
          rw [← ef_15] at hP hD
          rw [(nI_clamp (by omega))] at ef_15
          refine lv_iinc (v := nI (i + 1)) (lv' := [(2, .int (nI (i + 1))), (0, .ref h0), (1, .int (nI to9))]) hx hb dX9_reach_25 hl (k := 2) rfl (by exact (nI_1 i)) (by decide) rfl (fun ls hl => ?_)
          refine lv_goto (tgt := 2) hx hb dX9_reach_28 (by decide) ?_
          exact ih_i (i + 1) f_15 (by omega) (by omega) (by rw [ef_15]; exact i0_f hi9 c_14) _ _ (hP.sub [0, 1, 2, 3] rfl) (hD.sub [0, 1, 2, 3] (by decide) rfl) hS ls (lv_sub hl [1, 2, 0] rfl)
        · refine lv_iconst (v := 0) hx hb dX9_reach_18 (by decide) ?_
          refine lv_goto (tgt := 24) hx hb dX9_reach_19 (by decide) ?_
          refine va_iast hx hb hK hP hD hS 3 2 rfl rfl (vp_in_nI hlt_i (by decide)) dX9_reach_24 (fun H locs hP hD hS => ?_)
          have hP : va_P (dC, dI) vwCl [(h0, .inr (9, [.int i_thrown, .ref m1, .int i_length, .int i_size, .int i_p, .ref m5, .ref m6, .ref m7, .int i_token, .int i_at, .int i_number, .int i_fault, .int i_faultAt, .int i_hour, .long i_word, .ref m15, .ref m16, .ref m17, .ref m18, .ref m19, .ref m20, .int i_horses, .ref m22, .ref m23, .ref m24, .ref m25, .ref m26, .ref m27, .ref m28, .ref m29, .ref m30, .ref m31, .ref m32, .ref m33, .ref m34, .int i_tablets, .int i_riders, .ref m37, .ref m38, .ref m39, .ref m40, .ref m41, .ref m42, .ref m43, .ref m44, .ref m45, .ref m46])), (m15, .inl (k_hours, 144, .inl a_hours)), (m16, .inl (k_snow, 144, .inl a_snow)), (m17, .inl (k_least, 12, .inl (upd g9 (nI i).toNatClampNeg 0)))] H := hP
          have hD : va_D A [(h0, .inr (9, [.int i_thrown, .ref m1, .int i_length, .int i_size, .int i_p, .ref m5, .ref m6, .ref m7, .int i_token, .int i_at, .int i_number, .int i_fault, .int i_faultAt, .int i_hour, .long i_word, .ref m15, .ref m16, .ref m17, .ref m18, .ref m19, .ref m20, .int i_horses, .ref m22, .ref m23, .ref m24, .ref m25, .ref m26, .ref m27, .ref m28, .ref m29, .ref m30, .ref m31, .ref m32, .ref m33, .ref m34, .int i_tablets, .int i_riders, .ref m37, .ref m38, .ref m39, .ref m40, .ref m41, .ref m42, .ref m43, .ref m44, .ref m45, .ref m46])), (m15, .inl (k_hours, 144, .inl a_hours)), (m16, .inl (k_snow, 144, .inl a_snow)), (m17, .inl (k_least, 12, .inl (upd g9 (nI i).toNatClampNeg 0)))] := hD
          obtain ⟨f_16, ef_16⟩ : ∃ w9 : Nat → Int32, w9 = upd g9 (nI i).toNatClampNeg 0 := ⟨_, rfl⟩
          rw [← ef_16] at hP hD
          rw [(nI_clamp (by omega))] at ef_16
          refine lv_iinc (v := nI (i + 1)) (lv' := [(2, .int (nI (i + 1))), (0, .ref h0), (1, .int (nI to9))]) hx hb dX9_reach_25 hl (k := 2) rfl (by exact (nI_1 i)) (by decide) rfl (fun ls hl => ?_)
          refine lv_goto (tgt := 2) hx hb dX9_reach_28 (by decide) ?_
          exact ih_i (i + 1) f_16 (by omega) (by omega) (by rw [ef_16]; exact i0_t (by omega) hto9 hi9 c_14) _ _ (hP.sub [0, 1, 2, 3] rfl) (hD.sub [0, 1, 2, 3] (by decide) rfl) hS ls (lv_sub hl [1, 2, 0] rfl)
  exact HL_i 13 0 a_least (by omega) (by omega) (fun _ q => absurd q (by omega)) _ _ (hP.sub [0, 1, 2, 3] rfl) (hD.sub [0, 1, 2, 3] (by decide) rfl) hS ls (lv_sub hl [1, 2, 0] rfl)
