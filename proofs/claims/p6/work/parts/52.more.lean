theorem wi_in {x : Int32} {w : Nat} (hw : w ≤ 12) (h1 : ¬ x < 0) (h2 : ¬ nI w ≤ x) : vp_in x w := by
  obtain ⟨j, hj, rfl⟩ := nI_of h1
  exact vp_in_nI (Decidable.byContradiction fun q => h2 (nI_le (by omega) hj)) (by omega)

set_option maxHeartbeats 4000000 in
set_option maxRecDepth 100000 in
theorem g_X9_kill (l : Launch) (dC : Nat → ClassId) (dI : Nat → Nat → Nat) (h0 : Nat) (m1 : Nat) (m5 : Nat) (m6 : Nat) (m7 : Nat) (m15 : Nat) (m16 : Nat) (m17 : Nat) (m18 : Nat) (m19 : Nat) (m20 : Nat) (m22 : Nat) (m23 : Nat) (m24 : Nat) (m25 : Nat) (m26 : Nat) (m27 : Nat) (m28 : Nat) (m29 : Nat) (m30 : Nat) (m31 : Nat) (m32 : Nat) (m33 : Nat) (m34 : Nat) (m37 : Nat) (m38 : Nat) (m39 : Nat) (m40 : Nat) (m41 : Nat) (m42 : Nat) (m43 : Nat) (m44 : Nat) (m45 : Nat) (m46 : Nat) (i_thrown : Int32) (i_length : Int32) (i_size : Int32) (i_p : Int32) (i_token : Int32) (i_at : Int32) (i_number : Int32) (i_fault : Int32) (i_faultAt : Int32) (i_hour : Int32) (i_horses : Int32) (i_tablets : Int32) (i_word : Int64) (k_state : ClassId) (k_loose : ClassId) (a_state : Nat → Int32) (a_loose : Nat → Int32) (p0 : Int32) (r9 : Nat) (sz : Nat) (hr9 : r9 ≤ 60) : Met l yX9_kill wsX9_kill ({ frames := 1, cells := 0, slots := 0, locals := 21 }) (va_Pc [.ref h0, .int p0] (cP dC dI [(h0, .inr (9, [.int i_thrown, .ref m1, .int i_length, .int i_size, .int i_p, .ref m5, .ref m6, .ref m7, .int i_token, .int i_at, .int i_number, .int i_fault, .int i_faultAt, .int i_hour, .long i_word, .ref m15, .ref m16, .ref m17, .ref m18, .ref m19, .ref m20, .int i_horses, .ref m22, .ref m23, .ref m24, .ref m25, .ref m26, .ref m27, .ref m28, .ref m29, .ref m30, .ref m31, .ref m32, .ref m33, .ref m34, .int i_tablets, .int (nI r9), .ref m37, .ref m38, .ref m39, .ref m40, .ref m41, .ref m42, .ref m43, .ref m44, .ref m45, .ref m46])), (m28, .inl (k_state, 60, .inl a_state)), (m37, .inl (k_loose, 60, .inl a_loose))] [(k_state, .int), (k_loose, .boolean)] sz)) (va_Qi (fun (r rv : Int32) => r = rv) (fun (rv : Int32) t9 => ∃ (f2 : Nat → Int32) (f3 : Nat → Int32), (rv = 0 ∨ rv = 1) ∧ cQ dC dI [(h0, .inr (9, [.int 0, .ref m1, .int i_length, .int i_size, .int i_p, .ref m5, .ref m6, .ref m7, .int i_token, .int i_at, .int i_number, .int i_fault, .int i_faultAt, .int i_hour, .long i_word, .ref m15, .ref m16, .ref m17, .ref m18, .ref m19, .ref m20, .int i_horses, .ref m22, .ref m23, .ref m24, .ref m25, .ref m26, .ref m27, .ref m28, .ref m29, .ref m30, .ref m31, .ref m32, .ref m33, .ref m34, .int i_tablets, .int (nI r9), .ref m37, .ref m38, .ref m39, .ref m40, .ref m41, .ref m42, .ref m43, .ref m44, .ref m45, .ref m46])), (m28, .inl (k_state, 60, .inl f2)), (m37, .inl (k_loose, 60, .inl f3))] [] (va_A [(h0, .inr (9, [.int i_thrown, .ref m1, .int i_length, .int i_size, .int i_p, .ref m5, .ref m6, .ref m7, .int i_token, .int i_at, .int i_number, .int i_fault, .int i_faultAt, .int i_hour, .long i_word, .ref m15, .ref m16, .ref m17, .ref m18, .ref m19, .ref m20, .int i_horses, .ref m22, .ref m23, .ref m24, .ref m25, .ref m26, .ref m27, .ref m28, .ref m29, .ref m30, .ref m31, .ref m32, .ref m33, .ref m34, .int i_tablets, .int (nI r9), .ref m37, .ref m38, .ref m39, .ref m40, .ref m41, .ref m42, .ref m43, .ref m44, .ref m45, .ref m46])), (m28, .inl (k_state, 60, .inl a_state)), (m37, .inl (k_loose, 60, .inl a_loose))] sz) t9) (va_A [(h0, .inr (9, [.int i_thrown, .ref m1, .int i_length, .int i_size, .int i_p, .ref m5, .ref m6, .ref m7, .int i_token, .int i_at, .int i_number, .int i_fault, .int i_faultAt, .int i_hour, .long i_word, .ref m15, .ref m16, .ref m17, .ref m18, .ref m19, .ref m20, .int i_horses, .ref m22, .ref m23, .ref m24, .ref m25, .ref m26, .ref m27, .ref m28, .ref m29, .ref m30, .ref m31, .ref m32, .ref m33, .ref m34, .int i_tablets, .int (nI r9), .ref m37, .ref m38, .ref m39, .ref m40, .ref m41, .ref m42, .ref m43, .ref m44, .ref m45, .ref m46])), (m28, .inl (k_state, 60, .inl a_state)), (m37, .inl (k_loose, 60, .inl a_loose))] sz)) 0 0 (va_A [(h0, .inr (9, [.int i_thrown, .ref m1, .int i_length, .int i_size, .int i_p, .ref m5, .ref m6, .ref m7, .int i_token, .int i_at, .int i_number, .int i_fault, .int i_faultAt, .int i_hour, .long i_word, .ref m15, .ref m16, .ref m17, .ref m18, .ref m19, .ref m20, .int i_horses, .ref m22, .ref m23, .ref m24, .ref m25, .ref m26, .ref m27, .ref m28, .ref m29, .ref m30, .ref m31, .ref m32, .ref m33, .ref m34, .int i_tablets, .int (nI r9), .ref m37, .ref m38, .ref m39, .ref m40, .ref m41, .ref m42, .ref m43, .ref m44, .ref m45, .ref m46])), (m28, .inl (k_state, 60, .inl a_state)), (m37, .inl (k_loose, 60, .inl a_loose))] sz) := by
  refine Met.ofW (cc := cX9_kill) (maxL := 2) (ret := (some .boolean)) (by decide) rfl ?_
  intro p e s m args below meth c s₁ B hml hv
  obtain ⟨rfl, hsz, hP, hK, hD0, hN⟩ := hv
  have hx := B.exec
  have hb := B.bytes
  have hr := B.returns
  have hts := atoms_spec (ws := wsX9_kill) B.pre
  have hown : s.vm.findClass RX9 = some m.cls := findClass_of_methodNamed B.named
  have hlocks := B.notSynchronized
  subst hsz
  have hin9 : ∀ w ∈ u_ws RX9 TX9 47, w ∈ wsX9_kill := by decide +kernel
  have hD := hD0.self (sz := s.heap.size)
  generalize hAe : va_A [(h0, .inr (9, [.int i_thrown, .ref m1, .int i_length, .int i_size, .int i_p, .ref m5, .ref m6, .ref m7, .int i_token, .int i_at, .int i_number, .int i_fault, .int i_faultAt, .int i_hour, .long i_word, .ref m15, .ref m16, .ref m17, .ref m18, .ref m19, .ref m20, .int i_horses, .ref m22, .ref m23, .ref m24, .ref m25, .ref m26, .ref m27, .ref m28, .ref m29, .ref m30, .ref m31, .ref m32, .ref m33, .ref m34, .int i_tablets, .int (nI r9), .ref m37, .ref m38, .ref m39, .ref m40, .ref m41, .ref m42, .ref m43, .ref m44, .ref m45, .ref m46])), (m28, .inl (k_state, 60, .inl a_state)), (m37, .inl (k_loose, 60, .inl a_loose))] s.heap.size = A at hD ⊢
  have hA : ∀ q : Nat, s.heap.size ≤ q → A q := fun q h => by rw [← hAe]; exact Or.inr h
  have hS : va_S A s.heap s.heap [] := va_S.rf
  have hP : va_P (dC, dI) vwCl [(h0, .inr (9, [.int i_thrown, .ref m1, .int i_length, .int i_size, .int i_p, .ref m5, .ref m6, .ref m7, .int i_token, .int i_at, .int i_number, .int i_fault, .int i_faultAt, .int i_hour, .long i_word, .ref m15, .ref m16, .ref m17, .ref m18, .ref m19, .ref m20, .int i_horses, .ref m22, .ref m23, .ref m24, .ref m25, .ref m26, .ref m27, .ref m28, .ref m29, .ref m30, .ref m31, .ref m32, .ref m33, .ref m34, .int i_tablets, .int (nI r9), .ref m37, .ref m38, .ref m39, .ref m40, .ref m41, .ref m42, .ref m43, .ref m44, .ref m45, .ref m46])), (m28, .inl (k_state, 60, .inl a_state)), (m37, .inl (k_loose, 60, .inl a_loose))] s.heap := hP
  have hl := lv_entry ([.ref h0, .int p0]) (n := 2) (Nat.le_of_ble_eq_true rfl)
  rw [lg_entry_eq]
  generalize (lg_sl ([.ref h0, .int p0]) ++ List.replicate (2 - (lg_sl ([.ref h0, .int p0])).length) Slot.unset).toArray = ls at hl ⊢
  have hl : lv_has ls 2 [(0, .ref h0), (1, .int p0)] := hl
  refine lv_aload_n hx hb dX9_kill_0 rfl (lv_at hl 0 rfl) ?_
  refine lv_iconst (v := 0) hx hb dX9_kill_1 (by decide) ?_
  refine va_put (D := (dC, dI)) (ci := 9) (v := .int 0) (ty := (tyX9 0)) (C := RX9) (T := TX9) (N := 47) hx hb hts hin9 tyX9 tyX9_ok nmX9 hown hK hP hD hS 0 rfl rfl 0 (by decide) (hts (.fieldLink RX9 111 "YamRidersModel" "thrown" "I") (by decide +kernel)) (fun _ h9 => h9) rfl (by decide +kernel) rfl rfl (Nat.le_of_ble_eq_true rfl) dX9_kill_2 (fun H locs hP hD hS => ?_)
  have hP : va_P (dC, dI) vwCl [(h0, .inr (9, [.int 0, .ref m1, .int i_length, .int i_size, .int i_p, .ref m5, .ref m6, .ref m7, .int i_token, .int i_at, .int i_number, .int i_fault, .int i_faultAt, .int i_hour, .long i_word, .ref m15, .ref m16, .ref m17, .ref m18, .ref m19, .ref m20, .int i_horses, .ref m22, .ref m23, .ref m24, .ref m25, .ref m26, .ref m27, .ref m28, .ref m29, .ref m30, .ref m31, .ref m32, .ref m33, .ref m34, .int i_tablets, .int (nI r9), .ref m37, .ref m38, .ref m39, .ref m40, .ref m41, .ref m42, .ref m43, .ref m44, .ref m45, .ref m46])), (m28, .inl (k_state, 60, .inl a_state)), (m37, .inl (k_loose, 60, .inl a_loose))] H := hP
  have hD : va_D A [(h0, .inr (9, [.int 0, .ref m1, .int i_length, .int i_size, .int i_p, .ref m5, .ref m6, .ref m7, .int i_token, .int i_at, .int i_number, .int i_fault, .int i_faultAt, .int i_hour, .long i_word, .ref m15, .ref m16, .ref m17, .ref m18, .ref m19, .ref m20, .int i_horses, .ref m22, .ref m23, .ref m24, .ref m25, .ref m26, .ref m27, .ref m28, .ref m29, .ref m30, .ref m31, .ref m32, .ref m33, .ref m34, .int i_tablets, .int (nI r9), .ref m37, .ref m38, .ref m39, .ref m40, .ref m41, .ref m42, .ref m43, .ref m44, .ref m45, .ref m46])), (m28, .inl (k_state, 60, .inl a_state)), (m37, .inl (k_loose, 60, .inl a_loose))] := hD
  refine lv_aload_n hx hb dX9_kill_5 rfl (lv_at hl 0 rfl) ?_
  refine lv_iload_n hx hb dX9_kill_6 rfl (lv_at hl 1 rfl) ?_
  have hPc := hP.sub (ws' := [(h0, .inr (9, [.int 0, .ref m1, .int i_length, .int i_size, .int i_p, .ref m5, .ref m6, .ref m7, .int i_token, .int i_at, .int i_number, .int i_fault, .int i_faultAt, .int i_hour, .long i_word, .ref m15, .ref m16, .ref m17, .ref m18, .ref m19, .ref m20, .int i_horses, .ref m22, .ref m23, .ref m24, .ref m25, .ref m26, .ref m27, .ref m28, .ref m29, .ref m30, .ref m31, .ref m32, .ref m33, .ref m34, .int i_tablets, .int (nI r9), .ref m37, .ref m38, .ref m39, .ref m40, .ref m41, .ref m42, .ref m43, .ref m44, .ref m45, .ref m46]))]) [0] rfl
  have hDc := hD.sub (ws' := [(h0, .inr (9, [.int 0, .ref m1, .int i_length, .int i_size, .int i_p, .ref m5, .ref m6, .ref m7, .int i_token, .int i_at, .int i_number, .int i_fault, .int i_faultAt, .int i_hour, .long i_word, .ref m15, .ref m16, .ref m17, .ref m18, .ref m19, .ref m20, .int i_horses, .ref m22, .ref m23, .ref m24, .ref m25, .ref m26, .ref m27, .ref m28, .ref m29, .ref m30, .ref m31, .ref m32, .ref m33, .ref m34, .int i_tablets, .int (nI r9), .ref m37, .ref m38, .ref m39, .ref m40, .ref m41, .ref m42, .ref m43, .ref m44, .ref m45, .ref m46]))]) [0] (by decide) rfl
  have hKc := hK.sub (tys' := []) [] rfl
  refine cs_i (va_runV (As := [.int p0]) (rest := []) ⟨hx, hb, hml, hown, hts⟩ (g_X9_isRider l dC dI h0 m1 m5 m6 m7 m15 m16 m17 m18 m19 m20 m22 m23 m24 m25 m26 m27 m28 m29 m30 m31 m32 m33 m34 m37 m38 m39 m40 m41 m42 m43 m44 m45 m46 0 i_length i_size i_p i_token i_at i_number i_fault i_faultAt i_hour i_horses i_tablets i_word p0 r9 H.size) (cwV 1 hts gX9_kill_X9_isRider rfl rfl rfl (by decide +kernel) ⟨Nat.le_of_ble_eq_true rfl, Nat.le_of_ble_eq_true rfl⟩) ⟨c_blind, va_recv hKc hPc (ci := 9) (q0 := 0) rfl rfl, c_pre hPc hKc hDc hN⟩ rfl rfl hl.1 rfl (lv_room (Nat.le_of_ble_eq_true rfl)) dX9_kill_7 ⟨Nat.le_of_ble_eq_true rfl, Nat.le_of_ble_eq_true rfl⟩) (fun r_1 hr_1 => ?_)
  subst hr_1
  refine lv_if_eq (tgt := 21) hx hb dX9_kill_10 (by decide) (fun c_2 => ?_) (fun c_2 => ?_)
  · refine lv_iconst (v := 0) hx hb dX9_kill_21 (by decide) ?_
    have hP9 := hP.sub (ws' := [(h0, .inr (9, [.int 0, .ref m1, .int i_length, .int i_size, .int i_p, .ref m5, .ref m6, .ref m7, .int i_token, .int i_at, .int i_number, .int i_fault, .int i_faultAt, .int i_hour, .long i_word, .ref m15, .ref m16, .ref m17, .ref m18, .ref m19, .ref m20, .int i_horses, .ref m22, .ref m23, .ref m24, .ref m25, .ref m26, .ref m27, .ref m28, .ref m29, .ref m30, .ref m31, .ref m32, .ref m33, .ref m34, .int i_tablets, .int (nI r9), .ref m37, .ref m38, .ref m39, .ref m40, .ref m41, .ref m42, .ref m43, .ref m44, .ref m45, .ref m46])), (m28, .inl (k_state, 60, .inl a_state)), (m37, .inl (k_loose, 60, .inl a_loose))]) [0, 1, 2] rfl
    have hD9 := hD.sub (ws' := [(h0, .inr (9, [.int 0, .ref m1, .int i_length, .int i_size, .int i_p, .ref m5, .ref m6, .ref m7, .int i_token, .int i_at, .int i_number, .int i_fault, .int i_faultAt, .int i_hour, .long i_word, .ref m15, .ref m16, .ref m17, .ref m18, .ref m19, .ref m20, .int i_horses, .ref m22, .ref m23, .ref m24, .ref m25, .ref m26, .ref m27, .ref m28, .ref m29, .ref m30, .ref m31, .ref m32, .ref m33, .ref m34, .int i_tablets, .int (nI r9), .ref m37, .ref m38, .ref m39, .ref m40, .ref m41, .ref m42, .ref m43, .ref m44, .ref m45, .ref m46])), (m28, .inl (k_state, 60, .inl a_state)), (m37, .inl (k_loose, 60, .inl a_loose))]) [0, 1, 2] (by decide) rfl
    have hK9 := hK.sub (tys' := []) [] rfl
    refine W.widen (k := 0) (n := 0) (Nat.le_of_ble_eq_true rfl) (Nat.le_of_ble_eq_true rfl) ?_
    exact W.zret (v := 0) hx hb hr rfl (fun t9 ht hW => ⟨⟨_, 0, rfl, rfl, a_state, a_loose, (Or.inl rfl), by rw [ht]; exact hP9, va_K.moved hW.alike hK9, hD9⟩, hS.F ht⟩) hS.2.2 dX9_kill_22
  · obtain ⟨j9, hj9, rfl⟩ := has_of c_2
    refine lv_aload_n hx hb dX9_kill_13 rfl (lv_at hl 0 rfl) ?_
    refine lv_iload_n hx hb dX9_kill_14 rfl (lv_at hl 1 rfl) ?_
    have hPc := hP.sub (ws' := [(h0, .inr (9, [.int 0, .ref m1, .int i_length, .int i_size, .int i_p, .ref m5, .ref m6, .ref m7, .int i_token, .int i_at, .int i_number, .int i_fault, .int i_faultAt, .int i_hour, .long i_word, .ref m15, .ref m16, .ref m17, .ref m18, .ref m19, .ref m20, .int i_horses, .ref m22, .ref m23, .ref m24, .ref m25, .ref m26, .ref m27, .ref m28, .ref m29, .ref m30, .ref m31, .ref m32, .ref m33, .ref m34, .int i_tablets, .int (nI r9), .ref m37, .ref m38, .ref m39, .ref m40, .ref m41, .ref m42, .ref m43, .ref m44, .ref m45, .ref m46])), (m28, .inl (k_state, 60, .inl a_state))]) [0, 1] rfl
    have hDc := hD.sub (ws' := [(h0, .inr (9, [.int 0, .ref m1, .int i_length, .int i_size, .int i_p, .ref m5, .ref m6, .ref m7, .int i_token, .int i_at, .int i_number, .int i_fault, .int i_faultAt, .int i_hour, .long i_word, .ref m15, .ref m16, .ref m17, .ref m18, .ref m19, .ref m20, .int i_horses, .ref m22, .ref m23, .ref m24, .ref m25, .ref m26, .ref m27, .ref m28, .ref m29, .ref m30, .ref m31, .ref m32, .ref m33, .ref m34, .int i_tablets, .int (nI r9), .ref m37, .ref m38, .ref m39, .ref m40, .ref m41, .ref m42, .ref m43, .ref m44, .ref m45, .ref m46])), (m28, .inl (k_state, 60, .inl a_state))]) [0, 1] (by decide) rfl
    have hKc := hK.sub (tys' := [(k_state, .int)]) [0] rfl
    refine cs_i (va_runV (As := [.int (nI j9)]) (rest := []) ⟨hx, hb, hml, hown, hts⟩ (g_X9_isOnWay l dC dI h0 m1 m5 m6 m7 m15 m16 m17 m18 m19 m20 m22 m23 m24 m25 m26 m27 m28 m29 m30 m31 m32 m33 m34 m37 m38 m39 m40 m41 m42 m43 m44 m45 m46 0 i_length i_size i_p i_token i_at i_number i_fault i_faultAt i_hour i_horses i_tablets (nI r9) i_word k_state a_state j9 H.size (by omega)) (cwV 1 hts gX9_kill_X9_isOnWay rfl rfl rfl (by decide +kernel) ⟨Nat.le_of_ble_eq_true rfl, Nat.le_of_ble_eq_true rfl⟩) ⟨c_blind, va_recv hKc hPc (ci := 9) (q0 := 0) rfl rfl, c_pre hPc hKc hDc hN⟩ rfl rfl hl.1 rfl (lv_room (Nat.le_of_ble_eq_true rfl)) dX9_kill_15 ⟨Nat.le_of_ble_eq_true rfl, Nat.le_of_ble_eq_true rfl⟩) (fun r_3 hr_3 => ?_)
    subst hr_3
    refine lv_if_ne (tgt := 23) hx hb dX9_kill_18 (by decide) (fun c_4 => ?_) (fun c_4 => ?_)
    · refine lv_aload_n hx hb dX9_kill_23 rfl (lv_at hl 0 rfl) ?_
      refine va_get (D := (dC, dI)) (ci := 9) (v := .ref m37) (C := RX9) (T := TX9) (N := 47) hx hb hts hin9 hown hK hP 0 rfl rfl 37 (by decide) (hts (.fieldLink RX9 81 "YamRidersModel" "loose" "[Z") (by decide +kernel)) (fun _ h9 => h9) rfl dX9_kill_24 ?_
      refine lv_iload_n hx hb dX9_kill_27 rfl (lv_at hl 1 rfl) ?_
      refine lv_aload_n hx hb dX9_kill_28 rfl (lv_at hl 0 rfl) ?_
      refine va_get (D := (dC, dI)) (ci := 9) (v := .ref m28) (C := RX9) (T := TX9) (N := 47) hx hb hts hin9 hown hK hP 0 rfl rfl 28 (by decide) (hts (.fieldLink RX9 60 "YamRidersModel" "state" "[I") (by decide +kernel)) (fun _ h9 => h9) rfl dX9_kill_29 ?_
      refine lv_iload_n hx hb dX9_kill_32 rfl (lv_at hl 1 rfl) ?_
      refine va_iald hx hb hK hP 1 0 rfl rfl (vp_in_nI (by omega) (by decide)) dX9_kill_33 ?_
      refine lv_iconst (v := 1) hx hb dX9_kill_34 (by decide) ?_
      refine lv_icmp_ne (tgt := 42) hx hb dX9_kill_35 (by decide) (fun c_5 => ?_) (fun c_5 => ?_)
      · refine lv_iconst (v := 0) hx hb dX9_kill_42 (by decide) ?_
        refine va_zast hx hb hK hP hD hS 2 1 rfl rfl (vp_in_nI (by omega) (by decide)) dX9_kill_43 (fun H locs hP hD hS => ?_)
        have hP : va_P (dC, dI) vwCl [(h0, .inr (9, [.int 0, .ref m1, .int i_length, .int i_size, .int i_p, .ref m5, .ref m6, .ref m7, .int i_token, .int i_at, .int i_number, .int i_fault, .int i_faultAt, .int i_hour, .long i_word, .ref m15, .ref m16, .ref m17, .ref m18, .ref m19, .ref m20, .int i_horses, .ref m22, .ref m23, .ref m24, .ref m25, .ref m26, .ref m27, .ref m28, .ref m29, .ref m30, .ref m31, .ref m32, .ref m33, .ref m34, .int i_tablets, .int (nI r9), .ref m37, .ref m38, .ref m39, .ref m40, .ref m41, .ref m42, .ref m43, .ref m44, .ref m45, .ref m46])), (m28, .inl (k_state, 60, .inl a_state)), (m37, .inl (k_loose, 60, .inl (upd a_loose (nI j9).toNatClampNeg (vp_nar .boolean 0))))] H := hP
        have hD : va_D A [(h0, .inr (9, [.int 0, .ref m1, .int i_length, .int i_size, .int i_p, .ref m5, .ref m6, .ref m7, .int i_token, .int i_at, .int i_number, .int i_fault, .int i_faultAt, .int i_hour, .long i_word, .ref m15, .ref m16, .ref m17, .ref m18, .ref m19, .ref m20, .int i_horses, .ref m22, .ref m23, .ref m24, .ref m25, .ref m26, .ref m27, .ref m28, .ref m29, .ref m30, .ref m31, .ref m32, .ref m33, .ref m34, .int i_tablets, .int (nI r9), .ref m37, .ref m38, .ref m39, .ref m40, .ref m41, .ref m42, .ref m43, .ref m44, .ref m45, .ref m46])), (m28, .inl (k_state, 60, .inl a_state)), (m37, .inl (k_loose, 60, .inl (upd a_loose (nI j9).toNatClampNeg (vp_nar .boolean 0))))] := hD
        obtain ⟨f_6, ef_6⟩ : ∃ w9 : Nat → Int32, w9 = upd a_loose (nI j9).toNatClampNeg (vp_nar .boolean 0) := ⟨_, rfl⟩
        rw [← ef_6] at hP hD
        refine lv_aload_n hx hb dX9_kill_44 rfl (lv_at hl 0 rfl) ?_
        refine va_get (D := (dC, dI)) (ci := 9) (v := .ref m28) (C := RX9) (T := TX9) (N := 47) hx hb hts hin9 hown hK hP 0 rfl rfl 28 (by decide) (hts (.fieldLink RX9 60 "YamRidersModel" "state" "[I") (by decide +kernel)) (fun _ h9 => h9) rfl dX9_kill_45 ?_
        refine lv_iload_n hx hb dX9_kill_48 rfl (lv_at hl 1 rfl) ?_
        refine lv_iconst (v := 4) hx hb dX9_kill_49 (by decide) ?_
        refine va_iast hx hb hK hP hD hS 1 0 rfl rfl (vp_in_nI (by omega) (by decide)) dX9_kill_50 (fun H locs hP hD hS => ?_)
        have hP : va_P (dC, dI) vwCl [(h0, .inr (9, [.int 0, .ref m1, .int i_length, .int i_size, .int i_p, .ref m5, .ref m6, .ref m7, .int i_token, .int i_at, .int i_number, .int i_fault, .int i_faultAt, .int i_hour, .long i_word, .ref m15, .ref m16, .ref m17, .ref m18, .ref m19, .ref m20, .int i_horses, .ref m22, .ref m23, .ref m24, .ref m25, .ref m26, .ref m27, .ref m28, .ref m29, .ref m30, .ref m31, .ref m32, .ref m33, .ref m34, .int i_tablets, .int (nI r9), .ref m37, .ref m38, .ref m39, .ref m40, .ref m41, .ref m42, .ref m43, .ref m44, .ref m45, .ref m46])), (m28, .inl (k_state, 60, .inl (upd a_state (nI j9).toNatClampNeg 4))), (m37, .inl (k_loose, 60, .inl f_6))] H := hP
        have hD : va_D A [(h0, .inr (9, [.int 0, .ref m1, .int i_length, .int i_size, .int i_p, .ref m5, .ref m6, .ref m7, .int i_token, .int i_at, .int i_number, .int i_fault, .int i_faultAt, .int i_hour, .long i_word, .ref m15, .ref m16, .ref m17, .ref m18, .ref m19, .ref m20, .int i_horses, .ref m22, .ref m23, .ref m24, .ref m25, .ref m26, .ref m27, .ref m28, .ref m29, .ref m30, .ref m31, .ref m32, .ref m33, .ref m34, .int i_tablets, .int (nI r9), .ref m37, .ref m38, .ref m39, .ref m40, .ref m41, .ref m42, .ref m43, .ref m44, .ref m45, .ref m46])), (m28, .inl (k_state, 60, .inl (upd a_state (nI j9).toNatClampNeg 4))), (m37, .inl (k_loose, 60, .inl f_6))] := hD
        obtain ⟨f_7, ef_7⟩ : ∃ w9 : Nat → Int32, w9 = upd a_state (nI j9).toNatClampNeg 4 := ⟨_, rfl⟩
        rw [← ef_7] at hP hD
        refine lv_iconst (v := 1) hx hb dX9_kill_51 (by decide) ?_
        have hP9 := hP.sub (ws' := [(h0, .inr (9, [.int 0, .ref m1, .int i_length, .int i_size, .int i_p, .ref m5, .ref m6, .ref m7, .int i_token, .int i_at, .int i_number, .int i_fault, .int i_faultAt, .int i_hour, .long i_word, .ref m15, .ref m16, .ref m17, .ref m18, .ref m19, .ref m20, .int i_horses, .ref m22, .ref m23, .ref m24, .ref m25, .ref m26, .ref m27, .ref m28, .ref m29, .ref m30, .ref m31, .ref m32, .ref m33, .ref m34, .int i_tablets, .int (nI r9), .ref m37, .ref m38, .ref m39, .ref m40, .ref m41, .ref m42, .ref m43, .ref m44, .ref m45, .ref m46])), (m28, .inl (k_state, 60, .inl f_7)), (m37, .inl (k_loose, 60, .inl f_6))]) [0, 1, 2] rfl
        have hD9 := hD.sub (ws' := [(h0, .inr (9, [.int 0, .ref m1, .int i_length, .int i_size, .int i_p, .ref m5, .ref m6, .ref m7, .int i_token, .int i_at, .int i_number, .int i_fault, .int i_faultAt, .int i_hour, .long i_word, .ref m15, .ref m16, .ref m17, .ref m18, .ref m19, .ref m20, .int i_horses, .ref m22, .ref m23, .ref m24, .ref m25, .ref m26, .ref m27, .ref m28, .ref m29, .ref m30, .ref m31, .ref m32, .ref m33, .ref m34, .int i_tablets, .int (nI r9), .ref m37, .ref m38, .ref m39, .ref m40, .ref m41, .ref m42, .ref m43, .ref m44, .ref m45, .ref m46])), (m28, .inl (k_state, 60, .inl f_7)), (m37, .inl (k_loose, 60, .inl f_6))]) [0, 1, 2] (by decide) rfl
        have hK9 := hK.sub (tys' := []) [] rfl
        refine W.widen (k := 0) (n := 0) (Nat.le_of_ble_eq_true rfl) (Nat.le_of_ble_eq_true rfl) ?_
        exact W.zret (v := 1) hx hb hr rfl (fun t9 ht hW => ⟨⟨_, 1, rfl, rfl, f_7, f_6, (Or.inr rfl), by rw [ht]; exact hP9, va_K.moved hW.alike hK9, hD9⟩, hS.F ht⟩) hS.2.2 dX9_kill_52
      · refine lv_iconst (v := 1) hx hb dX9_kill_38 (by decide) ?_
        refine lv_goto (tgt := 43) hx hb dX9_kill_39 (by decide) ?_
        refine va_zast hx hb hK hP hD hS 2 1 rfl rfl (vp_in_nI (by omega) (by decide)) dX9_kill_43 (fun H locs hP hD hS => ?_)
        have hP : va_P (dC, dI) vwCl [(h0, .inr (9, [.int 0, .ref m1, .int i_length, .int i_size, .int i_p, .ref m5, .ref m6, .ref m7, .int i_token, .int i_at, .int i_number, .int i_fault, .int i_faultAt, .int i_hour, .long i_word, .ref m15, .ref m16, .ref m17, .ref m18, .ref m19, .ref m20, .int i_horses, .ref m22, .ref m23, .ref m24, .ref m25, .ref m26, .ref m27, .ref m28, .ref m29, .ref m30, .ref m31, .ref m32, .ref m33, .ref m34, .int i_tablets, .int (nI r9), .ref m37, .ref m38, .ref m39, .ref m40, .ref m41, .ref m42, .ref m43, .ref m44, .ref m45, .ref m46])), (m28, .inl (k_state, 60, .inl a_state)), (m37, .inl (k_loose, 60, .inl (upd a_loose (nI j9).toNatClampNeg (vp_nar .boolean 1))))] H := hP
        have hD : va_D A [(h0, .inr (9, [.int 0, .ref m1, .int i_length, .int i_size, .int i_p, .ref m5, .ref m6, .ref m7, .int i_token, .int i_at, .int i_number, .int i_fault, .int i_faultAt, .int i_hour, .long i_word, .ref m15, .ref m16, .ref m17, .ref m18, .ref m19, .ref m20, .int i_horses, .ref m22, .ref m23, .ref m24, .ref m25, .ref m26, .ref m27, .ref m28, .ref m29, .ref m30, .ref m31, .ref m32, .ref m33, .ref m34, .int i_tablets, .int (nI r9), .ref m37, .ref m38, .ref m39, .ref m40, .ref m41, .ref m42, .ref m43, .ref m44, .ref m45, .ref m46])), (m28, .inl (k_state, 60, .inl a_state)), (m37, .inl (k_loose, 60, .inl (upd a_loose (nI j9).toNatClampNeg (vp_nar .boolean 1))))] := hD
        obtain ⟨f_8, ef_8⟩ : ∃ w9 : Nat → Int32, w9 = upd a_loose (nI j9).toNatClampNeg (vp_nar .boolean 1) := ⟨_, rfl⟩
        rw [← ef_8] at hP hD
        refine lv_aload_n hx hb dX9_kill_44 rfl (lv_at hl 0 rfl) ?_
        refine va_get (D := (dC, dI)) (ci := 9) (v := .ref m28) (C := RX9) (T := TX9) (N := 47) hx hb hts hin9 hown hK hP 0 rfl rfl 28 (by decide) (hts (.fieldLink RX9 60 "YamRidersModel" "state" "[I") (by decide +kernel)) (fun _ h9 => h9) rfl dX9_kill_45 ?_
        refine lv_iload_n hx hb dX9_kill_48 rfl (lv_at hl 1 rfl) ?_
        refine lv_iconst (v := 4) hx hb dX9_kill_49 (by decide) ?_
        refine va_iast hx hb hK hP hD hS 1 0 rfl rfl (vp_in_nI (by omega) (by decide)) dX9_kill_50 (fun H locs hP hD hS => ?_)
        have hP : va_P (dC, dI) vwCl [(h0, .inr (9, [.int 0, .ref m1, .int i_length, .int i_size, .int i_p, .ref m5, .ref m6, .ref m7, .int i_token, .int i_at, .int i_number, .int i_fault, .int i_faultAt, .int i_hour, .long i_word, .ref m15, .ref m16, .ref m17, .ref m18, .ref m19, .ref m20, .int i_horses, .ref m22, .ref m23, .ref m24, .ref m25, .ref m26, .ref m27, .ref m28, .ref m29, .ref m30, .ref m31, .ref m32, .ref m33, .ref m34, .int i_tablets, .int (nI r9), .ref m37, .ref m38, .ref m39, .ref m40, .ref m41, .ref m42, .ref m43, .ref m44, .ref m45, .ref m46])), (m28, .inl (k_state, 60, .inl (upd a_state (nI j9).toNatClampNeg 4))), (m37, .inl (k_loose, 60, .inl f_8))] H := hP
        have hD : va_D A [(h0, .inr (9, [.int 0, .ref m1, .int i_length, .int i_size, .int i_p, .ref m5, .ref m6, .ref m7, .int i_token, .int i_at, .int i_number, .int i_fault, .int i_faultAt, .int i_hour, .long i_word, .ref m15, .ref m16, .ref m17, .ref m18, .ref m19, .ref m20, .int i_horses, .ref m22, .ref m23, .ref m24, .ref m25, .ref m26, .ref m27, .ref m28, .ref m29, .ref m30, .ref m31, .ref m32, .ref m33, .ref m34, .int i_tablets, .int (nI r9), .ref m37, .ref m38, .ref m39, .ref m40, .ref m41, .ref m42, .ref m43, .ref m44, .ref m45, .ref m46])), (m28, .inl (k_state, 60, .inl (upd a_state (nI j9).toNatClampNeg 4))), (m37, .inl (k_loose, 60, .inl f_8))] := hD
        obtain ⟨f_9, ef_9⟩ : ∃ w9 : Nat → Int32, w9 = upd a_state (nI j9).toNatClampNeg 4 := ⟨_, rfl⟩
        rw [← ef_9] at hP hD
        refine lv_iconst (v := 1) hx hb dX9_kill_51 (by decide) ?_
        have hP9 := hP.sub (ws' := [(h0, .inr (9, [.int 0, .ref m1, .int i_length, .int i_size, .int i_p, .ref m5, .ref m6, .ref m7, .int i_token, .int i_at, .int i_number, .int i_fault, .int i_faultAt, .int i_hour, .long i_word, .ref m15, .ref m16, .ref m17, .ref m18, .ref m19, .ref m20, .int i_horses, .ref m22, .ref m23, .ref m24, .ref m25, .ref m26, .ref m27, .ref m28, .ref m29, .ref m30, .ref m31, .ref m32, .ref m33, .ref m34, .int i_tablets, .int (nI r9), .ref m37, .ref m38, .ref m39, .ref m40, .ref m41, .ref m42, .ref m43, .ref m44, .ref m45, .ref m46])), (m28, .inl (k_state, 60, .inl f_9)), (m37, .inl (k_loose, 60, .inl f_8))]) [0, 1, 2] rfl
        have hD9 := hD.sub (ws' := [(h0, .inr (9, [.int 0, .ref m1, .int i_length, .int i_size, .int i_p, .ref m5, .ref m6, .ref m7, .int i_token, .int i_at, .int i_number, .int i_fault, .int i_faultAt, .int i_hour, .long i_word, .ref m15, .ref m16, .ref m17, .ref m18, .ref m19, .ref m20, .int i_horses, .ref m22, .ref m23, .ref m24, .ref m25, .ref m26, .ref m27, .ref m28, .ref m29, .ref m30, .ref m31, .ref m32, .ref m33, .ref m34, .int i_tablets, .int (nI r9), .ref m37, .ref m38, .ref m39, .ref m40, .ref m41, .ref m42, .ref m43, .ref m44, .ref m45, .ref m46])), (m28, .inl (k_state, 60, .inl f_9)), (m37, .inl (k_loose, 60, .inl f_8))]) [0, 1, 2] (by decide) rfl
        have hK9 := hK.sub (tys' := []) [] rfl
        refine W.widen (k := 0) (n := 0) (Nat.le_of_ble_eq_true rfl) (Nat.le_of_ble_eq_true rfl) ?_
        exact W.zret (v := 1) hx hb hr rfl (fun t9 ht hW => ⟨⟨_, 1, rfl, rfl, f_9, f_8, (Or.inr rfl), by rw [ht]; exact hP9, va_K.moved hW.alike hK9, hD9⟩, hS.F ht⟩) hS.2.2 dX9_kill_52
    · refine lv_iconst (v := 0) hx hb dX9_kill_21 (by decide) ?_
      have hP9 := hP.sub (ws' := [(h0, .inr (9, [.int 0, .ref m1, .int i_length, .int i_size, .int i_p, .ref m5, .ref m6, .ref m7, .int i_token, .int i_at, .int i_number, .int i_fault, .int i_faultAt, .int i_hour, .long i_word, .ref m15, .ref m16, .ref m17, .ref m18, .ref m19, .ref m20, .int i_horses, .ref m22, .ref m23, .ref m24, .ref m25, .ref m26, .ref m27, .ref m28, .ref m29, .ref m30, .ref m31, .ref m32, .ref m33, .ref m34, .int i_tablets, .int (nI r9), .ref m37, .ref m38, .ref m39, .ref m40, .ref m41, .ref m42, .ref m43, .ref m44, .ref m45, .ref m46])), (m28, .inl (k_state, 60, .inl a_state)), (m37, .inl (k_loose, 60, .inl a_loose))]) [0, 1, 2] rfl
      have hD9 := hD.sub (ws' := [(h0, .inr (9, [.int 0, .ref m1, .int i_length, .int i_size, .int i_p, .ref m5, .ref m6, .ref m7, .int i_token, .int i_at, .int i_number, .int i_fault, .int i_faultAt, .int i_hour, .long i_word, .ref m15, .ref m16, .ref m17, .ref m18, .ref m19, .ref m20, .int i_horses, .ref m22, .ref m23, .ref m24, .ref m25, .ref m26, .ref m27, .ref m28, .ref m29, .ref m30, .ref m31, .ref m32, .ref m33, .ref m34, .int i_tablets, .int (nI r9), .ref m37, .ref m38, .ref m39, .ref m40, .ref m41, .ref m42, .ref m43, .ref m44, .ref m45, .ref m46])), (m28, .inl (k_state, 60, .inl a_state)), (m37, .inl (k_loose, 60, .inl a_loose))]) [0, 1, 2] (by decide) rfl
      have hK9 := hK.sub (tys' := []) [] rfl
      refine W.widen (k := 0) (n := 0) (Nat.le_of_ble_eq_true rfl) (Nat.le_of_ble_eq_true rfl) ?_
      exact W.zret (v := 0) hx hb hr rfl (fun t9 ht hW => ⟨⟨_, 0, rfl, rfl, a_state, a_loose, (Or.inl rfl), by rw [ht]; exact hP9, va_K.moved hW.alike hK9, hD9⟩, hS.F ht⟩) hS.2.2 dX9_kill_22

set_option maxHeartbeats 4000000 in
set_option maxRecDepth 100000 in
theorem g_X2_isUnderWay_n (l : Launch) (dC : Nat → ClassId) (dI : Nat → Nat → Nat) (h0 : Nat) (s1 : Nat) (s2 : Nat) (o_tablet : Int32) (o_rank : Int32) (o_state : Int32) (o_reached : Int32) (o_came : Int32) (o_left : Int32) (o_time : Int32) (sz : Nat) : Met l yX2_isUnderWay wsX2_isUnderWay ({ frames := 0, cells := 0, slots := 0, locals := 0 }) (va_Pc [.ref h0] (cP dC dI [(h0, .inr (2, [.int o_tablet, .int o_rank, .ref s1, .ref s2, .int o_state, .int o_reached, .int o_came, .null, .int o_left, .int o_time]))] [] sz)) (vp_Si (fun r => r = (if o_state = 0 then 1 else (if o_state = 1 then 1 else 0)))) 0 0 (fun _ => False) := by
  refine Met.ofW (cc := cX2_isUnderWay) (maxL := 1) (ret := (some .boolean)) (by decide) rfl ?_
  intro p e s m args below meth c s₁ B hml hv
  obtain ⟨rfl, hsz, hP, hK, hD0, hN⟩ := hv
  have hx := B.exec
  have hb := B.bytes
  have hr := B.returns
  have hts := atoms_spec (ws := wsX2_isUnderWay) B.pre
  have hown : s.vm.findClass RX2 = some m.cls := findClass_of_methodNamed B.named
  have hlocks := B.notSynchronized
  subst hsz
  have hin2 : ∀ w ∈ u_ws RX2 TX2 10, w ∈ wsX2_isUnderWay := by decide +kernel
  have hD := hD0
  have hP : va_P (dC, dI) vwCl [(h0, .inr (2, [.int o_tablet, .int o_rank, .ref s1, .ref s2, .int o_state, .int o_reached, .int o_came, .null, .int o_left, .int o_time]))] s.heap := hP
  have hl := lv_entry ([.ref h0]) (n := 1) (Nat.le_of_ble_eq_true rfl)
  rw [lg_entry_eq]
  generalize (lg_sl ([.ref h0]) ++ List.replicate (1 - (lg_sl ([.ref h0])).length) Slot.unset).toArray = ls at hl ⊢
  have hl : lv_has ls 1 [(0, .ref h0)] := hl
  refine lv_aload_n hx hb dX2_isUnderWay_0 rfl (lv_at hl 0 rfl) ?_
  refine va_get (D := (dC, dI)) (ci := 2) (v := .int o_state) (C := RX2) (T := TX2) (N := 10) hx hb hts hin2 hown hK hP 0 rfl rfl 4 (by decide) (hts (.fieldLink RX2 15 "YamRiders$Rider" "state" "I") (by decide +kernel)) (fun _ h9 => h9) rfl dX2_isUnderWay_1 ?_
  refine lv_if_eq (tgt := 15) hx hb dX2_isUnderWay_4 (by decide) (fun c_1 => ?_) (fun c_1 => ?_)
  · refine lv_iconst (v := 1) hx hb dX2_isUnderWay_15 (by decide) ?_
    refine lv_goto (tgt := 20) hx hb dX2_isUnderWay_16 (by decide) ?_
    exact W.zret (v := 1) hx hb hr rfl (fun t9 ht hW => ⟨_, rfl, (by rw [if_pos c_1]), ht⟩) (fun q h => nomatch h) dX2_isUnderWay_20
  · refine lv_aload_n hx hb dX2_isUnderWay_7 rfl (lv_at hl 0 rfl) ?_
    refine va_get (D := (dC, dI)) (ci := 2) (v := .int o_state) (C := RX2) (T := TX2) (N := 10) hx hb hts hin2 hown hK hP 0 rfl rfl 4 (by decide) (hts (.fieldLink RX2 15 "YamRiders$Rider" "state" "I") (by decide +kernel)) (fun _ h9 => h9) rfl dX2_isUnderWay_8 ?_
    refine lv_iconst (v := 1) hx hb dX2_isUnderWay_11 (by decide) ?_
    refine lv_icmp_ne (tgt := 19) hx hb dX2_isUnderWay_12 (by decide) (fun c_2 => ?_) (fun c_2 => ?_)
    · refine lv_iconst (v := 0) hx hb dX2_isUnderWay_19 (by decide) ?_
      exact W.zret (v := 0) hx hb hr rfl (fun t9 ht hW => ⟨_, rfl, (by rw [if_neg c_1, if_neg c_2]), ht⟩) (fun q h => nomatch h) dX2_isUnderWay_20
    · refine lv_iconst (v := 1) hx hb dX2_isUnderWay_15 (by decide) ?_
      refine lv_goto (tgt := 20) hx hb dX2_isUnderWay_16 (by decide) ?_
      exact W.zret (v := 1) hx hb hr rfl (fun t9 ht hW => ⟨_, rfl, (by rw [if_neg c_1, if_pos c_2]), ht⟩) (fun q h => nomatch h) dX2_isUnderWay_20

set_option maxHeartbeats 4000000 in
set_option maxRecDepth 100000 in
theorem g_X2_stationOfWay_n (l : Launch) (dC : Nat → ClassId) (dI : Nat → Nat → Nat) (h0 : Nat) (s1 : Nat) (s2 : Nat) (o_tablet : Int32) (o_rank : Int32) (o_state : Int32) (o_reached : Int32) (o_came : Int32) (o_left : Int32) (o_time : Int32) (k1 : ClassId) (a_w : Nat → Int32) (wn9 : Nat) (p0 : Int32) (sz : Nat) (hwn9 : wn9 ≤ 12) : Met l yX2_stationOfWay wsX2_stationOfWay ({ frames := 0, cells := 0, slots := 0, locals := 0 }) (va_Pc [.ref h0, .int p0] (cP dC dI [(h0, .inr (2, [.int o_tablet, .int o_rank, .ref s1, .ref s2, .int o_state, .int o_reached, .int o_came, .null, .int o_left, .int o_time])), (s1, .inl (k1, wn9, .inl a_w))] [(k1, .int)] sz)) (vp_Si (fun r => r = (if p0 < 0 then (-1) else (if (nI wn9) ≤ p0 then (-1) else a_w p0.toNatClampNeg)))) 0 0 (fun _ => False) := by
  refine Met.ofW (cc := cX2_stationOfWay) (maxL := 2) (ret := (some .int)) (by decide) rfl ?_
  intro p e s m args below meth c s₁ B hml hv
  obtain ⟨rfl, hsz, hP, hK, hD0, hN⟩ := hv
  have hx := B.exec
  have hb := B.bytes
  have hr := B.returns
  have hts := atoms_spec (ws := wsX2_stationOfWay) B.pre
  have hown : s.vm.findClass RX2 = some m.cls := findClass_of_methodNamed B.named
  have hlocks := B.notSynchronized
  subst hsz
  have hin2 : ∀ w ∈ u_ws RX2 TX2 10, w ∈ wsX2_stationOfWay := by decide +kernel
  have hD := hD0
  have hP : va_P (dC, dI) vwCl [(h0, .inr (2, [.int o_tablet, .int o_rank, .ref s1, .ref s2, .int o_state, .int o_reached, .int o_came, .null, .int o_left, .int o_time])), (s1, .inl (k1, wn9, .inl a_w))] s.heap := hP
  have hl := lv_entry ([.ref h0, .int p0]) (n := 2) (Nat.le_of_ble_eq_true rfl)
  rw [lg_entry_eq]
  generalize (lg_sl ([.ref h0, .int p0]) ++ List.replicate (2 - (lg_sl ([.ref h0, .int p0])).length) Slot.unset).toArray = ls at hl ⊢
  have hl : lv_has ls 2 [(0, .ref h0), (1, .int p0)] := hl
  refine lv_iload_n hx hb dX2_stationOfWay_0 rfl (lv_at hl 1 rfl) ?_
  refine lv_if_lt (tgt := 22) hx hb dX2_stationOfWay_1 (by decide) (fun c_1 => ?_) (fun c_1 => ?_)
  · refine lv_iconst (v := (-1)) hx hb dX2_stationOfWay_22 (by decide) ?_
    exact W.iret (v := (-1)) hx hb hr (fun t9 ht hW => ⟨_, rfl, (by rw [if_pos c_1]), ht⟩) (fun q h => nomatch h) dX2_stationOfWay_23
  · refine lv_iload_n hx hb dX2_stationOfWay_4 rfl (lv_at hl 1 rfl) ?_
    refine lv_aload_n hx hb dX2_stationOfWay_5 rfl (lv_at hl 0 rfl) ?_
    refine va_get (D := (dC, dI)) (ci := 2) (v := .ref s1) (C := RX2) (T := TX2) (N := 10) hx hb hts hin2 hown hK hP 0 rfl rfl 2 (by decide) (hts (.fieldLink RX2 25 "YamRiders$Rider" "stations" "[I") (by decide +kernel)) (fun _ h9 => h9) rfl dX2_stationOfWay_6 ?_
    refine va_alen (v := nI wn9) hx hb hK hP 1 0 rfl rfl rfl dX2_stationOfWay_9 ?_
    refine lv_icmp_ge (tgt := 22) hx hb dX2_stationOfWay_10 (by decide) (fun c_2 => ?_) (fun c_2 => ?_)
    · refine lv_iconst (v := (-1)) hx hb dX2_stationOfWay_22 (by decide) ?_
      exact W.iret (v := (-1)) hx hb hr (fun t9 ht hW => ⟨_, rfl, (by rw [if_neg c_1, if_pos c_2]), ht⟩) (fun q h => nomatch h) dX2_stationOfWay_23
    · refine lv_aload_n hx hb dX2_stationOfWay_13 rfl (lv_at hl 0 rfl) ?_
      refine va_get (D := (dC, dI)) (ci := 2) (v := .ref s1) (C := RX2) (T := TX2) (N := 10) hx hb hts hin2 hown hK hP 0 rfl rfl 2 (by decide) (hts (.fieldLink RX2 25 "YamRiders$Rider" "stations" "[I") (by decide +kernel)) (fun _ h9 => h9) rfl dX2_stationOfWay_14 ?_
      refine lv_iload_n hx hb dX2_stationOfWay_17 rfl (lv_at hl 1 rfl) ?_
      refine va_iald hx hb hK hP 1 0 rfl rfl (wi_in hwn9 c_1 c_2) dX2_stationOfWay_18 ?_
      refine lv_goto (tgt := 23) hx hb dX2_stationOfWay_19 (by decide) ?_
      exact W.iret (v := a_w p0.toNatClampNeg) hx hb hr (fun t9 ht hW => ⟨_, rfl, (by rw [if_neg c_1, if_neg c_2]), ht⟩) (fun q h => nomatch h) dX2_stationOfWay_23

set_option maxHeartbeats 4000000 in
set_option maxRecDepth 100000 in
theorem g_X2_newsKnownSince_n (l : Launch) (dC : Nat → ClassId) (dI : Nat → Nat → Nat) (h0 : Nat) (s1 : Nat) (s2 : Nat) (o_tablet : Int32) (o_rank : Int32) (o_state : Int32) (o_reached : Int32) (o_came : Int32) (o_left : Int32) (o_time : Int32) (k2 : ClassId) (a_v : Nat → Int32) (p0 : Int32) (sz : Nat) : Met l yX2_newsKnownSince wsX2_newsKnownSince ({ frames := 1, cells := 0, slots := 0, locals := 20 }) (va_Pc [.ref h0, .int p0] (cP dC dI [(h0, .inr (2, [.int o_tablet, .int o_rank, .ref s1, .ref s2, .int o_state, .int o_reached, .int o_came, .null, .int o_left, .int o_time])), (s2, .inl (k2, 12, .inl a_v))] [(k2, .int)] sz)) (vp_Si (fun r => r = (if (sp_st p0) = 0 then (-1) else a_v p0.toNatClampNeg))) 0 0 (fun _ => False) := by
  refine Met.ofW (cc := cX2_newsKnownSince) (maxL := 2) (ret := (some .int)) (by decide) rfl ?_
  intro p e s m args below meth c s₁ B hml hv
  obtain ⟨rfl, hsz, hP, hK, hD0, hN⟩ := hv
  have hx := B.exec
  have hb := B.bytes
  have hr := B.returns
  have hts := atoms_spec (ws := wsX2_newsKnownSince) B.pre
  have hown : s.vm.findClass RX2 = some m.cls := findClass_of_methodNamed B.named
  have hlocks := B.notSynchronized
  subst hsz
  have hin2 : ∀ w ∈ u_ws RX2 TX2 10, w ∈ wsX2_newsKnownSince := by decide +kernel
  have hD := hD0
  have hP : va_P (dC, dI) vwCl [(h0, .inr (2, [.int o_tablet, .int o_rank, .ref s1, .ref s2, .int o_state, .int o_reached, .int o_came, .null, .int o_left, .int o_time])), (s2, .inl (k2, 12, .inl a_v))] s.heap := hP
  have hl := lv_entry ([.ref h0, .int p0]) (n := 2) (Nat.le_of_ble_eq_true rfl)
  rw [lg_entry_eq]
  generalize (lg_sl ([.ref h0, .int p0]) ++ List.replicate (2 - (lg_sl ([.ref h0, .int p0])).length) Slot.unset).toArray = ls at hl ⊢
  have hl : lv_has ls 2 [(0, .ref h0), (1, .int p0)] := hl
  refine lv_iload_n hx hb dX2_newsKnownSince_0 rfl (lv_at hl 1 rfl) ?_
  have hPc := hP.sub (ws' := []) [] rfl
  have hDc := hD.sub (ws' := []) [] (by decide) rfl
  have hKc := hK.sub (tys' := []) [] rfl
  refine cs_i (va_runSN (As := [.int p0]) (rest := []) ⟨hx, hb, hml, hown, hts⟩ (c_X8_isStation l dC dI p0 s.heap.size) ⟨va_cnB 1 hts ggX2_newsKnownSince_X8_isStation rfl rfl rfl (hN.1 (.methodLinkNest RX2 41 yX8_isStation "YamRiders") (by decide +kernel)) (hts (.initialized RX8) (by decide +kernel)) (by decide +kernel) ⟨Nat.le_of_ble_eq_true rfl, Nat.le_of_ble_eq_true rfl⟩, hts (.static yX8_isStation) (by decide +kernel), trivial⟩ ⟨c_blind, c_pre hPc hKc hDc hN⟩ rfl rfl hl.1 rfl (lv_room (Nat.le_of_ble_eq_true rfl)) dX2_newsKnownSince_1 ⟨Nat.le_of_ble_eq_true rfl, Nat.le_of_ble_eq_true rfl⟩) (fun r_1 hr_1 => ?_)
  subst hr_1
  refine lv_if_eq (tgt := 16) hx hb dX2_newsKnownSince_4 (by decide) (fun c_2 => ?_) (fun c_2 => ?_)
  · refine lv_iconst (v := (-1)) hx hb dX2_newsKnownSince_16 (by decide) ?_
    exact W.iret (v := (-1)) hx hb hr (fun t9 ht hW => ⟨_, rfl, (by rw [if_pos c_2]), ht⟩) (fun q h => nomatch h) dX2_newsKnownSince_17
  · refine lv_aload_n hx hb dX2_newsKnownSince_7 rfl (lv_at hl 0 rfl) ?_
    refine va_get (D := (dC, dI)) (ci := 2) (v := .ref s2) (C := RX2) (T := TX2) (N := 10) hx hb hts hin2 hown hK hP 0 rfl rfl 3 (by decide) (hts (.fieldLink RX2 9 "YamRiders$Rider" "newsSince" "[I") (by decide +kernel)) (fun _ h9 => h9) rfl dX2_newsKnownSince_8 ?_
    refine lv_iload_n hx hb dX2_newsKnownSince_11 rfl (lv_at hl 1 rfl) ?_
    refine va_iald hx hb hK hP 1 0 rfl rfl (st_in c_2) dX2_newsKnownSince_12 ?_
    refine lv_goto (tgt := 17) hx hb dX2_newsKnownSince_13 (by decide) ?_
    exact W.iret (v := a_v p0.toNatClampNeg) hx hb hr (fun t9 ht hW => ⟨_, rfl, (by rw [if_neg c_2]), ht⟩) (fun q h => nomatch h) dX2_newsKnownSince_17

set_option maxHeartbeats 4000000 in
set_option maxRecDepth 100000 in
theorem g_X2_isUnderWay_h (l : Launch) (dC : Nat → ClassId) (dI : Nat → Nat → Nat) (h0 : Nat) (s1 : Nat) (s2 : Nat) (o_tablet : Int32) (o_rank : Int32) (o_state : Int32) (o_reached : Int32) (o_came : Int32) (o_left : Int32) (o_time : Int32) (e1 : Nat) (sz : Nat) : Met l yX2_isUnderWay wsX2_isUnderWay ({ frames := 0, cells := 0, slots := 0, locals := 0 }) (va_Pc [.ref h0] (cP dC dI [(h0, .inr (2, [.int o_tablet, .int o_rank, .ref s1, .ref s2, .int o_state, .int o_reached, .int o_came, .ref e1, .int o_left, .int o_time]))] [] sz)) (vp_Si (fun r => r = (if o_state = 0 then 1 else (if o_state = 1 then 1 else 0)))) 0 0 (fun _ => False) := by
  refine Met.ofW (cc := cX2_isUnderWay) (maxL := 1) (ret := (some .boolean)) (by decide) rfl ?_
  intro p e s m args below meth c s₁ B hml hv
  obtain ⟨rfl, hsz, hP, hK, hD0, hN⟩ := hv
  have hx := B.exec
  have hb := B.bytes
  have hr := B.returns
  have hts := atoms_spec (ws := wsX2_isUnderWay) B.pre
  have hown : s.vm.findClass RX2 = some m.cls := findClass_of_methodNamed B.named
  have hlocks := B.notSynchronized
  subst hsz
  have hin2 : ∀ w ∈ u_ws RX2 TX2 10, w ∈ wsX2_isUnderWay := by decide +kernel
  have hD := hD0
  have hP : va_P (dC, dI) vwCl [(h0, .inr (2, [.int o_tablet, .int o_rank, .ref s1, .ref s2, .int o_state, .int o_reached, .int o_came, .ref e1, .int o_left, .int o_time]))] s.heap := hP
  have hl := lv_entry ([.ref h0]) (n := 1) (Nat.le_of_ble_eq_true rfl)
  rw [lg_entry_eq]
  generalize (lg_sl ([.ref h0]) ++ List.replicate (1 - (lg_sl ([.ref h0])).length) Slot.unset).toArray = ls at hl ⊢
  have hl : lv_has ls 1 [(0, .ref h0)] := hl
  refine lv_aload_n hx hb dX2_isUnderWay_0 rfl (lv_at hl 0 rfl) ?_
  refine va_get (D := (dC, dI)) (ci := 2) (v := .int o_state) (C := RX2) (T := TX2) (N := 10) hx hb hts hin2 hown hK hP 0 rfl rfl 4 (by decide) (hts (.fieldLink RX2 15 "YamRiders$Rider" "state" "I") (by decide +kernel)) (fun _ h9 => h9) rfl dX2_isUnderWay_1 ?_
  refine lv_if_eq (tgt := 15) hx hb dX2_isUnderWay_4 (by decide) (fun c_1 => ?_) (fun c_1 => ?_)
  · refine lv_iconst (v := 1) hx hb dX2_isUnderWay_15 (by decide) ?_
    refine lv_goto (tgt := 20) hx hb dX2_isUnderWay_16 (by decide) ?_
    exact W.zret (v := 1) hx hb hr rfl (fun t9 ht hW => ⟨_, rfl, (by rw [if_pos c_1]), ht⟩) (fun q h => nomatch h) dX2_isUnderWay_20
  · refine lv_aload_n hx hb dX2_isUnderWay_7 rfl (lv_at hl 0 rfl) ?_
    refine va_get (D := (dC, dI)) (ci := 2) (v := .int o_state) (C := RX2) (T := TX2) (N := 10) hx hb hts hin2 hown hK hP 0 rfl rfl 4 (by decide) (hts (.fieldLink RX2 15 "YamRiders$Rider" "state" "I") (by decide +kernel)) (fun _ h9 => h9) rfl dX2_isUnderWay_8 ?_
    refine lv_iconst (v := 1) hx hb dX2_isUnderWay_11 (by decide) ?_
    refine lv_icmp_ne (tgt := 19) hx hb dX2_isUnderWay_12 (by decide) (fun c_2 => ?_) (fun c_2 => ?_)
    · refine lv_iconst (v := 0) hx hb dX2_isUnderWay_19 (by decide) ?_
      exact W.zret (v := 0) hx hb hr rfl (fun t9 ht hW => ⟨_, rfl, (by rw [if_neg c_1, if_neg c_2]), ht⟩) (fun q h => nomatch h) dX2_isUnderWay_20
    · refine lv_iconst (v := 1) hx hb dX2_isUnderWay_15 (by decide) ?_
      refine lv_goto (tgt := 20) hx hb dX2_isUnderWay_16 (by decide) ?_
      exact W.zret (v := 1) hx hb hr rfl (fun t9 ht hW => ⟨_, rfl, (by rw [if_neg c_1, if_pos c_2]), ht⟩) (fun q h => nomatch h) dX2_isUnderWay_20

set_option maxHeartbeats 4000000 in
set_option maxRecDepth 100000 in
theorem g_X2_stationOfWay_h (l : Launch) (dC : Nat → ClassId) (dI : Nat → Nat → Nat) (h0 : Nat) (s1 : Nat) (s2 : Nat) (o_tablet : Int32) (o_rank : Int32) (o_state : Int32) (o_reached : Int32) (o_came : Int32) (o_left : Int32) (o_time : Int32) (e1 : Nat) (k1 : ClassId) (a_w : Nat → Int32) (wn9 : Nat) (p0 : Int32) (sz : Nat) (hwn9 : wn9 ≤ 12) : Met l yX2_stationOfWay wsX2_stationOfWay ({ frames := 0, cells := 0, slots := 0, locals := 0 }) (va_Pc [.ref h0, .int p0] (cP dC dI [(h0, .inr (2, [.int o_tablet, .int o_rank, .ref s1, .ref s2, .int o_state, .int o_reached, .int o_came, .ref e1, .int o_left, .int o_time])), (s1, .inl (k1, wn9, .inl a_w))] [(k1, .int)] sz)) (vp_Si (fun r => r = (if p0 < 0 then (-1) else (if (nI wn9) ≤ p0 then (-1) else a_w p0.toNatClampNeg)))) 0 0 (fun _ => False) := by
  refine Met.ofW (cc := cX2_stationOfWay) (maxL := 2) (ret := (some .int)) (by decide) rfl ?_
  intro p e s m args below meth c s₁ B hml hv
  obtain ⟨rfl, hsz, hP, hK, hD0, hN⟩ := hv
  have hx := B.exec
  have hb := B.bytes
  have hr := B.returns
  have hts := atoms_spec (ws := wsX2_stationOfWay) B.pre
  have hown : s.vm.findClass RX2 = some m.cls := findClass_of_methodNamed B.named
  have hlocks := B.notSynchronized
  subst hsz
  have hin2 : ∀ w ∈ u_ws RX2 TX2 10, w ∈ wsX2_stationOfWay := by decide +kernel
  have hD := hD0
  have hP : va_P (dC, dI) vwCl [(h0, .inr (2, [.int o_tablet, .int o_rank, .ref s1, .ref s2, .int o_state, .int o_reached, .int o_came, .ref e1, .int o_left, .int o_time])), (s1, .inl (k1, wn9, .inl a_w))] s.heap := hP
  have hl := lv_entry ([.ref h0, .int p0]) (n := 2) (Nat.le_of_ble_eq_true rfl)
  rw [lg_entry_eq]
  generalize (lg_sl ([.ref h0, .int p0]) ++ List.replicate (2 - (lg_sl ([.ref h0, .int p0])).length) Slot.unset).toArray = ls at hl ⊢
  have hl : lv_has ls 2 [(0, .ref h0), (1, .int p0)] := hl
  refine lv_iload_n hx hb dX2_stationOfWay_0 rfl (lv_at hl 1 rfl) ?_
  refine lv_if_lt (tgt := 22) hx hb dX2_stationOfWay_1 (by decide) (fun c_1 => ?_) (fun c_1 => ?_)
  · refine lv_iconst (v := (-1)) hx hb dX2_stationOfWay_22 (by decide) ?_
    exact W.iret (v := (-1)) hx hb hr (fun t9 ht hW => ⟨_, rfl, (by rw [if_pos c_1]), ht⟩) (fun q h => nomatch h) dX2_stationOfWay_23
  · refine lv_iload_n hx hb dX2_stationOfWay_4 rfl (lv_at hl 1 rfl) ?_
    refine lv_aload_n hx hb dX2_stationOfWay_5 rfl (lv_at hl 0 rfl) ?_
    refine va_get (D := (dC, dI)) (ci := 2) (v := .ref s1) (C := RX2) (T := TX2) (N := 10) hx hb hts hin2 hown hK hP 0 rfl rfl 2 (by decide) (hts (.fieldLink RX2 25 "YamRiders$Rider" "stations" "[I") (by decide +kernel)) (fun _ h9 => h9) rfl dX2_stationOfWay_6 ?_
    refine va_alen (v := nI wn9) hx hb hK hP 1 0 rfl rfl rfl dX2_stationOfWay_9 ?_
    refine lv_icmp_ge (tgt := 22) hx hb dX2_stationOfWay_10 (by decide) (fun c_2 => ?_) (fun c_2 => ?_)
    · refine lv_iconst (v := (-1)) hx hb dX2_stationOfWay_22 (by decide) ?_
      exact W.iret (v := (-1)) hx hb hr (fun t9 ht hW => ⟨_, rfl, (by rw [if_neg c_1, if_pos c_2]), ht⟩) (fun q h => nomatch h) dX2_stationOfWay_23
    · refine lv_aload_n hx hb dX2_stationOfWay_13 rfl (lv_at hl 0 rfl) ?_
      refine va_get (D := (dC, dI)) (ci := 2) (v := .ref s1) (C := RX2) (T := TX2) (N := 10) hx hb hts hin2 hown hK hP 0 rfl rfl 2 (by decide) (hts (.fieldLink RX2 25 "YamRiders$Rider" "stations" "[I") (by decide +kernel)) (fun _ h9 => h9) rfl dX2_stationOfWay_14 ?_
      refine lv_iload_n hx hb dX2_stationOfWay_17 rfl (lv_at hl 1 rfl) ?_
      refine va_iald hx hb hK hP 1 0 rfl rfl (wi_in hwn9 c_1 c_2) dX2_stationOfWay_18 ?_
      refine lv_goto (tgt := 23) hx hb dX2_stationOfWay_19 (by decide) ?_
      exact W.iret (v := a_w p0.toNatClampNeg) hx hb hr (fun t9 ht hW => ⟨_, rfl, (by rw [if_neg c_1, if_neg c_2]), ht⟩) (fun q h => nomatch h) dX2_stationOfWay_23

set_option maxHeartbeats 4000000 in
set_option maxRecDepth 100000 in
theorem g_X2_newsKnownSince_h (l : Launch) (dC : Nat → ClassId) (dI : Nat → Nat → Nat) (h0 : Nat) (s1 : Nat) (s2 : Nat) (o_tablet : Int32) (o_rank : Int32) (o_state : Int32) (o_reached : Int32) (o_came : Int32) (o_left : Int32) (o_time : Int32) (e1 : Nat) (k2 : ClassId) (a_v : Nat → Int32) (p0 : Int32) (sz : Nat) : Met l yX2_newsKnownSince wsX2_newsKnownSince ({ frames := 1, cells := 0, slots := 0, locals := 20 }) (va_Pc [.ref h0, .int p0] (cP dC dI [(h0, .inr (2, [.int o_tablet, .int o_rank, .ref s1, .ref s2, .int o_state, .int o_reached, .int o_came, .ref e1, .int o_left, .int o_time])), (s2, .inl (k2, 12, .inl a_v))] [(k2, .int)] sz)) (vp_Si (fun r => r = (if (sp_st p0) = 0 then (-1) else a_v p0.toNatClampNeg))) 0 0 (fun _ => False) := by
  refine Met.ofW (cc := cX2_newsKnownSince) (maxL := 2) (ret := (some .int)) (by decide) rfl ?_
  intro p e s m args below meth c s₁ B hml hv
  obtain ⟨rfl, hsz, hP, hK, hD0, hN⟩ := hv
  have hx := B.exec
  have hb := B.bytes
  have hr := B.returns
  have hts := atoms_spec (ws := wsX2_newsKnownSince) B.pre
  have hown : s.vm.findClass RX2 = some m.cls := findClass_of_methodNamed B.named
  have hlocks := B.notSynchronized
  subst hsz
  have hin2 : ∀ w ∈ u_ws RX2 TX2 10, w ∈ wsX2_newsKnownSince := by decide +kernel
  have hD := hD0
  have hP : va_P (dC, dI) vwCl [(h0, .inr (2, [.int o_tablet, .int o_rank, .ref s1, .ref s2, .int o_state, .int o_reached, .int o_came, .ref e1, .int o_left, .int o_time])), (s2, .inl (k2, 12, .inl a_v))] s.heap := hP
  have hl := lv_entry ([.ref h0, .int p0]) (n := 2) (Nat.le_of_ble_eq_true rfl)
  rw [lg_entry_eq]
  generalize (lg_sl ([.ref h0, .int p0]) ++ List.replicate (2 - (lg_sl ([.ref h0, .int p0])).length) Slot.unset).toArray = ls at hl ⊢
  have hl : lv_has ls 2 [(0, .ref h0), (1, .int p0)] := hl
  refine lv_iload_n hx hb dX2_newsKnownSince_0 rfl (lv_at hl 1 rfl) ?_
  have hPc := hP.sub (ws' := []) [] rfl
  have hDc := hD.sub (ws' := []) [] (by decide) rfl
  have hKc := hK.sub (tys' := []) [] rfl
  refine cs_i (va_runSN (As := [.int p0]) (rest := []) ⟨hx, hb, hml, hown, hts⟩ (c_X8_isStation l dC dI p0 s.heap.size) ⟨va_cnB 1 hts ggX2_newsKnownSince_X8_isStation rfl rfl rfl (hN.1 (.methodLinkNest RX2 41 yX8_isStation "YamRiders") (by decide +kernel)) (hts (.initialized RX8) (by decide +kernel)) (by decide +kernel) ⟨Nat.le_of_ble_eq_true rfl, Nat.le_of_ble_eq_true rfl⟩, hts (.static yX8_isStation) (by decide +kernel), trivial⟩ ⟨c_blind, c_pre hPc hKc hDc hN⟩ rfl rfl hl.1 rfl (lv_room (Nat.le_of_ble_eq_true rfl)) dX2_newsKnownSince_1 ⟨Nat.le_of_ble_eq_true rfl, Nat.le_of_ble_eq_true rfl⟩) (fun r_1 hr_1 => ?_)
  subst hr_1
  refine lv_if_eq (tgt := 16) hx hb dX2_newsKnownSince_4 (by decide) (fun c_2 => ?_) (fun c_2 => ?_)
  · refine lv_iconst (v := (-1)) hx hb dX2_newsKnownSince_16 (by decide) ?_
    exact W.iret (v := (-1)) hx hb hr (fun t9 ht hW => ⟨_, rfl, (by rw [if_pos c_2]), ht⟩) (fun q h => nomatch h) dX2_newsKnownSince_17
  · refine lv_aload_n hx hb dX2_newsKnownSince_7 rfl (lv_at hl 0 rfl) ?_
    refine va_get (D := (dC, dI)) (ci := 2) (v := .ref s2) (C := RX2) (T := TX2) (N := 10) hx hb hts hin2 hown hK hP 0 rfl rfl 3 (by decide) (hts (.fieldLink RX2 9 "YamRiders$Rider" "newsSince" "[I") (by decide +kernel)) (fun _ h9 => h9) rfl dX2_newsKnownSince_8 ?_
    refine lv_iload_n hx hb dX2_newsKnownSince_11 rfl (lv_at hl 1 rfl) ?_
    refine va_iald hx hb hK hP 1 0 rfl rfl (st_in c_2) dX2_newsKnownSince_12 ?_
    refine lv_goto (tgt := 17) hx hb dX2_newsKnownSince_13 (by decide) ?_
    exact W.iret (v := a_v p0.toNatClampNeg) hx hb hr (fun t9 ht hW => ⟨_, rfl, (by rw [if_neg c_2]), ht⟩) (fun q h => nomatch h) dX2_newsKnownSince_17
