theorem sw_i {x : Int32} {n : Int} {y : Int32} (hy : y.toInt = n) (h : ¬ x = y) : ¬ x.toInt = n := fun q => h (Int32.toInt_inj.mp (q.trans hy.symm))
theorem sw_out0_5 {x : Int32} (h0 : ¬ x = 0) (h1 : ¬ x = 1) (h2 : ¬ x = 2) (h3 : ¬ x = 3) (h4 : ¬ x = 4) (h5 : ¬ x = 5) : x.toInt < 0 ∨ 5 < x.toInt := by
  have g0 := sw_i (n := 0) (by decide) h0
  have g1 := sw_i (n := 1) (by decide) h1
  have g2 := sw_i (n := 2) (by decide) h2
  have g3 := sw_i (n := 3) (by decide) h3
  have g4 := sw_i (n := 4) (by decide) h4
  have g5 := sw_i (n := 5) (by decide) h5
  omega
theorem sw_out0_2 {x : Int32} (h0 : ¬ x = 0) (h1 : ¬ x = 1) (h2 : ¬ x = 2) : x.toInt < 0 ∨ 2 < x.toInt := by
  have g0 := sw_i (n := 0) (by decide) h0
  have g1 := sw_i (n := 1) (by decide) h1
  have g2 := sw_i (n := 2) (by decide) h2
  omega

set_option maxHeartbeats 4000000 in
set_option maxRecDepth 100000 in
theorem c_X9_isTablet (l : Launch) (dC : Nat → ClassId) (dI : Nat → Nat → Nat) (h0 : Nat) (m1 : Nat) (m5 : Nat) (m6 : Nat) (m7 : Nat) (m15 : Nat) (m16 : Nat) (m17 : Nat) (m18 : Nat) (m19 : Nat) (m20 : Nat) (m22 : Nat) (m23 : Nat) (m24 : Nat) (m25 : Nat) (m26 : Nat) (m27 : Nat) (m28 : Nat) (m29 : Nat) (m30 : Nat) (m31 : Nat) (m32 : Nat) (m33 : Nat) (m34 : Nat) (m37 : Nat) (m38 : Nat) (m39 : Nat) (m40 : Nat) (m41 : Nat) (m42 : Nat) (m43 : Nat) (m44 : Nat) (m45 : Nat) (m46 : Nat) (p0 : Int32) (sz : Nat) : Met l yX9_isTablet wsX9_isTablet ({ frames := 0, cells := 0, slots := 0, locals := 0 }) (va_Pc [.ref h0, .int p0] (cP dC dI [(h0, .inr (9, [.int 0, .ref m1, .int 0, .int 0, .int 0, .ref m5, .ref m6, .ref m7, .int 0, .int 0, .int 0, .int 0, .int 0, .int 0, .long 0, .ref m15, .ref m16, .ref m17, .ref m18, .ref m19, .ref m20, .int 0, .ref m22, .ref m23, .ref m24, .ref m25, .ref m26, .ref m27, .ref m28, .ref m29, .ref m30, .ref m31, .ref m32, .ref m33, .ref m34, .int 0, .int 0, .ref m37, .ref m38, .ref m39, .ref m40, .ref m41, .ref m42, .ref m43, .ref m44, .ref m45, .ref m46]))] [] sz)) (vp_Si (fun r => r = 0)) 0 0 (fun _ => False) := by
  refine Met.ofW (cc := cX9_isTablet) (maxL := 2) (ret := (some .boolean)) (by decide) rfl ?_
  intro p e s m args below meth c s₁ B hml hv
  obtain ⟨rfl, hsz, hP, hK, hD0, hN⟩ := hv
  have hx := B.exec
  have hb := B.bytes
  have hr := B.returns
  have hts := atoms_spec (ws := wsX9_isTablet) B.pre
  have hown : s.vm.findClass RX9 = some m.cls := findClass_of_methodNamed B.named
  have hlocks := B.notSynchronized
  subst hsz
  have hin9 : ∀ w ∈ u_ws RX9 TX9 47, w ∈ wsX9_isTablet := by decide +kernel
  have hD := hD0
  have hP : va_P (dC, dI) vwCl [(h0, .inr (9, [.int 0, .ref m1, .int 0, .int 0, .int 0, .ref m5, .ref m6, .ref m7, .int 0, .int 0, .int 0, .int 0, .int 0, .int 0, .long 0, .ref m15, .ref m16, .ref m17, .ref m18, .ref m19, .ref m20, .int 0, .ref m22, .ref m23, .ref m24, .ref m25, .ref m26, .ref m27, .ref m28, .ref m29, .ref m30, .ref m31, .ref m32, .ref m33, .ref m34, .int 0, .int 0, .ref m37, .ref m38, .ref m39, .ref m40, .ref m41, .ref m42, .ref m43, .ref m44, .ref m45, .ref m46]))] s.heap := hP
  have hl := lv_entry ([.ref h0, .int p0]) (n := 2) (Nat.le_of_ble_eq_true rfl)
  rw [lg_entry_eq]
  generalize (lg_sl ([.ref h0, .int p0]) ++ List.replicate (2 - (lg_sl ([.ref h0, .int p0])).length) Slot.unset).toArray = ls at hl ⊢
  have hl : lv_has ls 2 [(0, .ref h0), (1, .int p0)] := hl
  refine lv_iload_n hx hb dX9_isTablet_0 rfl (lv_at hl 1 rfl) ?_
  refine lv_if_lt (tgt := 16) hx hb dX9_isTablet_1 (by decide) (fun c_1 => ?_) (fun c_1 => ?_)
  · refine lv_iconst (v := 0) hx hb dX9_isTablet_16 (by decide) ?_
    exact W.zret (v := 0) hx hb hr rfl (fun t9 ht hW => ⟨_, rfl, rfl, ht⟩) (fun q h => nomatch h) dX9_isTablet_17
  · refine lv_iload_n hx hb dX9_isTablet_4 rfl (lv_at hl 1 rfl) ?_
    refine lv_aload_n hx hb dX9_isTablet_5 rfl (lv_at hl 0 rfl) ?_
    refine va_get (D := (dC, dI)) (ci := 9) (v := .int 0) (C := RX9) (T := TX9) (N := 47) hx hb hts hin9 hown hK hP 0 rfl rfl 35 (by decide) (hts (.fieldLink RX9 205 "YamRidersModel" "tablets" "I") (by decide +kernel)) (fun _ h9 => h9) rfl dX9_isTablet_6 ?_
    refine lv_icmp_ge (tgt := 16) hx hb dX9_isTablet_9 (by decide) (fun _ => ?_) (fun c_2 => by first | exact absurd c_2 (Int32.not_lt.mp c_1) | exact absurd (Int32.not_lt.mp c_1) c_2)
    refine lv_iconst (v := 0) hx hb dX9_isTablet_16 (by decide) ?_
    exact W.zret (v := 0) hx hb hr rfl (fun t9 ht hW => ⟨_, rfl, rfl, ht⟩) (fun q h => nomatch h) dX9_isTablet_17

set_option maxHeartbeats 4000000 in
set_option maxRecDepth 100000 in
theorem c_X9_isRider (l : Launch) (dC : Nat → ClassId) (dI : Nat → Nat → Nat) (h0 : Nat) (m1 : Nat) (m5 : Nat) (m6 : Nat) (m7 : Nat) (m15 : Nat) (m16 : Nat) (m17 : Nat) (m18 : Nat) (m19 : Nat) (m20 : Nat) (m22 : Nat) (m23 : Nat) (m24 : Nat) (m25 : Nat) (m26 : Nat) (m27 : Nat) (m28 : Nat) (m29 : Nat) (m30 : Nat) (m31 : Nat) (m32 : Nat) (m33 : Nat) (m34 : Nat) (m37 : Nat) (m38 : Nat) (m39 : Nat) (m40 : Nat) (m41 : Nat) (m42 : Nat) (m43 : Nat) (m44 : Nat) (m45 : Nat) (m46 : Nat) (p0 : Int32) (sz : Nat) : Met l yX9_isRider wsX9_isRider ({ frames := 0, cells := 0, slots := 0, locals := 0 }) (va_Pc [.ref h0, .int p0] (cP dC dI [(h0, .inr (9, [.int 0, .ref m1, .int 0, .int 0, .int 0, .ref m5, .ref m6, .ref m7, .int 0, .int 0, .int 0, .int 0, .int 0, .int 0, .long 0, .ref m15, .ref m16, .ref m17, .ref m18, .ref m19, .ref m20, .int 0, .ref m22, .ref m23, .ref m24, .ref m25, .ref m26, .ref m27, .ref m28, .ref m29, .ref m30, .ref m31, .ref m32, .ref m33, .ref m34, .int 0, .int 0, .ref m37, .ref m38, .ref m39, .ref m40, .ref m41, .ref m42, .ref m43, .ref m44, .ref m45, .ref m46]))] [] sz)) (vp_Si (fun r => r = 0)) 0 0 (fun _ => False) := by
  refine Met.ofW (cc := cX9_isRider) (maxL := 2) (ret := (some .boolean)) (by decide) rfl ?_
  intro p e s m args below meth c s₁ B hml hv
  obtain ⟨rfl, hsz, hP, hK, hD0, hN⟩ := hv
  have hx := B.exec
  have hb := B.bytes
  have hr := B.returns
  have hts := atoms_spec (ws := wsX9_isRider) B.pre
  have hown : s.vm.findClass RX9 = some m.cls := findClass_of_methodNamed B.named
  have hlocks := B.notSynchronized
  subst hsz
  have hin9 : ∀ w ∈ u_ws RX9 TX9 47, w ∈ wsX9_isRider := by decide +kernel
  have hD := hD0
  have hP : va_P (dC, dI) vwCl [(h0, .inr (9, [.int 0, .ref m1, .int 0, .int 0, .int 0, .ref m5, .ref m6, .ref m7, .int 0, .int 0, .int 0, .int 0, .int 0, .int 0, .long 0, .ref m15, .ref m16, .ref m17, .ref m18, .ref m19, .ref m20, .int 0, .ref m22, .ref m23, .ref m24, .ref m25, .ref m26, .ref m27, .ref m28, .ref m29, .ref m30, .ref m31, .ref m32, .ref m33, .ref m34, .int 0, .int 0, .ref m37, .ref m38, .ref m39, .ref m40, .ref m41, .ref m42, .ref m43, .ref m44, .ref m45, .ref m46]))] s.heap := hP
  have hl := lv_entry ([.ref h0, .int p0]) (n := 2) (Nat.le_of_ble_eq_true rfl)
  rw [lg_entry_eq]
  generalize (lg_sl ([.ref h0, .int p0]) ++ List.replicate (2 - (lg_sl ([.ref h0, .int p0])).length) Slot.unset).toArray = ls at hl ⊢
  have hl : lv_has ls 2 [(0, .ref h0), (1, .int p0)] := hl
  refine lv_iload_n hx hb dX9_isRider_0 rfl (lv_at hl 1 rfl) ?_
  refine lv_if_lt (tgt := 16) hx hb dX9_isRider_1 (by decide) (fun c_1 => ?_) (fun c_1 => ?_)
  · refine lv_iconst (v := 0) hx hb dX9_isRider_16 (by decide) ?_
    exact W.zret (v := 0) hx hb hr rfl (fun t9 ht hW => ⟨_, rfl, rfl, ht⟩) (fun q h => nomatch h) dX9_isRider_17
  · refine lv_iload_n hx hb dX9_isRider_4 rfl (lv_at hl 1 rfl) ?_
    refine lv_aload_n hx hb dX9_isRider_5 rfl (lv_at hl 0 rfl) ?_
    refine va_get (D := (dC, dI)) (ci := 9) (v := .int 0) (C := RX9) (T := TX9) (N := 47) hx hb hts hin9 hown hK hP 0 rfl rfl 36 (by decide) (hts (.fieldLink RX9 208 "YamRidersModel" "riders" "I") (by decide +kernel)) (fun _ h9 => h9) rfl dX9_isRider_6 ?_
    refine lv_icmp_ge (tgt := 16) hx hb dX9_isRider_9 (by decide) (fun _ => ?_) (fun c_2 => by first | exact absurd c_2 (Int32.not_lt.mp c_1) | exact absurd (Int32.not_lt.mp c_1) c_2)
    refine lv_iconst (v := 0) hx hb dX9_isRider_16 (by decide) ?_
    exact W.zret (v := 0) hx hb hr rfl (fun t9 ht hW => ⟨_, rfl, rfl, ht⟩) (fun q h => nomatch h) dX9_isRider_17

set_option maxHeartbeats 4000000 in
set_option maxRecDepth 100000 in
theorem c_X9_ride (l : Launch) (dC : Nat → ClassId) (dI : Nat → Nat → Nat) (h0 : Nat) (m1 : Nat) (m5 : Nat) (m6 : Nat) (m7 : Nat) (m15 : Nat) (m16 : Nat) (m17 : Nat) (m18 : Nat) (m19 : Nat) (m20 : Nat) (m22 : Nat) (m23 : Nat) (m24 : Nat) (m25 : Nat) (m26 : Nat) (m27 : Nat) (m28 : Nat) (m29 : Nat) (m30 : Nat) (m31 : Nat) (m32 : Nat) (m33 : Nat) (m34 : Nat) (m37 : Nat) (m38 : Nat) (m39 : Nat) (m40 : Nat) (m41 : Nat) (m42 : Nat) (m43 : Nat) (m44 : Nat) (m45 : Nat) (m46 : Nat) (p0 : Int32) (p1 : Int32) (p2 : Int32) (sz : Nat) : Met l yX9_ride wsX9_ride ({ frames := 1, cells := 0, slots := 0, locals := 21 }) (va_Pc [.ref h0, .int p0, .int p1, .int p2] (cP dC dI [(h0, .inr (9, [.int 0, .ref m1, .int 0, .int 0, .int 0, .ref m5, .ref m6, .ref m7, .int 0, .int 0, .int 0, .int 0, .int 0, .int 0, .long 0, .ref m15, .ref m16, .ref m17, .ref m18, .ref m19, .ref m20, .int 0, .ref m22, .ref m23, .ref m24, .ref m25, .ref m26, .ref m27, .ref m28, .ref m29, .ref m30, .ref m31, .ref m32, .ref m33, .ref m34, .int 0, .int 0, .ref m37, .ref m38, .ref m39, .ref m40, .ref m41, .ref m42, .ref m43, .ref m44, .ref m45, .ref m46]))] [] sz)) (va_Qi (fun (r : Int32) (_ : Unit) => r = (-1)) (fun (_ : Unit) t9 => cQ dC dI [] [] (va_A [(h0, .inr (9, [.int 0, .ref m1, .int 0, .int 0, .int 0, .ref m5, .ref m6, .ref m7, .int 0, .int 0, .int 0, .int 0, .int 0, .int 0, .long 0, .ref m15, .ref m16, .ref m17, .ref m18, .ref m19, .ref m20, .int 0, .ref m22, .ref m23, .ref m24, .ref m25, .ref m26, .ref m27, .ref m28, .ref m29, .ref m30, .ref m31, .ref m32, .ref m33, .ref m34, .int 0, .int 0, .ref m37, .ref m38, .ref m39, .ref m40, .ref m41, .ref m42, .ref m43, .ref m44, .ref m45, .ref m46]))] sz) t9) (va_A [(h0, .inr (9, [.int 0, .ref m1, .int 0, .int 0, .int 0, .ref m5, .ref m6, .ref m7, .int 0, .int 0, .int 0, .int 0, .int 0, .int 0, .long 0, .ref m15, .ref m16, .ref m17, .ref m18, .ref m19, .ref m20, .int 0, .ref m22, .ref m23, .ref m24, .ref m25, .ref m26, .ref m27, .ref m28, .ref m29, .ref m30, .ref m31, .ref m32, .ref m33, .ref m34, .int 0, .int 0, .ref m37, .ref m38, .ref m39, .ref m40, .ref m41, .ref m42, .ref m43, .ref m44, .ref m45, .ref m46]))] sz)) 0 0 (va_A [(h0, .inr (9, [.int 0, .ref m1, .int 0, .int 0, .int 0, .ref m5, .ref m6, .ref m7, .int 0, .int 0, .int 0, .int 0, .int 0, .int 0, .long 0, .ref m15, .ref m16, .ref m17, .ref m18, .ref m19, .ref m20, .int 0, .ref m22, .ref m23, .ref m24, .ref m25, .ref m26, .ref m27, .ref m28, .ref m29, .ref m30, .ref m31, .ref m32, .ref m33, .ref m34, .int 0, .int 0, .ref m37, .ref m38, .ref m39, .ref m40, .ref m41, .ref m42, .ref m43, .ref m44, .ref m45, .ref m46]))] sz) := by
  refine Met.ofW (cc := cX9_ride) (maxL := 8) (ret := (some .int)) (by decide) rfl ?_
  intro p e s m args below meth c s₁ B hml hv
  obtain ⟨rfl, hsz, hP, hK, hD0, hN⟩ := hv
  have hx := B.exec
  have hb := B.bytes
  have hr := B.returns
  have hts := atoms_spec (ws := wsX9_ride) B.pre
  have hown : s.vm.findClass RX9 = some m.cls := findClass_of_methodNamed B.named
  have hlocks := B.notSynchronized
  subst hsz
  have hin9 : ∀ w ∈ u_ws RX9 TX9 47, w ∈ wsX9_ride := by decide +kernel
  have hD := hD0.self (sz := s.heap.size)
  generalize hAe : va_A [(h0, .inr (9, [.int 0, .ref m1, .int 0, .int 0, .int 0, .ref m5, .ref m6, .ref m7, .int 0, .int 0, .int 0, .int 0, .int 0, .int 0, .long 0, .ref m15, .ref m16, .ref m17, .ref m18, .ref m19, .ref m20, .int 0, .ref m22, .ref m23, .ref m24, .ref m25, .ref m26, .ref m27, .ref m28, .ref m29, .ref m30, .ref m31, .ref m32, .ref m33, .ref m34, .int 0, .int 0, .ref m37, .ref m38, .ref m39, .ref m40, .ref m41, .ref m42, .ref m43, .ref m44, .ref m45, .ref m46]))] s.heap.size = A at hD ⊢
  have hA : ∀ q : Nat, s.heap.size ≤ q → A q := fun q h => by rw [← hAe]; exact Or.inr h
  have hS : va_S A s.heap s.heap [] := va_S.rf
  have hP : va_P (dC, dI) vwCl [(h0, .inr (9, [.int 0, .ref m1, .int 0, .int 0, .int 0, .ref m5, .ref m6, .ref m7, .int 0, .int 0, .int 0, .int 0, .int 0, .int 0, .long 0, .ref m15, .ref m16, .ref m17, .ref m18, .ref m19, .ref m20, .int 0, .ref m22, .ref m23, .ref m24, .ref m25, .ref m26, .ref m27, .ref m28, .ref m29, .ref m30, .ref m31, .ref m32, .ref m33, .ref m34, .int 0, .int 0, .ref m37, .ref m38, .ref m39, .ref m40, .ref m41, .ref m42, .ref m43, .ref m44, .ref m45, .ref m46]))] s.heap := hP
  have hl := lv_entry ([.ref h0, .int p0, .int p1, .int p2]) (n := 8) (Nat.le_of_ble_eq_true rfl)
  rw [lg_entry_eq]
  generalize (lg_sl ([.ref h0, .int p0, .int p1, .int p2]) ++ List.replicate (8 - (lg_sl ([.ref h0, .int p0, .int p1, .int p2])).length) Slot.unset).toArray = ls at hl ⊢
  have hl : lv_has ls 8 [(0, .ref h0), (1, .int p0), (2, .int p1), (3, .int p2)] := hl
  refine lv_aload_n hx hb dX9_ride_0 rfl (lv_at hl 0 rfl) ?_
  refine lv_iconst (v := 0) hx hb dX9_ride_1 (by decide) ?_
  refine va_put (D := (dC, dI)) (ci := 9) (v := .int 0) (ty := (tyX9 0)) (C := RX9) (T := TX9) (N := 47) hx hb hts hin9 tyX9 tyX9_ok nmX9 hown hK hP hD hS 0 rfl rfl 0 (by decide) (hts (.fieldLink RX9 111 "YamRidersModel" "thrown" "I") (by decide +kernel)) (fun _ h9 => h9) rfl (by decide +kernel) rfl rfl (Nat.le_of_ble_eq_true rfl) dX9_ride_2 (fun H locs hP hD hS => ?_)
  have hP : va_P (dC, dI) vwCl [(h0, .inr (9, [.int 0, .ref m1, .int 0, .int 0, .int 0, .ref m5, .ref m6, .ref m7, .int 0, .int 0, .int 0, .int 0, .int 0, .int 0, .long 0, .ref m15, .ref m16, .ref m17, .ref m18, .ref m19, .ref m20, .int 0, .ref m22, .ref m23, .ref m24, .ref m25, .ref m26, .ref m27, .ref m28, .ref m29, .ref m30, .ref m31, .ref m32, .ref m33, .ref m34, .int 0, .int 0, .ref m37, .ref m38, .ref m39, .ref m40, .ref m41, .ref m42, .ref m43, .ref m44, .ref m45, .ref m46]))] H := hP
  have hD : va_D A [(h0, .inr (9, [.int 0, .ref m1, .int 0, .int 0, .int 0, .ref m5, .ref m6, .ref m7, .int 0, .int 0, .int 0, .int 0, .int 0, .int 0, .long 0, .ref m15, .ref m16, .ref m17, .ref m18, .ref m19, .ref m20, .int 0, .ref m22, .ref m23, .ref m24, .ref m25, .ref m26, .ref m27, .ref m28, .ref m29, .ref m30, .ref m31, .ref m32, .ref m33, .ref m34, .int 0, .int 0, .ref m37, .ref m38, .ref m39, .ref m40, .ref m41, .ref m42, .ref m43, .ref m44, .ref m45, .ref m46]))] := hD
  refine lv_aload_n hx hb dX9_ride_5 rfl (lv_at hl 0 rfl) ?_
  refine va_get (D := (dC, dI)) (ci := 9) (v := .int 0) (C := RX9) (T := TX9) (N := 47) hx hb hts hin9 hown hK hP 0 rfl rfl 36 (by decide) (hts (.fieldLink RX9 208 "YamRidersModel" "riders" "I") (by decide +kernel)) (fun _ h9 => h9) rfl dX9_ride_6 ?_
  refine lv_bipush (v := 60) hx hb dX9_ride_9 (by decide) ?_
  refine lv_icmp_eq (tgt := 36) hx hb dX9_ride_11 (by decide) (fun c_1 => by first | exact absurd c_1 (by decide) | exact absurd (by decide) c_1) (fun _ => ?_)
  refine lv_aload_n hx hb dX9_ride_14 rfl (lv_at hl 0 rfl) ?_
  refine lv_iload_n hx hb dX9_ride_15 rfl (lv_at hl 1 rfl) ?_
  have hPc := hP.sub (ws' := [(h0, .inr (9, [.int 0, .ref m1, .int 0, .int 0, .int 0, .ref m5, .ref m6, .ref m7, .int 0, .int 0, .int 0, .int 0, .int 0, .int 0, .long 0, .ref m15, .ref m16, .ref m17, .ref m18, .ref m19, .ref m20, .int 0, .ref m22, .ref m23, .ref m24, .ref m25, .ref m26, .ref m27, .ref m28, .ref m29, .ref m30, .ref m31, .ref m32, .ref m33, .ref m34, .int 0, .int 0, .ref m37, .ref m38, .ref m39, .ref m40, .ref m41, .ref m42, .ref m43, .ref m44, .ref m45, .ref m46]))]) [0] rfl
  have hDc := hD.sub (ws' := [(h0, .inr (9, [.int 0, .ref m1, .int 0, .int 0, .int 0, .ref m5, .ref m6, .ref m7, .int 0, .int 0, .int 0, .int 0, .int 0, .int 0, .long 0, .ref m15, .ref m16, .ref m17, .ref m18, .ref m19, .ref m20, .int 0, .ref m22, .ref m23, .ref m24, .ref m25, .ref m26, .ref m27, .ref m28, .ref m29, .ref m30, .ref m31, .ref m32, .ref m33, .ref m34, .int 0, .int 0, .ref m37, .ref m38, .ref m39, .ref m40, .ref m41, .ref m42, .ref m43, .ref m44, .ref m45, .ref m46]))]) [0] (by decide) rfl
  have hKc := hK.sub (tys' := []) [] rfl
  refine cs_i (va_runV (As := [.int p0]) (rest := []) ⟨hx, hb, hml, hown, hts⟩ (c_X9_isTablet l dC dI h0 m1 m5 m6 m7 m15 m16 m17 m18 m19 m20 m22 m23 m24 m25 m26 m27 m28 m29 m30 m31 m32 m33 m34 m37 m38 m39 m40 m41 m42 m43 m44 m45 m46 p0 H.size) (cwV 1 hts gX9_ride_X9_isTablet rfl rfl rfl (by decide +kernel) ⟨Nat.le_of_ble_eq_true rfl, Nat.le_of_ble_eq_true rfl⟩) ⟨c_blind, va_recv hKc hPc (ci := 9) (q0 := 0) rfl rfl, c_pre hPc hKc hDc hN⟩ rfl rfl hl.1 rfl (lv_room (Nat.le_of_ble_eq_true rfl)) dX9_ride_16 ⟨Nat.le_of_ble_eq_true rfl, Nat.le_of_ble_eq_true rfl⟩) (fun r_2 hr_2 => ?_)
  subst hr_2
  refine lv_if_eq (tgt := 36) hx hb dX9_ride_19 (by decide) (fun _ => ?_) (fun c_3 => by first | exact absurd c_3 (by decide) | exact absurd (by decide) c_3)
  refine lv_iconst (v := (-1)) hx hb dX9_ride_36 (by decide) ?_
  have hP9 := hP.sub (ws' := []) [] rfl
  have hD9 := hD.sub (ws' := []) [] (by decide) rfl
  have hK9 := hK.sub (tys' := []) [] rfl
  refine W.widen (k := 0) (n := 0) (Nat.le_of_ble_eq_true rfl) (Nat.le_of_ble_eq_true rfl) ?_
  exact W.iret (v := (-1)) hx hb hr (fun t9 ht hW => ⟨⟨_, (), rfl, rfl, by rw [ht]; exact hP9, va_K.moved hW.alike hK9, hD9⟩, hS.F ht⟩) hS.2.2 dX9_ride_37

set_option maxHeartbeats 4000000 in
set_option maxRecDepth 100000 in
theorem c_X9_cancel (l : Launch) (dC : Nat → ClassId) (dI : Nat → Nat → Nat) (h0 : Nat) (m1 : Nat) (m5 : Nat) (m6 : Nat) (m7 : Nat) (m15 : Nat) (m16 : Nat) (m17 : Nat) (m18 : Nat) (m19 : Nat) (m20 : Nat) (m22 : Nat) (m23 : Nat) (m24 : Nat) (m25 : Nat) (m26 : Nat) (m27 : Nat) (m28 : Nat) (m29 : Nat) (m30 : Nat) (m31 : Nat) (m32 : Nat) (m33 : Nat) (m34 : Nat) (m37 : Nat) (m38 : Nat) (m39 : Nat) (m40 : Nat) (m41 : Nat) (m42 : Nat) (m43 : Nat) (m44 : Nat) (m45 : Nat) (m46 : Nat) (p0 : Int32) (p1 : Int32) (sz : Nat) : Met l yX9_cancel wsX9_cancel ({ frames := 1, cells := 0, slots := 0, locals := 21 }) (va_Pc [.ref h0, .int p0, .int p1] (cP dC dI [(h0, .inr (9, [.int 0, .ref m1, .int 0, .int 0, .int 0, .ref m5, .ref m6, .ref m7, .int 0, .int 0, .int 0, .int 0, .int 0, .int 0, .long 0, .ref m15, .ref m16, .ref m17, .ref m18, .ref m19, .ref m20, .int 0, .ref m22, .ref m23, .ref m24, .ref m25, .ref m26, .ref m27, .ref m28, .ref m29, .ref m30, .ref m31, .ref m32, .ref m33, .ref m34, .int 0, .int 0, .ref m37, .ref m38, .ref m39, .ref m40, .ref m41, .ref m42, .ref m43, .ref m44, .ref m45, .ref m46]))] [] sz)) (va_Qi (fun (r : Int32) (_ : Unit) => r = 0) (fun (_ : Unit) t9 => cQ dC dI [] [] (va_A [(h0, .inr (9, [.int 0, .ref m1, .int 0, .int 0, .int 0, .ref m5, .ref m6, .ref m7, .int 0, .int 0, .int 0, .int 0, .int 0, .int 0, .long 0, .ref m15, .ref m16, .ref m17, .ref m18, .ref m19, .ref m20, .int 0, .ref m22, .ref m23, .ref m24, .ref m25, .ref m26, .ref m27, .ref m28, .ref m29, .ref m30, .ref m31, .ref m32, .ref m33, .ref m34, .int 0, .int 0, .ref m37, .ref m38, .ref m39, .ref m40, .ref m41, .ref m42, .ref m43, .ref m44, .ref m45, .ref m46]))] sz) t9) (va_A [(h0, .inr (9, [.int 0, .ref m1, .int 0, .int 0, .int 0, .ref m5, .ref m6, .ref m7, .int 0, .int 0, .int 0, .int 0, .int 0, .int 0, .long 0, .ref m15, .ref m16, .ref m17, .ref m18, .ref m19, .ref m20, .int 0, .ref m22, .ref m23, .ref m24, .ref m25, .ref m26, .ref m27, .ref m28, .ref m29, .ref m30, .ref m31, .ref m32, .ref m33, .ref m34, .int 0, .int 0, .ref m37, .ref m38, .ref m39, .ref m40, .ref m41, .ref m42, .ref m43, .ref m44, .ref m45, .ref m46]))] sz)) 0 0 (va_A [(h0, .inr (9, [.int 0, .ref m1, .int 0, .int 0, .int 0, .ref m5, .ref m6, .ref m7, .int 0, .int 0, .int 0, .int 0, .int 0, .int 0, .long 0, .ref m15, .ref m16, .ref m17, .ref m18, .ref m19, .ref m20, .int 0, .ref m22, .ref m23, .ref m24, .ref m25, .ref m26, .ref m27, .ref m28, .ref m29, .ref m30, .ref m31, .ref m32, .ref m33, .ref m34, .int 0, .int 0, .ref m37, .ref m38, .ref m39, .ref m40, .ref m41, .ref m42, .ref m43, .ref m44, .ref m45, .ref m46]))] sz) := by
  refine Met.ofW (cc := cX9_cancel) (maxL := 3) (ret := (some .boolean)) (by decide) rfl ?_
  intro p e s m args below meth c s₁ B hml hv
  obtain ⟨rfl, hsz, hP, hK, hD0, hN⟩ := hv
  have hx := B.exec
  have hb := B.bytes
  have hr := B.returns
  have hts := atoms_spec (ws := wsX9_cancel) B.pre
  have hown : s.vm.findClass RX9 = some m.cls := findClass_of_methodNamed B.named
  have hlocks := B.notSynchronized
  subst hsz
  have hin9 : ∀ w ∈ u_ws RX9 TX9 47, w ∈ wsX9_cancel := by decide +kernel
  have hD := hD0.self (sz := s.heap.size)
  generalize hAe : va_A [(h0, .inr (9, [.int 0, .ref m1, .int 0, .int 0, .int 0, .ref m5, .ref m6, .ref m7, .int 0, .int 0, .int 0, .int 0, .int 0, .int 0, .long 0, .ref m15, .ref m16, .ref m17, .ref m18, .ref m19, .ref m20, .int 0, .ref m22, .ref m23, .ref m24, .ref m25, .ref m26, .ref m27, .ref m28, .ref m29, .ref m30, .ref m31, .ref m32, .ref m33, .ref m34, .int 0, .int 0, .ref m37, .ref m38, .ref m39, .ref m40, .ref m41, .ref m42, .ref m43, .ref m44, .ref m45, .ref m46]))] s.heap.size = A at hD ⊢
  have hA : ∀ q : Nat, s.heap.size ≤ q → A q := fun q h => by rw [← hAe]; exact Or.inr h
  have hS : va_S A s.heap s.heap [] := va_S.rf
  have hP : va_P (dC, dI) vwCl [(h0, .inr (9, [.int 0, .ref m1, .int 0, .int 0, .int 0, .ref m5, .ref m6, .ref m7, .int 0, .int 0, .int 0, .int 0, .int 0, .int 0, .long 0, .ref m15, .ref m16, .ref m17, .ref m18, .ref m19, .ref m20, .int 0, .ref m22, .ref m23, .ref m24, .ref m25, .ref m26, .ref m27, .ref m28, .ref m29, .ref m30, .ref m31, .ref m32, .ref m33, .ref m34, .int 0, .int 0, .ref m37, .ref m38, .ref m39, .ref m40, .ref m41, .ref m42, .ref m43, .ref m44, .ref m45, .ref m46]))] s.heap := hP
  have hl := lv_entry ([.ref h0, .int p0, .int p1]) (n := 3) (Nat.le_of_ble_eq_true rfl)
  rw [lg_entry_eq]
  generalize (lg_sl ([.ref h0, .int p0, .int p1]) ++ List.replicate (3 - (lg_sl ([.ref h0, .int p0, .int p1])).length) Slot.unset).toArray = ls at hl ⊢
  have hl : lv_has ls 3 [(0, .ref h0), (1, .int p0), (2, .int p1)] := hl
  refine lv_aload_n hx hb dX9_cancel_0 rfl (lv_at hl 0 rfl) ?_
  refine lv_iconst (v := 0) hx hb dX9_cancel_1 (by decide) ?_
  refine va_put (D := (dC, dI)) (ci := 9) (v := .int 0) (ty := (tyX9 0)) (C := RX9) (T := TX9) (N := 47) hx hb hts hin9 tyX9 tyX9_ok nmX9 hown hK hP hD hS 0 rfl rfl 0 (by decide) (hts (.fieldLink RX9 111 "YamRidersModel" "thrown" "I") (by decide +kernel)) (fun _ h9 => h9) rfl (by decide +kernel) rfl rfl (Nat.le_of_ble_eq_true rfl) dX9_cancel_2 (fun H locs hP hD hS => ?_)
  have hP : va_P (dC, dI) vwCl [(h0, .inr (9, [.int 0, .ref m1, .int 0, .int 0, .int 0, .ref m5, .ref m6, .ref m7, .int 0, .int 0, .int 0, .int 0, .int 0, .int 0, .long 0, .ref m15, .ref m16, .ref m17, .ref m18, .ref m19, .ref m20, .int 0, .ref m22, .ref m23, .ref m24, .ref m25, .ref m26, .ref m27, .ref m28, .ref m29, .ref m30, .ref m31, .ref m32, .ref m33, .ref m34, .int 0, .int 0, .ref m37, .ref m38, .ref m39, .ref m40, .ref m41, .ref m42, .ref m43, .ref m44, .ref m45, .ref m46]))] H := hP
  have hD : va_D A [(h0, .inr (9, [.int 0, .ref m1, .int 0, .int 0, .int 0, .ref m5, .ref m6, .ref m7, .int 0, .int 0, .int 0, .int 0, .int 0, .int 0, .long 0, .ref m15, .ref m16, .ref m17, .ref m18, .ref m19, .ref m20, .int 0, .ref m22, .ref m23, .ref m24, .ref m25, .ref m26, .ref m27, .ref m28, .ref m29, .ref m30, .ref m31, .ref m32, .ref m33, .ref m34, .int 0, .int 0, .ref m37, .ref m38, .ref m39, .ref m40, .ref m41, .ref m42, .ref m43, .ref m44, .ref m45, .ref m46]))] := hD
  refine lv_aload_n hx hb dX9_cancel_5 rfl (lv_at hl 0 rfl) ?_
  refine lv_iload_n hx hb dX9_cancel_6 rfl (lv_at hl 1 rfl) ?_
  have hPc := hP.sub (ws' := [(h0, .inr (9, [.int 0, .ref m1, .int 0, .int 0, .int 0, .ref m5, .ref m6, .ref m7, .int 0, .int 0, .int 0, .int 0, .int 0, .int 0, .long 0, .ref m15, .ref m16, .ref m17, .ref m18, .ref m19, .ref m20, .int 0, .ref m22, .ref m23, .ref m24, .ref m25, .ref m26, .ref m27, .ref m28, .ref m29, .ref m30, .ref m31, .ref m32, .ref m33, .ref m34, .int 0, .int 0, .ref m37, .ref m38, .ref m39, .ref m40, .ref m41, .ref m42, .ref m43, .ref m44, .ref m45, .ref m46]))]) [0] rfl
  have hDc := hD.sub (ws' := [(h0, .inr (9, [.int 0, .ref m1, .int 0, .int 0, .int 0, .ref m5, .ref m6, .ref m7, .int 0, .int 0, .int 0, .int 0, .int 0, .int 0, .long 0, .ref m15, .ref m16, .ref m17, .ref m18, .ref m19, .ref m20, .int 0, .ref m22, .ref m23, .ref m24, .ref m25, .ref m26, .ref m27, .ref m28, .ref m29, .ref m30, .ref m31, .ref m32, .ref m33, .ref m34, .int 0, .int 0, .ref m37, .ref m38, .ref m39, .ref m40, .ref m41, .ref m42, .ref m43, .ref m44, .ref m45, .ref m46]))]) [0] (by decide) rfl
  have hKc := hK.sub (tys' := []) [] rfl
  refine cs_i (va_runV (As := [.int p0]) (rest := []) ⟨hx, hb, hml, hown, hts⟩ (c_X9_isTablet l dC dI h0 m1 m5 m6 m7 m15 m16 m17 m18 m19 m20 m22 m23 m24 m25 m26 m27 m28 m29 m30 m31 m32 m33 m34 m37 m38 m39 m40 m41 m42 m43 m44 m45 m46 p0 H.size) (cwV 1 hts gX9_cancel_X9_isTablet rfl rfl rfl (by decide +kernel) ⟨Nat.le_of_ble_eq_true rfl, Nat.le_of_ble_eq_true rfl⟩) ⟨c_blind, va_recv hKc hPc (ci := 9) (q0 := 0) rfl rfl, c_pre hPc hKc hDc hN⟩ rfl rfl hl.1 rfl (lv_room (Nat.le_of_ble_eq_true rfl)) dX9_cancel_7 ⟨Nat.le_of_ble_eq_true rfl, Nat.le_of_ble_eq_true rfl⟩) (fun r_1 hr_1 => ?_)
  subst hr_1
  refine lv_if_eq (tgt := 34) hx hb dX9_cancel_10 (by decide) (fun _ => ?_) (fun c_2 => by first | exact absurd c_2 (by decide) | exact absurd (by decide) c_2)
  refine lv_iconst (v := 0) hx hb dX9_cancel_34 (by decide) ?_
  have hP9 := hP.sub (ws' := []) [] rfl
  have hD9 := hD.sub (ws' := []) [] (by decide) rfl
  have hK9 := hK.sub (tys' := []) [] rfl
  refine W.widen (k := 0) (n := 0) (Nat.le_of_ble_eq_true rfl) (Nat.le_of_ble_eq_true rfl) ?_
  exact W.zret (v := 0) hx hb hr rfl (fun t9 ht hW => ⟨⟨_, (), rfl, rfl, by rw [ht]; exact hP9, va_K.moved hW.alike hK9, hD9⟩, hS.F ht⟩) hS.2.2 dX9_cancel_35

set_option maxHeartbeats 4000000 in
set_option maxRecDepth 100000 in
theorem c_X9_kill (l : Launch) (dC : Nat → ClassId) (dI : Nat → Nat → Nat) (h0 : Nat) (m1 : Nat) (m5 : Nat) (m6 : Nat) (m7 : Nat) (m15 : Nat) (m16 : Nat) (m17 : Nat) (m18 : Nat) (m19 : Nat) (m20 : Nat) (m22 : Nat) (m23 : Nat) (m24 : Nat) (m25 : Nat) (m26 : Nat) (m27 : Nat) (m28 : Nat) (m29 : Nat) (m30 : Nat) (m31 : Nat) (m32 : Nat) (m33 : Nat) (m34 : Nat) (m37 : Nat) (m38 : Nat) (m39 : Nat) (m40 : Nat) (m41 : Nat) (m42 : Nat) (m43 : Nat) (m44 : Nat) (m45 : Nat) (m46 : Nat) (p0 : Int32) (sz : Nat) : Met l yX9_kill wsX9_kill ({ frames := 1, cells := 0, slots := 0, locals := 21 }) (va_Pc [.ref h0, .int p0] (cP dC dI [(h0, .inr (9, [.int 0, .ref m1, .int 0, .int 0, .int 0, .ref m5, .ref m6, .ref m7, .int 0, .int 0, .int 0, .int 0, .int 0, .int 0, .long 0, .ref m15, .ref m16, .ref m17, .ref m18, .ref m19, .ref m20, .int 0, .ref m22, .ref m23, .ref m24, .ref m25, .ref m26, .ref m27, .ref m28, .ref m29, .ref m30, .ref m31, .ref m32, .ref m33, .ref m34, .int 0, .int 0, .ref m37, .ref m38, .ref m39, .ref m40, .ref m41, .ref m42, .ref m43, .ref m44, .ref m45, .ref m46]))] [] sz)) (va_Qi (fun (r : Int32) (_ : Unit) => r = 0) (fun (_ : Unit) t9 => cQ dC dI [] [] (va_A [(h0, .inr (9, [.int 0, .ref m1, .int 0, .int 0, .int 0, .ref m5, .ref m6, .ref m7, .int 0, .int 0, .int 0, .int 0, .int 0, .int 0, .long 0, .ref m15, .ref m16, .ref m17, .ref m18, .ref m19, .ref m20, .int 0, .ref m22, .ref m23, .ref m24, .ref m25, .ref m26, .ref m27, .ref m28, .ref m29, .ref m30, .ref m31, .ref m32, .ref m33, .ref m34, .int 0, .int 0, .ref m37, .ref m38, .ref m39, .ref m40, .ref m41, .ref m42, .ref m43, .ref m44, .ref m45, .ref m46]))] sz) t9) (va_A [(h0, .inr (9, [.int 0, .ref m1, .int 0, .int 0, .int 0, .ref m5, .ref m6, .ref m7, .int 0, .int 0, .int 0, .int 0, .int 0, .int 0, .long 0, .ref m15, .ref m16, .ref m17, .ref m18, .ref m19, .ref m20, .int 0, .ref m22, .ref m23, .ref m24, .ref m25, .ref m26, .ref m27, .ref m28, .ref m29, .ref m30, .ref m31, .ref m32, .ref m33, .ref m34, .int 0, .int 0, .ref m37, .ref m38, .ref m39, .ref m40, .ref m41, .ref m42, .ref m43, .ref m44, .ref m45, .ref m46]))] sz)) 0 0 (va_A [(h0, .inr (9, [.int 0, .ref m1, .int 0, .int 0, .int 0, .ref m5, .ref m6, .ref m7, .int 0, .int 0, .int 0, .int 0, .int 0, .int 0, .long 0, .ref m15, .ref m16, .ref m17, .ref m18, .ref m19, .ref m20, .int 0, .ref m22, .ref m23, .ref m24, .ref m25, .ref m26, .ref m27, .ref m28, .ref m29, .ref m30, .ref m31, .ref m32, .ref m33, .ref m34, .int 0, .int 0, .ref m37, .ref m38, .ref m39, .ref m40, .ref m41, .ref m42, .ref m43, .ref m44, .ref m45, .ref m46]))] sz) := by
  refine Met.ofW (cc := cX9_kill) (maxL := 2) (ret := (some .boolean)) (by decide) rfl ?_
  intro p e s m args below meth c s₁ B hml hv
  obtain ⟨rfl, hsz, hP, hK, hD0, hN⟩ := hv
  have hx := B.exec
  have hb := B.bytes
  have hr := B.returns
  have hts := atoms_spec (ws := wsX9_kill) B.pre
  have hown : s.vm.findClass RX9 = some m.cls := findClass_of_methodNamed B.named
  have hlocks := B.notSynchronized
  subst hsz
  have hin9 : ∀ w ∈ u_ws RX9 TX9 47, w ∈ wsX9_kill := by decide +kernel
  have hD := hD0.self (sz := s.heap.size)
  generalize hAe : va_A [(h0, .inr (9, [.int 0, .ref m1, .int 0, .int 0, .int 0, .ref m5, .ref m6, .ref m7, .int 0, .int 0, .int 0, .int 0, .int 0, .int 0, .long 0, .ref m15, .ref m16, .ref m17, .ref m18, .ref m19, .ref m20, .int 0, .ref m22, .ref m23, .ref m24, .ref m25, .ref m26, .ref m27, .ref m28, .ref m29, .ref m30, .ref m31, .ref m32, .ref m33, .ref m34, .int 0, .int 0, .ref m37, .ref m38, .ref m39, .ref m40, .ref m41, .ref m42, .ref m43, .ref m44, .ref m45, .ref m46]))] s.heap.size = A at hD ⊢
  have hA : ∀ q : Nat, s.heap.size ≤ q → A q := fun q h => by rw [← hAe]; exact Or.inr h
  have hS : va_S A s.heap s.heap [] := va_S.rf
  have hP : va_P (dC, dI) vwCl [(h0, .inr (9, [.int 0, .ref m1, .int 0, .int 0, .int 0, .ref m5, .ref m6, .ref m7, .int 0, .int 0, .int 0, .int 0, .int 0, .int 0, .long 0, .ref m15, .ref m16, .ref m17, .ref m18, .ref m19, .ref m20, .int 0, .ref m22, .ref m23, .ref m24, .ref m25, .ref m26, .ref m27, .ref m28, .ref m29, .ref m30, .ref m31, .ref m32, .ref m33, .ref m34, .int 0, .int 0, .ref m37, .ref m38, .ref m39, .ref m40, .ref m41, .ref m42, .ref m43, .ref m44, .ref m45, .ref m46]))] s.heap := hP
  have hl := lv_entry ([.ref h0, .int p0]) (n := 2) (Nat.le_of_ble_eq_true rfl)
  rw [lg_entry_eq]
  generalize (lg_sl ([.ref h0, .int p0]) ++ List.replicate (2 - (lg_sl ([.ref h0, .int p0])).length) Slot.unset).toArray = ls at hl ⊢
  have hl : lv_has ls 2 [(0, .ref h0), (1, .int p0)] := hl
  refine lv_aload_n hx hb dX9_kill_0 rfl (lv_at hl 0 rfl) ?_
  refine lv_iconst (v := 0) hx hb dX9_kill_1 (by decide) ?_
  refine va_put (D := (dC, dI)) (ci := 9) (v := .int 0) (ty := (tyX9 0)) (C := RX9) (T := TX9) (N := 47) hx hb hts hin9 tyX9 tyX9_ok nmX9 hown hK hP hD hS 0 rfl rfl 0 (by decide) (hts (.fieldLink RX9 111 "YamRidersModel" "thrown" "I") (by decide +kernel)) (fun _ h9 => h9) rfl (by decide +kernel) rfl rfl (Nat.le_of_ble_eq_true rfl) dX9_kill_2 (fun H locs hP hD hS => ?_)
  have hP : va_P (dC, dI) vwCl [(h0, .inr (9, [.int 0, .ref m1, .int 0, .int 0, .int 0, .ref m5, .ref m6, .ref m7, .int 0, .int 0, .int 0, .int 0, .int 0, .int 0, .long 0, .ref m15, .ref m16, .ref m17, .ref m18, .ref m19, .ref m20, .int 0, .ref m22, .ref m23, .ref m24, .ref m25, .ref m26, .ref m27, .ref m28, .ref m29, .ref m30, .ref m31, .ref m32, .ref m33, .ref m34, .int 0, .int 0, .ref m37, .ref m38, .ref m39, .ref m40, .ref m41, .ref m42, .ref m43, .ref m44, .ref m45, .ref m46]))] H := hP
  have hD : va_D A [(h0, .inr (9, [.int 0, .ref m1, .int 0, .int 0, .int 0, .ref m5, .ref m6, .ref m7, .int 0, .int 0, .int 0, .int 0, .int 0, .int 0, .long 0, .ref m15, .ref m16, .ref m17, .ref m18, .ref m19, .ref m20, .int 0, .ref m22, .ref m23, .ref m24, .ref m25, .ref m26, .ref m27, .ref m28, .ref m29, .ref m30, .ref m31, .ref m32, .ref m33, .ref m34, .int 0, .int 0, .ref m37, .ref m38, .ref m39, .ref m40, .ref m41, .ref m42, .ref m43, .ref m44, .ref m45, .ref m46]))] := hD
  refine lv_aload_n hx hb dX9_kill_5 rfl (lv_at hl 0 rfl) ?_
  refine lv_iload_n hx hb dX9_kill_6 rfl (lv_at hl 1 rfl) ?_
  have hPc := hP.sub (ws' := [(h0, .inr (9, [.int 0, .ref m1, .int 0, .int 0, .int 0, .ref m5, .ref m6, .ref m7, .int 0, .int 0, .int 0, .int 0, .int 0, .int 0, .long 0, .ref m15, .ref m16, .ref m17, .ref m18, .ref m19, .ref m20, .int 0, .ref m22, .ref m23, .ref m24, .ref m25, .ref m26, .ref m27, .ref m28, .ref m29, .ref m30, .ref m31, .ref m32, .ref m33, .ref m34, .int 0, .int 0, .ref m37, .ref m38, .ref m39, .ref m40, .ref m41, .ref m42, .ref m43, .ref m44, .ref m45, .ref m46]))]) [0] rfl
  have hDc := hD.sub (ws' := [(h0, .inr (9, [.int 0, .ref m1, .int 0, .int 0, .int 0, .ref m5, .ref m6, .ref m7, .int 0, .int 0, .int 0, .int 0, .int 0, .int 0, .long 0, .ref m15, .ref m16, .ref m17, .ref m18, .ref m19, .ref m20, .int 0, .ref m22, .ref m23, .ref m24, .ref m25, .ref m26, .ref m27, .ref m28, .ref m29, .ref m30, .ref m31, .ref m32, .ref m33, .ref m34, .int 0, .int 0, .ref m37, .ref m38, .ref m39, .ref m40, .ref m41, .ref m42, .ref m43, .ref m44, .ref m45, .ref m46]))]) [0] (by decide) rfl
  have hKc := hK.sub (tys' := []) [] rfl
  refine cs_i (va_runV (As := [.int p0]) (rest := []) ⟨hx, hb, hml, hown, hts⟩ (c_X9_isRider l dC dI h0 m1 m5 m6 m7 m15 m16 m17 m18 m19 m20 m22 m23 m24 m25 m26 m27 m28 m29 m30 m31 m32 m33 m34 m37 m38 m39 m40 m41 m42 m43 m44 m45 m46 p0 H.size) (cwV 1 hts gX9_kill_X9_isRider rfl rfl rfl (by decide +kernel) ⟨Nat.le_of_ble_eq_true rfl, Nat.le_of_ble_eq_true rfl⟩) ⟨c_blind, va_recv hKc hPc (ci := 9) (q0 := 0) rfl rfl, c_pre hPc hKc hDc hN⟩ rfl rfl hl.1 rfl (lv_room (Nat.le_of_ble_eq_true rfl)) dX9_kill_7 ⟨Nat.le_of_ble_eq_true rfl, Nat.le_of_ble_eq_true rfl⟩) (fun r_1 hr_1 => ?_)
  subst hr_1
  refine lv_if_eq (tgt := 21) hx hb dX9_kill_10 (by decide) (fun _ => ?_) (fun c_2 => by first | exact absurd c_2 (by decide) | exact absurd (by decide) c_2)
  refine lv_iconst (v := 0) hx hb dX9_kill_21 (by decide) ?_
  have hP9 := hP.sub (ws' := []) [] rfl
  have hD9 := hD.sub (ws' := []) [] (by decide) rfl
  have hK9 := hK.sub (tys' := []) [] rfl
  refine W.widen (k := 0) (n := 0) (Nat.le_of_ble_eq_true rfl) (Nat.le_of_ble_eq_true rfl) ?_
  exact W.zret (v := 0) hx hb hr rfl (fun t9 ht hW => ⟨⟨_, (), rfl, rfl, by rw [ht]; exact hP9, va_K.moved hW.alike hK9, hD9⟩, hS.F ht⟩) hS.2.2 dX9_kill_22

set_option maxHeartbeats 4000000 in
set_option maxRecDepth 100000 in
theorem c_X9_way (l : Launch) (dC : Nat → ClassId) (dI : Nat → Nat → Nat) (h0 : Nat) (m1 : Nat) (m5 : Nat) (m6 : Nat) (m7 : Nat) (m15 : Nat) (m16 : Nat) (m17 : Nat) (m18 : Nat) (m19 : Nat) (m20 : Nat) (m22 : Nat) (m23 : Nat) (m24 : Nat) (m25 : Nat) (m26 : Nat) (m27 : Nat) (m28 : Nat) (m29 : Nat) (m30 : Nat) (m31 : Nat) (m32 : Nat) (m33 : Nat) (m34 : Nat) (m37 : Nat) (m38 : Nat) (m39 : Nat) (m40 : Nat) (m41 : Nat) (m42 : Nat) (m43 : Nat) (m44 : Nat) (m45 : Nat) (m46 : Nat) (p0 : Int32) (p1 : Int32) (sz : Nat) : Met l yX9_way wsX9_way ({ frames := 1, cells := 0, slots := 0, locals := 21 }) (va_Pc [.ref h0, .int p0, .int p1] (cP dC dI [(h0, .inr (9, [.int 0, .ref m1, .int 0, .int 0, .int 0, .ref m5, .ref m6, .ref m7, .int 0, .int 0, .int 0, .int 0, .int 0, .int 0, .long 0, .ref m15, .ref m16, .ref m17, .ref m18, .ref m19, .ref m20, .int 0, .ref m22, .ref m23, .ref m24, .ref m25, .ref m26, .ref m27, .ref m28, .ref m29, .ref m30, .ref m31, .ref m32, .ref m33, .ref m34, .int 0, .int 0, .ref m37, .ref m38, .ref m39, .ref m40, .ref m41, .ref m42, .ref m43, .ref m44, .ref m45, .ref m46]))] [] sz)) (va_Qi (fun (r : Int32) (_ : Unit) => r = (-1)) (fun (_ : Unit) t9 => cQ dC dI [] [] (va_A [(h0, .inr (9, [.int 0, .ref m1, .int 0, .int 0, .int 0, .ref m5, .ref m6, .ref m7, .int 0, .int 0, .int 0, .int 0, .int 0, .int 0, .long 0, .ref m15, .ref m16, .ref m17, .ref m18, .ref m19, .ref m20, .int 0, .ref m22, .ref m23, .ref m24, .ref m25, .ref m26, .ref m27, .ref m28, .ref m29, .ref m30, .ref m31, .ref m32, .ref m33, .ref m34, .int 0, .int 0, .ref m37, .ref m38, .ref m39, .ref m40, .ref m41, .ref m42, .ref m43, .ref m44, .ref m45, .ref m46]))] sz) t9) (va_A [(h0, .inr (9, [.int 0, .ref m1, .int 0, .int 0, .int 0, .ref m5, .ref m6, .ref m7, .int 0, .int 0, .int 0, .int 0, .int 0, .int 0, .long 0, .ref m15, .ref m16, .ref m17, .ref m18, .ref m19, .ref m20, .int 0, .ref m22, .ref m23, .ref m24, .ref m25, .ref m26, .ref m27, .ref m28, .ref m29, .ref m30, .ref m31, .ref m32, .ref m33, .ref m34, .int 0, .int 0, .ref m37, .ref m38, .ref m39, .ref m40, .ref m41, .ref m42, .ref m43, .ref m44, .ref m45, .ref m46]))] sz)) 0 0 (va_A [(h0, .inr (9, [.int 0, .ref m1, .int 0, .int 0, .int 0, .ref m5, .ref m6, .ref m7, .int 0, .int 0, .int 0, .int 0, .int 0, .int 0, .long 0, .ref m15, .ref m16, .ref m17, .ref m18, .ref m19, .ref m20, .int 0, .ref m22, .ref m23, .ref m24, .ref m25, .ref m26, .ref m27, .ref m28, .ref m29, .ref m30, .ref m31, .ref m32, .ref m33, .ref m34, .int 0, .int 0, .ref m37, .ref m38, .ref m39, .ref m40, .ref m41, .ref m42, .ref m43, .ref m44, .ref m45, .ref m46]))] sz) := by
  refine Met.ofW (cc := cX9_way) (maxL := 3) (ret := (some .int)) (by decide) rfl ?_
  intro p e s m args below meth c s₁ B hml hv
  obtain ⟨rfl, hsz, hP, hK, hD0, hN⟩ := hv
  have hx := B.exec
  have hb := B.bytes
  have hr := B.returns
  have hts := atoms_spec (ws := wsX9_way) B.pre
  have hown : s.vm.findClass RX9 = some m.cls := findClass_of_methodNamed B.named
  have hlocks := B.notSynchronized
  subst hsz
  have hin9 : ∀ w ∈ u_ws RX9 TX9 47, w ∈ wsX9_way := by decide +kernel
  have hD := hD0.self (sz := s.heap.size)
  generalize hAe : va_A [(h0, .inr (9, [.int 0, .ref m1, .int 0, .int 0, .int 0, .ref m5, .ref m6, .ref m7, .int 0, .int 0, .int 0, .int 0, .int 0, .int 0, .long 0, .ref m15, .ref m16, .ref m17, .ref m18, .ref m19, .ref m20, .int 0, .ref m22, .ref m23, .ref m24, .ref m25, .ref m26, .ref m27, .ref m28, .ref m29, .ref m30, .ref m31, .ref m32, .ref m33, .ref m34, .int 0, .int 0, .ref m37, .ref m38, .ref m39, .ref m40, .ref m41, .ref m42, .ref m43, .ref m44, .ref m45, .ref m46]))] s.heap.size = A at hD ⊢
  have hA : ∀ q : Nat, s.heap.size ≤ q → A q := fun q h => by rw [← hAe]; exact Or.inr h
  have hS : va_S A s.heap s.heap [] := va_S.rf
  have hP : va_P (dC, dI) vwCl [(h0, .inr (9, [.int 0, .ref m1, .int 0, .int 0, .int 0, .ref m5, .ref m6, .ref m7, .int 0, .int 0, .int 0, .int 0, .int 0, .int 0, .long 0, .ref m15, .ref m16, .ref m17, .ref m18, .ref m19, .ref m20, .int 0, .ref m22, .ref m23, .ref m24, .ref m25, .ref m26, .ref m27, .ref m28, .ref m29, .ref m30, .ref m31, .ref m32, .ref m33, .ref m34, .int 0, .int 0, .ref m37, .ref m38, .ref m39, .ref m40, .ref m41, .ref m42, .ref m43, .ref m44, .ref m45, .ref m46]))] s.heap := hP
  have hl := lv_entry ([.ref h0, .int p0, .int p1]) (n := 3) (Nat.le_of_ble_eq_true rfl)
  rw [lg_entry_eq]
  generalize (lg_sl ([.ref h0, .int p0, .int p1]) ++ List.replicate (3 - (lg_sl ([.ref h0, .int p0, .int p1])).length) Slot.unset).toArray = ls at hl ⊢
  have hl : lv_has ls 3 [(0, .ref h0), (1, .int p0), (2, .int p1)] := hl
  refine lv_aload_n hx hb dX9_way_0 rfl (lv_at hl 0 rfl) ?_
  refine lv_iconst (v := 0) hx hb dX9_way_1 (by decide) ?_
  refine va_put (D := (dC, dI)) (ci := 9) (v := .int 0) (ty := (tyX9 0)) (C := RX9) (T := TX9) (N := 47) hx hb hts hin9 tyX9 tyX9_ok nmX9 hown hK hP hD hS 0 rfl rfl 0 (by decide) (hts (.fieldLink RX9 111 "YamRidersModel" "thrown" "I") (by decide +kernel)) (fun _ h9 => h9) rfl (by decide +kernel) rfl rfl (Nat.le_of_ble_eq_true rfl) dX9_way_2 (fun H locs hP hD hS => ?_)
  have hP : va_P (dC, dI) vwCl [(h0, .inr (9, [.int 0, .ref m1, .int 0, .int 0, .int 0, .ref m5, .ref m6, .ref m7, .int 0, .int 0, .int 0, .int 0, .int 0, .int 0, .long 0, .ref m15, .ref m16, .ref m17, .ref m18, .ref m19, .ref m20, .int 0, .ref m22, .ref m23, .ref m24, .ref m25, .ref m26, .ref m27, .ref m28, .ref m29, .ref m30, .ref m31, .ref m32, .ref m33, .ref m34, .int 0, .int 0, .ref m37, .ref m38, .ref m39, .ref m40, .ref m41, .ref m42, .ref m43, .ref m44, .ref m45, .ref m46]))] H := hP
  have hD : va_D A [(h0, .inr (9, [.int 0, .ref m1, .int 0, .int 0, .int 0, .ref m5, .ref m6, .ref m7, .int 0, .int 0, .int 0, .int 0, .int 0, .int 0, .long 0, .ref m15, .ref m16, .ref m17, .ref m18, .ref m19, .ref m20, .int 0, .ref m22, .ref m23, .ref m24, .ref m25, .ref m26, .ref m27, .ref m28, .ref m29, .ref m30, .ref m31, .ref m32, .ref m33, .ref m34, .int 0, .int 0, .ref m37, .ref m38, .ref m39, .ref m40, .ref m41, .ref m42, .ref m43, .ref m44, .ref m45, .ref m46]))] := hD
  refine lv_aload_n hx hb dX9_way_5 rfl (lv_at hl 0 rfl) ?_
  refine lv_iload_n hx hb dX9_way_6 rfl (lv_at hl 1 rfl) ?_
  have hPc := hP.sub (ws' := [(h0, .inr (9, [.int 0, .ref m1, .int 0, .int 0, .int 0, .ref m5, .ref m6, .ref m7, .int 0, .int 0, .int 0, .int 0, .int 0, .int 0, .long 0, .ref m15, .ref m16, .ref m17, .ref m18, .ref m19, .ref m20, .int 0, .ref m22, .ref m23, .ref m24, .ref m25, .ref m26, .ref m27, .ref m28, .ref m29, .ref m30, .ref m31, .ref m32, .ref m33, .ref m34, .int 0, .int 0, .ref m37, .ref m38, .ref m39, .ref m40, .ref m41, .ref m42, .ref m43, .ref m44, .ref m45, .ref m46]))]) [0] rfl
  have hDc := hD.sub (ws' := [(h0, .inr (9, [.int 0, .ref m1, .int 0, .int 0, .int 0, .ref m5, .ref m6, .ref m7, .int 0, .int 0, .int 0, .int 0, .int 0, .int 0, .long 0, .ref m15, .ref m16, .ref m17, .ref m18, .ref m19, .ref m20, .int 0, .ref m22, .ref m23, .ref m24, .ref m25, .ref m26, .ref m27, .ref m28, .ref m29, .ref m30, .ref m31, .ref m32, .ref m33, .ref m34, .int 0, .int 0, .ref m37, .ref m38, .ref m39, .ref m40, .ref m41, .ref m42, .ref m43, .ref m44, .ref m45, .ref m46]))]) [0] (by decide) rfl
  have hKc := hK.sub (tys' := []) [] rfl
  refine cs_i (va_runV (As := [.int p0]) (rest := []) ⟨hx, hb, hml, hown, hts⟩ (c_X9_isRider l dC dI h0 m1 m5 m6 m7 m15 m16 m17 m18 m19 m20 m22 m23 m24 m25 m26 m27 m28 m29 m30 m31 m32 m33 m34 m37 m38 m39 m40 m41 m42 m43 m44 m45 m46 p0 H.size) (cwV 1 hts gX9_way_X9_isRider rfl rfl rfl (by decide +kernel) ⟨Nat.le_of_ble_eq_true rfl, Nat.le_of_ble_eq_true rfl⟩) ⟨c_blind, va_recv hKc hPc (ci := 9) (q0 := 0) rfl rfl, c_pre hPc hKc hDc hN⟩ rfl rfl hl.1 rfl (lv_room (Nat.le_of_ble_eq_true rfl)) dX9_way_7 ⟨Nat.le_of_ble_eq_true rfl, Nat.le_of_ble_eq_true rfl⟩) (fun r_1 hr_1 => ?_)
  subst hr_1
  refine lv_if_eq (tgt := 41) hx hb dX9_way_10 (by decide) (fun _ => ?_) (fun c_2 => by first | exact absurd c_2 (by decide) | exact absurd (by decide) c_2)
  refine lv_iconst (v := (-1)) hx hb dX9_way_41 (by decide) ?_
  have hP9 := hP.sub (ws' := []) [] rfl
  have hD9 := hD.sub (ws' := []) [] (by decide) rfl
  have hK9 := hK.sub (tys' := []) [] rfl
  refine W.widen (k := 0) (n := 0) (Nat.le_of_ble_eq_true rfl) (Nat.le_of_ble_eq_true rfl) ?_
  exact W.iret (v := (-1)) hx hb hr (fun t9 ht hW => ⟨⟨_, (), rfl, rfl, by rw [ht]; exact hP9, va_K.moved hW.alike hK9, hD9⟩, hS.F ht⟩) hS.2.2 dX9_way_42

set_option maxHeartbeats 4000000 in
set_option maxRecDepth 100000 in
theorem c_X9_voided (l : Launch) (dC : Nat → ClassId) (dI : Nat → Nat → Nat) (h0 : Nat) (m1 : Nat) (m5 : Nat) (m6 : Nat) (m7 : Nat) (m15 : Nat) (m16 : Nat) (m17 : Nat) (m18 : Nat) (m19 : Nat) (m20 : Nat) (m22 : Nat) (m23 : Nat) (m24 : Nat) (m25 : Nat) (m26 : Nat) (m27 : Nat) (m28 : Nat) (m29 : Nat) (m30 : Nat) (m31 : Nat) (m32 : Nat) (m33 : Nat) (m34 : Nat) (m37 : Nat) (m38 : Nat) (m39 : Nat) (m40 : Nat) (m41 : Nat) (m42 : Nat) (m43 : Nat) (m44 : Nat) (m45 : Nat) (m46 : Nat) (p0 : Int32) (p1 : Int32) (sz : Nat) : Met l yX9_voided wsX9_voided ({ frames := 1, cells := 0, slots := 0, locals := 21 }) (va_Pc [.ref h0, .int p0, .int p1] (cP dC dI [(h0, .inr (9, [.int 0, .ref m1, .int 0, .int 0, .int 0, .ref m5, .ref m6, .ref m7, .int 0, .int 0, .int 0, .int 0, .int 0, .int 0, .long 0, .ref m15, .ref m16, .ref m17, .ref m18, .ref m19, .ref m20, .int 0, .ref m22, .ref m23, .ref m24, .ref m25, .ref m26, .ref m27, .ref m28, .ref m29, .ref m30, .ref m31, .ref m32, .ref m33, .ref m34, .int 0, .int 0, .ref m37, .ref m38, .ref m39, .ref m40, .ref m41, .ref m42, .ref m43, .ref m44, .ref m45, .ref m46]))] [] sz)) (va_Qi (fun (r : Int32) (_ : Unit) => r = (-1)) (fun (_ : Unit) t9 => cQ dC dI [] [] (va_A [(h0, .inr (9, [.int 0, .ref m1, .int 0, .int 0, .int 0, .ref m5, .ref m6, .ref m7, .int 0, .int 0, .int 0, .int 0, .int 0, .int 0, .long 0, .ref m15, .ref m16, .ref m17, .ref m18, .ref m19, .ref m20, .int 0, .ref m22, .ref m23, .ref m24, .ref m25, .ref m26, .ref m27, .ref m28, .ref m29, .ref m30, .ref m31, .ref m32, .ref m33, .ref m34, .int 0, .int 0, .ref m37, .ref m38, .ref m39, .ref m40, .ref m41, .ref m42, .ref m43, .ref m44, .ref m45, .ref m46]))] sz) t9) (va_A [(h0, .inr (9, [.int 0, .ref m1, .int 0, .int 0, .int 0, .ref m5, .ref m6, .ref m7, .int 0, .int 0, .int 0, .int 0, .int 0, .int 0, .long 0, .ref m15, .ref m16, .ref m17, .ref m18, .ref m19, .ref m20, .int 0, .ref m22, .ref m23, .ref m24, .ref m25, .ref m26, .ref m27, .ref m28, .ref m29, .ref m30, .ref m31, .ref m32, .ref m33, .ref m34, .int 0, .int 0, .ref m37, .ref m38, .ref m39, .ref m40, .ref m41, .ref m42, .ref m43, .ref m44, .ref m45, .ref m46]))] sz)) 0 0 (va_A [(h0, .inr (9, [.int 0, .ref m1, .int 0, .int 0, .int 0, .ref m5, .ref m6, .ref m7, .int 0, .int 0, .int 0, .int 0, .int 0, .int 0, .long 0, .ref m15, .ref m16, .ref m17, .ref m18, .ref m19, .ref m20, .int 0, .ref m22, .ref m23, .ref m24, .ref m25, .ref m26, .ref m27, .ref m28, .ref m29, .ref m30, .ref m31, .ref m32, .ref m33, .ref m34, .int 0, .int 0, .ref m37, .ref m38, .ref m39, .ref m40, .ref m41, .ref m42, .ref m43, .ref m44, .ref m45, .ref m46]))] sz) := by
  refine Met.ofW (cc := cX9_voided) (maxL := 3) (ret := (some .int)) (by decide) rfl ?_
  intro p e s m args below meth c s₁ B hml hv
  obtain ⟨rfl, hsz, hP, hK, hD0, hN⟩ := hv
  have hx := B.exec
  have hb := B.bytes
  have hr := B.returns
  have hts := atoms_spec (ws := wsX9_voided) B.pre
  have hown : s.vm.findClass RX9 = some m.cls := findClass_of_methodNamed B.named
  have hlocks := B.notSynchronized
  subst hsz
  have hin9 : ∀ w ∈ u_ws RX9 TX9 47, w ∈ wsX9_voided := by decide +kernel
  have hD := hD0.self (sz := s.heap.size)
  generalize hAe : va_A [(h0, .inr (9, [.int 0, .ref m1, .int 0, .int 0, .int 0, .ref m5, .ref m6, .ref m7, .int 0, .int 0, .int 0, .int 0, .int 0, .int 0, .long 0, .ref m15, .ref m16, .ref m17, .ref m18, .ref m19, .ref m20, .int 0, .ref m22, .ref m23, .ref m24, .ref m25, .ref m26, .ref m27, .ref m28, .ref m29, .ref m30, .ref m31, .ref m32, .ref m33, .ref m34, .int 0, .int 0, .ref m37, .ref m38, .ref m39, .ref m40, .ref m41, .ref m42, .ref m43, .ref m44, .ref m45, .ref m46]))] s.heap.size = A at hD ⊢
  have hA : ∀ q : Nat, s.heap.size ≤ q → A q := fun q h => by rw [← hAe]; exact Or.inr h
  have hS : va_S A s.heap s.heap [] := va_S.rf
  have hP : va_P (dC, dI) vwCl [(h0, .inr (9, [.int 0, .ref m1, .int 0, .int 0, .int 0, .ref m5, .ref m6, .ref m7, .int 0, .int 0, .int 0, .int 0, .int 0, .int 0, .long 0, .ref m15, .ref m16, .ref m17, .ref m18, .ref m19, .ref m20, .int 0, .ref m22, .ref m23, .ref m24, .ref m25, .ref m26, .ref m27, .ref m28, .ref m29, .ref m30, .ref m31, .ref m32, .ref m33, .ref m34, .int 0, .int 0, .ref m37, .ref m38, .ref m39, .ref m40, .ref m41, .ref m42, .ref m43, .ref m44, .ref m45, .ref m46]))] s.heap := hP
  have hl := lv_entry ([.ref h0, .int p0, .int p1]) (n := 3) (Nat.le_of_ble_eq_true rfl)
  rw [lg_entry_eq]
  generalize (lg_sl ([.ref h0, .int p0, .int p1]) ++ List.replicate (3 - (lg_sl ([.ref h0, .int p0, .int p1])).length) Slot.unset).toArray = ls at hl ⊢
  have hl : lv_has ls 3 [(0, .ref h0), (1, .int p0), (2, .int p1)] := hl
  refine lv_aload_n hx hb dX9_voided_0 rfl (lv_at hl 0 rfl) ?_
  refine lv_iconst (v := 0) hx hb dX9_voided_1 (by decide) ?_
  refine va_put (D := (dC, dI)) (ci := 9) (v := .int 0) (ty := (tyX9 0)) (C := RX9) (T := TX9) (N := 47) hx hb hts hin9 tyX9 tyX9_ok nmX9 hown hK hP hD hS 0 rfl rfl 0 (by decide) (hts (.fieldLink RX9 111 "YamRidersModel" "thrown" "I") (by decide +kernel)) (fun _ h9 => h9) rfl (by decide +kernel) rfl rfl (Nat.le_of_ble_eq_true rfl) dX9_voided_2 (fun H locs hP hD hS => ?_)
  have hP : va_P (dC, dI) vwCl [(h0, .inr (9, [.int 0, .ref m1, .int 0, .int 0, .int 0, .ref m5, .ref m6, .ref m7, .int 0, .int 0, .int 0, .int 0, .int 0, .int 0, .long 0, .ref m15, .ref m16, .ref m17, .ref m18, .ref m19, .ref m20, .int 0, .ref m22, .ref m23, .ref m24, .ref m25, .ref m26, .ref m27, .ref m28, .ref m29, .ref m30, .ref m31, .ref m32, .ref m33, .ref m34, .int 0, .int 0, .ref m37, .ref m38, .ref m39, .ref m40, .ref m41, .ref m42, .ref m43, .ref m44, .ref m45, .ref m46]))] H := hP
  have hD : va_D A [(h0, .inr (9, [.int 0, .ref m1, .int 0, .int 0, .int 0, .ref m5, .ref m6, .ref m7, .int 0, .int 0, .int 0, .int 0, .int 0, .int 0, .long 0, .ref m15, .ref m16, .ref m17, .ref m18, .ref m19, .ref m20, .int 0, .ref m22, .ref m23, .ref m24, .ref m25, .ref m26, .ref m27, .ref m28, .ref m29, .ref m30, .ref m31, .ref m32, .ref m33, .ref m34, .int 0, .int 0, .ref m37, .ref m38, .ref m39, .ref m40, .ref m41, .ref m42, .ref m43, .ref m44, .ref m45, .ref m46]))] := hD
  refine lv_aload_n hx hb dX9_voided_5 rfl (lv_at hl 0 rfl) ?_
  refine lv_iload_n hx hb dX9_voided_6 rfl (lv_at hl 1 rfl) ?_
  have hPc := hP.sub (ws' := [(h0, .inr (9, [.int 0, .ref m1, .int 0, .int 0, .int 0, .ref m5, .ref m6, .ref m7, .int 0, .int 0, .int 0, .int 0, .int 0, .int 0, .long 0, .ref m15, .ref m16, .ref m17, .ref m18, .ref m19, .ref m20, .int 0, .ref m22, .ref m23, .ref m24, .ref m25, .ref m26, .ref m27, .ref m28, .ref m29, .ref m30, .ref m31, .ref m32, .ref m33, .ref m34, .int 0, .int 0, .ref m37, .ref m38, .ref m39, .ref m40, .ref m41, .ref m42, .ref m43, .ref m44, .ref m45, .ref m46]))]) [0] rfl
  have hDc := hD.sub (ws' := [(h0, .inr (9, [.int 0, .ref m1, .int 0, .int 0, .int 0, .ref m5, .ref m6, .ref m7, .int 0, .int 0, .int 0, .int 0, .int 0, .int 0, .long 0, .ref m15, .ref m16, .ref m17, .ref m18, .ref m19, .ref m20, .int 0, .ref m22, .ref m23, .ref m24, .ref m25, .ref m26, .ref m27, .ref m28, .ref m29, .ref m30, .ref m31, .ref m32, .ref m33, .ref m34, .int 0, .int 0, .ref m37, .ref m38, .ref m39, .ref m40, .ref m41, .ref m42, .ref m43, .ref m44, .ref m45, .ref m46]))]) [0] (by decide) rfl
  have hKc := hK.sub (tys' := []) [] rfl
  refine cs_i (va_runV (As := [.int p0]) (rest := []) ⟨hx, hb, hml, hown, hts⟩ (c_X9_isTablet l dC dI h0 m1 m5 m6 m7 m15 m16 m17 m18 m19 m20 m22 m23 m24 m25 m26 m27 m28 m29 m30 m31 m32 m33 m34 m37 m38 m39 m40 m41 m42 m43 m44 m45 m46 p0 H.size) (cwV 1 hts gX9_voided_X9_isTablet rfl rfl rfl (by decide +kernel) ⟨Nat.le_of_ble_eq_true rfl, Nat.le_of_ble_eq_true rfl⟩) ⟨c_blind, va_recv hKc hPc (ci := 9) (q0 := 0) rfl rfl, c_pre hPc hKc hDc hN⟩ rfl rfl hl.1 rfl (lv_room (Nat.le_of_ble_eq_true rfl)) dX9_voided_7 ⟨Nat.le_of_ble_eq_true rfl, Nat.le_of_ble_eq_true rfl⟩) (fun r_1 hr_1 => ?_)
  subst hr_1
  refine lv_if_eq (tgt := 34) hx hb dX9_voided_10 (by decide) (fun _ => ?_) (fun c_2 => by first | exact absurd c_2 (by decide) | exact absurd (by decide) c_2)
  refine lv_iconst (v := (-1)) hx hb dX9_voided_34 (by decide) ?_
  have hP9 := hP.sub (ws' := []) [] rfl
  have hD9 := hD.sub (ws' := []) [] (by decide) rfl
  have hK9 := hK.sub (tys' := []) [] rfl
  refine W.widen (k := 0) (n := 0) (Nat.le_of_ble_eq_true rfl) (Nat.le_of_ble_eq_true rfl) ?_
  exact W.iret (v := (-1)) hx hb hr (fun t9 ht hW => ⟨⟨_, (), rfl, rfl, by rw [ht]; exact hP9, va_K.moved hW.alike hK9, hD9⟩, hS.F ht⟩) hS.2.2 dX9_voided_35

set_option maxHeartbeats 4000000 in
set_option maxRecDepth 100000 in
theorem c_X9_known (l : Launch) (dC : Nat → ClassId) (dI : Nat → Nat → Nat) (h0 : Nat) (m1 : Nat) (m5 : Nat) (m6 : Nat) (m7 : Nat) (m15 : Nat) (m16 : Nat) (m17 : Nat) (m18 : Nat) (m19 : Nat) (m20 : Nat) (m22 : Nat) (m23 : Nat) (m24 : Nat) (m25 : Nat) (m26 : Nat) (m27 : Nat) (m28 : Nat) (m29 : Nat) (m30 : Nat) (m31 : Nat) (m32 : Nat) (m33 : Nat) (m34 : Nat) (m37 : Nat) (m38 : Nat) (m39 : Nat) (m40 : Nat) (m41 : Nat) (m42 : Nat) (m43 : Nat) (m44 : Nat) (m45 : Nat) (m46 : Nat) (p0 : Int32) (p1 : Int32) (sz : Nat) : Met l yX9_known wsX9_known ({ frames := 1, cells := 0, slots := 0, locals := 21 }) (va_Pc [.ref h0, .int p0, .int p1] (cP dC dI [(h0, .inr (9, [.int 0, .ref m1, .int 0, .int 0, .int 0, .ref m5, .ref m6, .ref m7, .int 0, .int 0, .int 0, .int 0, .int 0, .int 0, .long 0, .ref m15, .ref m16, .ref m17, .ref m18, .ref m19, .ref m20, .int 0, .ref m22, .ref m23, .ref m24, .ref m25, .ref m26, .ref m27, .ref m28, .ref m29, .ref m30, .ref m31, .ref m32, .ref m33, .ref m34, .int 0, .int 0, .ref m37, .ref m38, .ref m39, .ref m40, .ref m41, .ref m42, .ref m43, .ref m44, .ref m45, .ref m46]))] [] sz)) (va_Qi (fun (r : Int32) (_ : Unit) => r = (-1)) (fun (_ : Unit) t9 => cQ dC dI [] [] (va_A [(h0, .inr (9, [.int 0, .ref m1, .int 0, .int 0, .int 0, .ref m5, .ref m6, .ref m7, .int 0, .int 0, .int 0, .int 0, .int 0, .int 0, .long 0, .ref m15, .ref m16, .ref m17, .ref m18, .ref m19, .ref m20, .int 0, .ref m22, .ref m23, .ref m24, .ref m25, .ref m26, .ref m27, .ref m28, .ref m29, .ref m30, .ref m31, .ref m32, .ref m33, .ref m34, .int 0, .int 0, .ref m37, .ref m38, .ref m39, .ref m40, .ref m41, .ref m42, .ref m43, .ref m44, .ref m45, .ref m46]))] sz) t9) (va_A [(h0, .inr (9, [.int 0, .ref m1, .int 0, .int 0, .int 0, .ref m5, .ref m6, .ref m7, .int 0, .int 0, .int 0, .int 0, .int 0, .int 0, .long 0, .ref m15, .ref m16, .ref m17, .ref m18, .ref m19, .ref m20, .int 0, .ref m22, .ref m23, .ref m24, .ref m25, .ref m26, .ref m27, .ref m28, .ref m29, .ref m30, .ref m31, .ref m32, .ref m33, .ref m34, .int 0, .int 0, .ref m37, .ref m38, .ref m39, .ref m40, .ref m41, .ref m42, .ref m43, .ref m44, .ref m45, .ref m46]))] sz)) 0 0 (va_A [(h0, .inr (9, [.int 0, .ref m1, .int 0, .int 0, .int 0, .ref m5, .ref m6, .ref m7, .int 0, .int 0, .int 0, .int 0, .int 0, .int 0, .long 0, .ref m15, .ref m16, .ref m17, .ref m18, .ref m19, .ref m20, .int 0, .ref m22, .ref m23, .ref m24, .ref m25, .ref m26, .ref m27, .ref m28, .ref m29, .ref m30, .ref m31, .ref m32, .ref m33, .ref m34, .int 0, .int 0, .ref m37, .ref m38, .ref m39, .ref m40, .ref m41, .ref m42, .ref m43, .ref m44, .ref m45, .ref m46]))] sz) := by
  refine Met.ofW (cc := cX9_known) (maxL := 3) (ret := (some .int)) (by decide) rfl ?_
  intro p e s m args below meth c s₁ B hml hv
  obtain ⟨rfl, hsz, hP, hK, hD0, hN⟩ := hv
  have hx := B.exec
  have hb := B.bytes
  have hr := B.returns
  have hts := atoms_spec (ws := wsX9_known) B.pre
  have hown : s.vm.findClass RX9 = some m.cls := findClass_of_methodNamed B.named
  have hlocks := B.notSynchronized
  subst hsz
  have hin9 : ∀ w ∈ u_ws RX9 TX9 47, w ∈ wsX9_known := by decide +kernel
  have hD := hD0.self (sz := s.heap.size)
  generalize hAe : va_A [(h0, .inr (9, [.int 0, .ref m1, .int 0, .int 0, .int 0, .ref m5, .ref m6, .ref m7, .int 0, .int 0, .int 0, .int 0, .int 0, .int 0, .long 0, .ref m15, .ref m16, .ref m17, .ref m18, .ref m19, .ref m20, .int 0, .ref m22, .ref m23, .ref m24, .ref m25, .ref m26, .ref m27, .ref m28, .ref m29, .ref m30, .ref m31, .ref m32, .ref m33, .ref m34, .int 0, .int 0, .ref m37, .ref m38, .ref m39, .ref m40, .ref m41, .ref m42, .ref m43, .ref m44, .ref m45, .ref m46]))] s.heap.size = A at hD ⊢
  have hA : ∀ q : Nat, s.heap.size ≤ q → A q := fun q h => by rw [← hAe]; exact Or.inr h
  have hS : va_S A s.heap s.heap [] := va_S.rf
  have hP : va_P (dC, dI) vwCl [(h0, .inr (9, [.int 0, .ref m1, .int 0, .int 0, .int 0, .ref m5, .ref m6, .ref m7, .int 0, .int 0, .int 0, .int 0, .int 0, .int 0, .long 0, .ref m15, .ref m16, .ref m17, .ref m18, .ref m19, .ref m20, .int 0, .ref m22, .ref m23, .ref m24, .ref m25, .ref m26, .ref m27, .ref m28, .ref m29, .ref m30, .ref m31, .ref m32, .ref m33, .ref m34, .int 0, .int 0, .ref m37, .ref m38, .ref m39, .ref m40, .ref m41, .ref m42, .ref m43, .ref m44, .ref m45, .ref m46]))] s.heap := hP
  have hl := lv_entry ([.ref h0, .int p0, .int p1]) (n := 3) (Nat.le_of_ble_eq_true rfl)
  rw [lg_entry_eq]
  generalize (lg_sl ([.ref h0, .int p0, .int p1]) ++ List.replicate (3 - (lg_sl ([.ref h0, .int p0, .int p1])).length) Slot.unset).toArray = ls at hl ⊢
  have hl : lv_has ls 3 [(0, .ref h0), (1, .int p0), (2, .int p1)] := hl
  refine lv_aload_n hx hb dX9_known_0 rfl (lv_at hl 0 rfl) ?_
  refine lv_iconst (v := 0) hx hb dX9_known_1 (by decide) ?_
  refine va_put (D := (dC, dI)) (ci := 9) (v := .int 0) (ty := (tyX9 0)) (C := RX9) (T := TX9) (N := 47) hx hb hts hin9 tyX9 tyX9_ok nmX9 hown hK hP hD hS 0 rfl rfl 0 (by decide) (hts (.fieldLink RX9 111 "YamRidersModel" "thrown" "I") (by decide +kernel)) (fun _ h9 => h9) rfl (by decide +kernel) rfl rfl (Nat.le_of_ble_eq_true rfl) dX9_known_2 (fun H locs hP hD hS => ?_)
  have hP : va_P (dC, dI) vwCl [(h0, .inr (9, [.int 0, .ref m1, .int 0, .int 0, .int 0, .ref m5, .ref m6, .ref m7, .int 0, .int 0, .int 0, .int 0, .int 0, .int 0, .long 0, .ref m15, .ref m16, .ref m17, .ref m18, .ref m19, .ref m20, .int 0, .ref m22, .ref m23, .ref m24, .ref m25, .ref m26, .ref m27, .ref m28, .ref m29, .ref m30, .ref m31, .ref m32, .ref m33, .ref m34, .int 0, .int 0, .ref m37, .ref m38, .ref m39, .ref m40, .ref m41, .ref m42, .ref m43, .ref m44, .ref m45, .ref m46]))] H := hP
  have hD : va_D A [(h0, .inr (9, [.int 0, .ref m1, .int 0, .int 0, .int 0, .ref m5, .ref m6, .ref m7, .int 0, .int 0, .int 0, .int 0, .int 0, .int 0, .long 0, .ref m15, .ref m16, .ref m17, .ref m18, .ref m19, .ref m20, .int 0, .ref m22, .ref m23, .ref m24, .ref m25, .ref m26, .ref m27, .ref m28, .ref m29, .ref m30, .ref m31, .ref m32, .ref m33, .ref m34, .int 0, .int 0, .ref m37, .ref m38, .ref m39, .ref m40, .ref m41, .ref m42, .ref m43, .ref m44, .ref m45, .ref m46]))] := hD
  refine lv_aload_n hx hb dX9_known_5 rfl (lv_at hl 0 rfl) ?_
  refine lv_iload_n hx hb dX9_known_6 rfl (lv_at hl 1 rfl) ?_
  have hPc := hP.sub (ws' := [(h0, .inr (9, [.int 0, .ref m1, .int 0, .int 0, .int 0, .ref m5, .ref m6, .ref m7, .int 0, .int 0, .int 0, .int 0, .int 0, .int 0, .long 0, .ref m15, .ref m16, .ref m17, .ref m18, .ref m19, .ref m20, .int 0, .ref m22, .ref m23, .ref m24, .ref m25, .ref m26, .ref m27, .ref m28, .ref m29, .ref m30, .ref m31, .ref m32, .ref m33, .ref m34, .int 0, .int 0, .ref m37, .ref m38, .ref m39, .ref m40, .ref m41, .ref m42, .ref m43, .ref m44, .ref m45, .ref m46]))]) [0] rfl
  have hDc := hD.sub (ws' := [(h0, .inr (9, [.int 0, .ref m1, .int 0, .int 0, .int 0, .ref m5, .ref m6, .ref m7, .int 0, .int 0, .int 0, .int 0, .int 0, .int 0, .long 0, .ref m15, .ref m16, .ref m17, .ref m18, .ref m19, .ref m20, .int 0, .ref m22, .ref m23, .ref m24, .ref m25, .ref m26, .ref m27, .ref m28, .ref m29, .ref m30, .ref m31, .ref m32, .ref m33, .ref m34, .int 0, .int 0, .ref m37, .ref m38, .ref m39, .ref m40, .ref m41, .ref m42, .ref m43, .ref m44, .ref m45, .ref m46]))]) [0] (by decide) rfl
  have hKc := hK.sub (tys' := []) [] rfl
  refine cs_i (va_runV (As := [.int p0]) (rest := []) ⟨hx, hb, hml, hown, hts⟩ (c_X9_isRider l dC dI h0 m1 m5 m6 m7 m15 m16 m17 m18 m19 m20 m22 m23 m24 m25 m26 m27 m28 m29 m30 m31 m32 m33 m34 m37 m38 m39 m40 m41 m42 m43 m44 m45 m46 p0 H.size) (cwV 1 hts gX9_known_X9_isRider rfl rfl rfl (by decide +kernel) ⟨Nat.le_of_ble_eq_true rfl, Nat.le_of_ble_eq_true rfl⟩) ⟨c_blind, va_recv hKc hPc (ci := 9) (q0 := 0) rfl rfl, c_pre hPc hKc hDc hN⟩ rfl rfl hl.1 rfl (lv_room (Nat.le_of_ble_eq_true rfl)) dX9_known_7 ⟨Nat.le_of_ble_eq_true rfl, Nat.le_of_ble_eq_true rfl⟩) (fun r_1 hr_1 => ?_)
  subst hr_1
  refine lv_if_eq (tgt := 34) hx hb dX9_known_10 (by decide) (fun _ => ?_) (fun c_2 => by first | exact absurd c_2 (by decide) | exact absurd (by decide) c_2)
  refine lv_iconst (v := (-1)) hx hb dX9_known_34 (by decide) ?_
  have hP9 := hP.sub (ws' := []) [] rfl
  have hD9 := hD.sub (ws' := []) [] (by decide) rfl
  have hK9 := hK.sub (tys' := []) [] rfl
  refine W.widen (k := 0) (n := 0) (Nat.le_of_ble_eq_true rfl) (Nat.le_of_ble_eq_true rfl) ?_
  exact W.iret (v := (-1)) hx hb hr (fun t9 ht hW => ⟨⟨_, (), rfl, rfl, by rw [ht]; exact hP9, va_K.moved hW.alike hK9, hD9⟩, hS.F ht⟩) hS.2.2 dX9_known_35

set_option maxHeartbeats 4000000 in
set_option maxRecDepth 100000 in
theorem c_X9_horsesAt (l : Launch) (dC : Nat → ClassId) (dI : Nat → Nat → Nat) (h0 : Nat) (m1 : Nat) (m5 : Nat) (m6 : Nat) (m7 : Nat) (m15 : Nat) (m16 : Nat) (m17 : Nat) (m18 : Nat) (m19 : Nat) (m20 : Nat) (m22 : Nat) (m23 : Nat) (m24 : Nat) (m25 : Nat) (m26 : Nat) (m27 : Nat) (m28 : Nat) (m29 : Nat) (m30 : Nat) (m31 : Nat) (m32 : Nat) (m33 : Nat) (m34 : Nat) (m37 : Nat) (m38 : Nat) (m39 : Nat) (m40 : Nat) (m41 : Nat) (m42 : Nat) (m43 : Nat) (m44 : Nat) (m45 : Nat) (m46 : Nat) (p0 : Int32) (sz : Nat) : Met l yX9_horsesAt wsX9_horsesAt ({ frames := 0, cells := 0, slots := 0, locals := 0 }) (va_Pc [.ref h0, .int p0] (cP dC dI [(h0, .inr (9, [.int 0, .ref m1, .int 0, .int 0, .int 0, .ref m5, .ref m6, .ref m7, .int 0, .int 0, .int 0, .int 0, .int 0, .int 0, .long 0, .ref m15, .ref m16, .ref m17, .ref m18, .ref m19, .ref m20, .int 0, .ref m22, .ref m23, .ref m24, .ref m25, .ref m26, .ref m27, .ref m28, .ref m29, .ref m30, .ref m31, .ref m32, .ref m33, .ref m34, .int 0, .int 0, .ref m37, .ref m38, .ref m39, .ref m40, .ref m41, .ref m42, .ref m43, .ref m44, .ref m45, .ref m46]))] [] sz)) (vp_Si (fun r => r = 0)) 0 0 (fun _ => False) := by
  refine Met.ofW (cc := cX9_horsesAt) (maxL := 4) (ret := (some .int)) (by decide) rfl ?_
  intro p e s m args below meth c s₁ B hml hv
  obtain ⟨rfl, hsz, hP, hK, hD0, hN⟩ := hv
  have hx := B.exec
  have hb := B.bytes
  have hr := B.returns
  have hts := atoms_spec (ws := wsX9_horsesAt) B.pre
  have hown : s.vm.findClass RX9 = some m.cls := findClass_of_methodNamed B.named
  have hlocks := B.notSynchronized
  subst hsz
  have hin9 : ∀ w ∈ u_ws RX9 TX9 47, w ∈ wsX9_horsesAt := by decide +kernel
  have hD := hD0
  have hP : va_P (dC, dI) vwCl [(h0, .inr (9, [.int 0, .ref m1, .int 0, .int 0, .int 0, .ref m5, .ref m6, .ref m7, .int 0, .int 0, .int 0, .int 0, .int 0, .int 0, .long 0, .ref m15, .ref m16, .ref m17, .ref m18, .ref m19, .ref m20, .int 0, .ref m22, .ref m23, .ref m24, .ref m25, .ref m26, .ref m27, .ref m28, .ref m29, .ref m30, .ref m31, .ref m32, .ref m33, .ref m34, .int 0, .int 0, .ref m37, .ref m38, .ref m39, .ref m40, .ref m41, .ref m42, .ref m43, .ref m44, .ref m45, .ref m46]))] s.heap := hP
  have hl := lv_entry ([.ref h0, .int p0]) (n := 4) (Nat.le_of_ble_eq_true rfl)
  rw [lg_entry_eq]
  generalize (lg_sl ([.ref h0, .int p0]) ++ List.replicate (4 - (lg_sl ([.ref h0, .int p0])).length) Slot.unset).toArray = ls at hl ⊢
  have hl : lv_has ls 4 [(0, .ref h0), (1, .int p0)] := hl
  refine lv_iconst (v := 0) hx hb dX9_horsesAt_0 (by decide) ?_
  refine lv_istore_n (lv' := [(2, .int 0), (0, .ref h0), (1, .int p0)]) hx hb dX9_horsesAt_1 rfl hl (by decide) rfl (fun ls hl => ?_)
  refine lv_iconst (v := 0) hx hb dX9_horsesAt_2 (by decide) ?_
  refine lv_istore_n (lv' := [(3, .int 0), (2, .int 0), (0, .ref h0), (1, .int p0)]) hx hb dX9_horsesAt_3 rfl hl (by decide) rfl (fun ls hl => ?_)
  refine lv_iload_n hx hb dX9_horsesAt_4 rfl (lv_at hl 0 rfl) ?_
  refine lv_aload_n hx hb dX9_horsesAt_5 rfl (lv_at hl 2 rfl) ?_
  refine va_get (D := (dC, dI)) (ci := 9) (v := .int 0) (C := RX9) (T := TX9) (N := 47) hx hb hts hin9 hown hK hP 0 rfl rfl 21 (by decide) (hts (.fieldLink RX9 202 "YamRidersModel" "horses" "I") (by decide +kernel)) (fun _ h9 => h9) rfl dX9_horsesAt_6 ?_
  refine lv_icmp_ge (tgt := 36) hx hb dX9_horsesAt_9 (by decide) (fun _ => ?_) (fun c_1 => by first | exact absurd c_1 (by decide) | exact absurd (by decide) c_1)
  refine lv_iload_n hx hb dX9_horsesAt_36 rfl (lv_at hl 1 rfl) ?_
  exact W.iret (v := 0) hx hb hr (fun t9 ht hW => ⟨_, rfl, rfl, ht⟩) (fun q h => nomatch h) dX9_horsesAt_37

set_option maxHeartbeats 4000000 in
set_option maxRecDepth 100000 in
theorem c_X9_at (l : Launch) (dC : Nat → ClassId) (dI : Nat → Nat → Nat) (h0 : Nat) (m1 : Nat) (m5 : Nat) (m6 : Nat) (m7 : Nat) (m15 : Nat) (m16 : Nat) (m17 : Nat) (m18 : Nat) (m19 : Nat) (m20 : Nat) (m22 : Nat) (m23 : Nat) (m24 : Nat) (m25 : Nat) (m26 : Nat) (m27 : Nat) (m28 : Nat) (m29 : Nat) (m30 : Nat) (m31 : Nat) (m32 : Nat) (m33 : Nat) (m34 : Nat) (m37 : Nat) (m38 : Nat) (m39 : Nat) (m40 : Nat) (m41 : Nat) (m42 : Nat) (m43 : Nat) (m44 : Nat) (m45 : Nat) (m46 : Nat) (k_fodder : ClassId) (p0 : Int32) (p1 : Int32) (sz : Nat) : Met l yX9_at wsX9_at ({ frames := 1, cells := 0, slots := 0, locals := 23 }) (va_Pc [.ref h0, .int p0, .int p1] (cP dC dI [(h0, .inr (9, [.int 0, .ref m1, .int 0, .int 0, .int 0, .ref m5, .ref m6, .ref m7, .int 0, .int 0, .int 0, .int 0, .int 0, .int 0, .long 0, .ref m15, .ref m16, .ref m17, .ref m18, .ref m19, .ref m20, .int 0, .ref m22, .ref m23, .ref m24, .ref m25, .ref m26, .ref m27, .ref m28, .ref m29, .ref m30, .ref m31, .ref m32, .ref m33, .ref m34, .int 0, .int 0, .ref m37, .ref m38, .ref m39, .ref m40, .ref m41, .ref m42, .ref m43, .ref m44, .ref m45, .ref m46])), (m18, .inl (k_fodder, 12, .inl (fun _ => 0)))] [(k_fodder, .int)] sz)) (va_Qi (fun (r : Int32) (_ : Unit) => r = (if (sp_st p0) = 0 then (-1) else (if p1 < 0 then (-1) else (if p1 ≤ 2 then (if p1 = 0 then 0 else (if p1 = 1 then 0 else 0)) else (-1))))) (fun (_ : Unit) t9 => cQ dC dI [] [] (va_A [(h0, .inr (9, [.int 0, .ref m1, .int 0, .int 0, .int 0, .ref m5, .ref m6, .ref m7, .int 0, .int 0, .int 0, .int 0, .int 0, .int 0, .long 0, .ref m15, .ref m16, .ref m17, .ref m18, .ref m19, .ref m20, .int 0, .ref m22, .ref m23, .ref m24, .ref m25, .ref m26, .ref m27, .ref m28, .ref m29, .ref m30, .ref m31, .ref m32, .ref m33, .ref m34, .int 0, .int 0, .ref m37, .ref m38, .ref m39, .ref m40, .ref m41, .ref m42, .ref m43, .ref m44, .ref m45, .ref m46])), (m18, .inl (k_fodder, 12, .inl (fun _ => 0)))] sz) t9) (va_A [(h0, .inr (9, [.int 0, .ref m1, .int 0, .int 0, .int 0, .ref m5, .ref m6, .ref m7, .int 0, .int 0, .int 0, .int 0, .int 0, .int 0, .long 0, .ref m15, .ref m16, .ref m17, .ref m18, .ref m19, .ref m20, .int 0, .ref m22, .ref m23, .ref m24, .ref m25, .ref m26, .ref m27, .ref m28, .ref m29, .ref m30, .ref m31, .ref m32, .ref m33, .ref m34, .int 0, .int 0, .ref m37, .ref m38, .ref m39, .ref m40, .ref m41, .ref m42, .ref m43, .ref m44, .ref m45, .ref m46])), (m18, .inl (k_fodder, 12, .inl (fun _ => 0)))] sz)) 0 0 (va_A [(h0, .inr (9, [.int 0, .ref m1, .int 0, .int 0, .int 0, .ref m5, .ref m6, .ref m7, .int 0, .int 0, .int 0, .int 0, .int 0, .int 0, .long 0, .ref m15, .ref m16, .ref m17, .ref m18, .ref m19, .ref m20, .int 0, .ref m22, .ref m23, .ref m24, .ref m25, .ref m26, .ref m27, .ref m28, .ref m29, .ref m30, .ref m31, .ref m32, .ref m33, .ref m34, .int 0, .int 0, .ref m37, .ref m38, .ref m39, .ref m40, .ref m41, .ref m42, .ref m43, .ref m44, .ref m45, .ref m46])), (m18, .inl (k_fodder, 12, .inl (fun _ => 0)))] sz) := by
  refine Met.ofW (cc := cX9_at) (maxL := 5) (ret := (some .int)) (by decide) rfl ?_
  intro p e s m args below meth c s₁ B hml hv
  obtain ⟨rfl, hsz, hP, hK, hD0, hN⟩ := hv
  have hx := B.exec
  have hb := B.bytes
  have hr := B.returns
  have hts := atoms_spec (ws := wsX9_at) B.pre
  have hown : s.vm.findClass RX9 = some m.cls := findClass_of_methodNamed B.named
  have hlocks := B.notSynchronized
  subst hsz
  have hin9 : ∀ w ∈ u_ws RX9 TX9 47, w ∈ wsX9_at := by decide +kernel
  have hD := hD0.self (sz := s.heap.size)
  generalize hAe : va_A [(h0, .inr (9, [.int 0, .ref m1, .int 0, .int 0, .int 0, .ref m5, .ref m6, .ref m7, .int 0, .int 0, .int 0, .int 0, .int 0, .int 0, .long 0, .ref m15, .ref m16, .ref m17, .ref m18, .ref m19, .ref m20, .int 0, .ref m22, .ref m23, .ref m24, .ref m25, .ref m26, .ref m27, .ref m28, .ref m29, .ref m30, .ref m31, .ref m32, .ref m33, .ref m34, .int 0, .int 0, .ref m37, .ref m38, .ref m39, .ref m40, .ref m41, .ref m42, .ref m43, .ref m44, .ref m45, .ref m46])), (m18, .inl (k_fodder, 12, .inl (fun _ => 0)))] s.heap.size = A at hD ⊢
  have hA : ∀ q : Nat, s.heap.size ≤ q → A q := fun q h => by rw [← hAe]; exact Or.inr h
  have hS : va_S A s.heap s.heap [] := va_S.rf
  have hP : va_P (dC, dI) vwCl [(h0, .inr (9, [.int 0, .ref m1, .int 0, .int 0, .int 0, .ref m5, .ref m6, .ref m7, .int 0, .int 0, .int 0, .int 0, .int 0, .int 0, .long 0, .ref m15, .ref m16, .ref m17, .ref m18, .ref m19, .ref m20, .int 0, .ref m22, .ref m23, .ref m24, .ref m25, .ref m26, .ref m27, .ref m28, .ref m29, .ref m30, .ref m31, .ref m32, .ref m33, .ref m34, .int 0, .int 0, .ref m37, .ref m38, .ref m39, .ref m40, .ref m41, .ref m42, .ref m43, .ref m44, .ref m45, .ref m46])), (m18, .inl (k_fodder, 12, .inl (fun _ => 0)))] s.heap := hP
  have hl := lv_entry ([.ref h0, .int p0, .int p1]) (n := 5) (Nat.le_of_ble_eq_true rfl)
  rw [lg_entry_eq]
  generalize (lg_sl ([.ref h0, .int p0, .int p1]) ++ List.replicate (5 - (lg_sl ([.ref h0, .int p0, .int p1])).length) Slot.unset).toArray = ls at hl ⊢
  have hl : lv_has ls 5 [(0, .ref h0), (1, .int p0), (2, .int p1)] := hl
  refine lv_aload_n hx hb dX9_at_0 rfl (lv_at hl 0 rfl) ?_
  refine lv_iconst (v := 0) hx hb dX9_at_1 (by decide) ?_
  refine va_put (D := (dC, dI)) (ci := 9) (v := .int 0) (ty := (tyX9 0)) (C := RX9) (T := TX9) (N := 47) hx hb hts hin9 tyX9 tyX9_ok nmX9 hown hK hP hD hS 0 rfl rfl 0 (by decide) (hts (.fieldLink RX9 111 "YamRidersModel" "thrown" "I") (by decide +kernel)) (fun _ h9 => h9) rfl (by decide +kernel) rfl rfl (Nat.le_of_ble_eq_true rfl) dX9_at_2 (fun H locs hP hD hS => ?_)
  have hP : va_P (dC, dI) vwCl [(h0, .inr (9, [.int 0, .ref m1, .int 0, .int 0, .int 0, .ref m5, .ref m6, .ref m7, .int 0, .int 0, .int 0, .int 0, .int 0, .int 0, .long 0, .ref m15, .ref m16, .ref m17, .ref m18, .ref m19, .ref m20, .int 0, .ref m22, .ref m23, .ref m24, .ref m25, .ref m26, .ref m27, .ref m28, .ref m29, .ref m30, .ref m31, .ref m32, .ref m33, .ref m34, .int 0, .int 0, .ref m37, .ref m38, .ref m39, .ref m40, .ref m41, .ref m42, .ref m43, .ref m44, .ref m45, .ref m46])), (m18, .inl (k_fodder, 12, .inl (fun _ => 0)))] H := hP
  have hD : va_D A [(h0, .inr (9, [.int 0, .ref m1, .int 0, .int 0, .int 0, .ref m5, .ref m6, .ref m7, .int 0, .int 0, .int 0, .int 0, .int 0, .int 0, .long 0, .ref m15, .ref m16, .ref m17, .ref m18, .ref m19, .ref m20, .int 0, .ref m22, .ref m23, .ref m24, .ref m25, .ref m26, .ref m27, .ref m28, .ref m29, .ref m30, .ref m31, .ref m32, .ref m33, .ref m34, .int 0, .int 0, .ref m37, .ref m38, .ref m39, .ref m40, .ref m41, .ref m42, .ref m43, .ref m44, .ref m45, .ref m46])), (m18, .inl (k_fodder, 12, .inl (fun _ => 0)))] := hD
  refine lv_iload_n hx hb dX9_at_5 rfl (lv_at hl 1 rfl) ?_
  have hPc := hP.sub (ws' := []) [] rfl
  have hDc := hD.sub (ws' := []) [] (by decide) rfl
  have hKc := hK.sub (tys' := []) [] rfl
  refine cs_i (va_runS (As := [.int p0]) (rest := []) ⟨hx, hb, hml, hown, hts⟩ (c_X9_isStation l dC dI p0 H.size) (va_cwS 1 hts gX9_at_X9_isStation rfl rfl rfl (by decide +kernel) ⟨Nat.le_of_ble_eq_true rfl, Nat.le_of_ble_eq_true rfl⟩) ⟨c_blind, c_pre hPc hKc hDc hN⟩ rfl rfl hl.1 rfl (lv_room (Nat.le_of_ble_eq_true rfl)) dX9_at_6 ⟨Nat.le_of_ble_eq_true rfl, Nat.le_of_ble_eq_true rfl⟩) (fun r_1 hr_1 => ?_)
  subst hr_1
  refine lv_if_eq (tgt := 21) hx hb dX9_at_9 (by decide) (fun c_2 => ?_) (fun c_2 => ?_)
  · refine lv_iconst (v := (-1)) hx hb dX9_at_21 (by decide) ?_
    have hP9 := hP.sub (ws' := []) [] rfl
    have hD9 := hD.sub (ws' := []) [] (by decide) rfl
    have hK9 := hK.sub (tys' := []) [] rfl
    refine W.widen (k := 0) (n := 0) (Nat.le_of_ble_eq_true rfl) (Nat.le_of_ble_eq_true rfl) ?_
    exact W.iret (v := (-1)) hx hb hr (fun t9 ht hW => ⟨⟨_, (), rfl, (by rw [if_pos c_2]), by rw [ht]; exact hP9, va_K.moved hW.alike hK9, hD9⟩, hS.F ht⟩) hS.2.2 dX9_at_22
  · refine lv_iload_n hx hb dX9_at_12 rfl (lv_at hl 2 rfl) ?_
    refine lv_if_lt (tgt := 21) hx hb dX9_at_13 (by decide) (fun c_3 => ?_) (fun c_3 => ?_)
    · refine lv_iconst (v := (-1)) hx hb dX9_at_21 (by decide) ?_
      have hP9 := hP.sub (ws' := []) [] rfl
      have hD9 := hD.sub (ws' := []) [] (by decide) rfl
      have hK9 := hK.sub (tys' := []) [] rfl
      refine W.widen (k := 0) (n := 0) (Nat.le_of_ble_eq_true rfl) (Nat.le_of_ble_eq_true rfl) ?_
      exact W.iret (v := (-1)) hx hb hr (fun t9 ht hW => ⟨⟨_, (), rfl, (by rw [if_neg c_2, if_pos c_3]), by rw [ht]; exact hP9, va_K.moved hW.alike hK9, hD9⟩, hS.F ht⟩) hS.2.2 dX9_at_22
    · refine lv_iload_n hx hb dX9_at_16 rfl (lv_at hl 2 rfl) ?_
      refine lv_iconst (v := 2) hx hb dX9_at_17 (by decide) ?_
      refine lv_icmp_le (tgt := 23) hx hb dX9_at_18 (by decide) (fun c_4 => ?_) (fun c_4 => ?_)
      · refine lv_iload_n hx hb dX9_at_23 rfl (lv_at hl 2 rfl) ?_
        refine lv_if_ne (tgt := 34) hx hb dX9_at_24 (by decide) (fun c_5 => ?_) (fun c_5 => ?_)
        · refine lv_iload_n hx hb dX9_at_34 rfl (lv_at hl 2 rfl) ?_
          refine lv_iconst (v := 1) hx hb dX9_at_35 (by decide) ?_
          refine lv_icmp_ne (tgt := 45) hx hb dX9_at_36 (by decide) (fun c_6 => ?_) (fun c_6 => ?_)
          · refine lv_iconst (v := 0) hx hb dX9_at_45 (by decide) ?_
            refine lv_istore_n (lv' := [(3, .int 0), (0, .ref h0), (1, .int p0), (2, .int p1)]) hx hb dX9_at_46 rfl hl (by decide) rfl (fun ls hl => ?_)
            refine lv_iconst (v := 0) hx hb dX9_at_47 (by decide) ?_
            refine lv_istore (lv' := [(4, .int 0), (3, .int 0), (0, .ref h0), (1, .int p0), (2, .int p1)]) hx hb dX9_at_48 hl (by decide) rfl (fun ls hl => ?_)
            refine lv_iload hx hb dX9_at_50 (lv_at hl 0 rfl) ?_
            refine lv_aload_n hx hb dX9_at_52 rfl (lv_at hl 2 rfl) ?_
            refine va_get (D := (dC, dI)) (ci := 9) (v := .int 0) (C := RX9) (T := TX9) (N := 47) hx hb hts hin9 hown hK hP 0 rfl rfl 36 (by decide) (hts (.fieldLink RX9 208 "YamRidersModel" "riders" "I") (by decide +kernel)) (fun _ h9 => h9) rfl dX9_at_53 ?_
            refine lv_icmp_ge (tgt := 93) hx hb dX9_at_56 (by decide) (fun _ => ?_) (fun c_7 => by first | exact absurd c_7 (by decide) | exact absurd (by decide) c_7)
            refine lv_iload_n hx hb dX9_at_93 rfl (lv_at hl 1 rfl) ?_
            have hP9 := hP.sub (ws' := []) [] rfl
            have hD9 := hD.sub (ws' := []) [] (by decide) rfl
            have hK9 := hK.sub (tys' := []) [] rfl
            refine W.widen (k := 0) (n := 0) (Nat.le_of_ble_eq_true rfl) (Nat.le_of_ble_eq_true rfl) ?_
            exact W.iret (v := 0) hx hb hr (fun t9 ht hW => ⟨⟨_, (), rfl, (by rw [if_neg c_2, if_neg c_3, if_pos c_4, if_neg c_5, if_neg c_6]), by rw [ht]; exact hP9, va_K.moved hW.alike hK9, hD9⟩, hS.F ht⟩) hS.2.2 dX9_at_94
          · refine lv_aload_n hx hb dX9_at_39 rfl (lv_at hl 0 rfl) ?_
            refine lv_iload_n hx hb dX9_at_40 rfl (lv_at hl 1 rfl) ?_
            have hPc := hP.sub (ws' := [(h0, .inr (9, [.int 0, .ref m1, .int 0, .int 0, .int 0, .ref m5, .ref m6, .ref m7, .int 0, .int 0, .int 0, .int 0, .int 0, .int 0, .long 0, .ref m15, .ref m16, .ref m17, .ref m18, .ref m19, .ref m20, .int 0, .ref m22, .ref m23, .ref m24, .ref m25, .ref m26, .ref m27, .ref m28, .ref m29, .ref m30, .ref m31, .ref m32, .ref m33, .ref m34, .int 0, .int 0, .ref m37, .ref m38, .ref m39, .ref m40, .ref m41, .ref m42, .ref m43, .ref m44, .ref m45, .ref m46]))]) [0] rfl
            have hDc := hD.sub (ws' := [(h0, .inr (9, [.int 0, .ref m1, .int 0, .int 0, .int 0, .ref m5, .ref m6, .ref m7, .int 0, .int 0, .int 0, .int 0, .int 0, .int 0, .long 0, .ref m15, .ref m16, .ref m17, .ref m18, .ref m19, .ref m20, .int 0, .ref m22, .ref m23, .ref m24, .ref m25, .ref m26, .ref m27, .ref m28, .ref m29, .ref m30, .ref m31, .ref m32, .ref m33, .ref m34, .int 0, .int 0, .ref m37, .ref m38, .ref m39, .ref m40, .ref m41, .ref m42, .ref m43, .ref m44, .ref m45, .ref m46]))]) [0] (by decide) rfl
            have hKc := hK.sub (tys' := []) [] rfl
            refine cs_i (va_runV (As := [.int p0]) (rest := []) ⟨hx, hb, hml, hown, hts⟩ (c_X9_horsesAt l dC dI h0 m1 m5 m6 m7 m15 m16 m17 m18 m19 m20 m22 m23 m24 m25 m26 m27 m28 m29 m30 m31 m32 m33 m34 m37 m38 m39 m40 m41 m42 m43 m44 m45 m46 p0 H.size) (cwV 1 hts gX9_at_X9_horsesAt rfl rfl rfl (by decide +kernel) ⟨Nat.le_of_ble_eq_true rfl, Nat.le_of_ble_eq_true rfl⟩) ⟨c_blind, va_recv hKc hPc (ci := 9) (q0 := 0) rfl rfl, c_pre hPc hKc hDc hN⟩ rfl rfl hl.1 rfl (lv_room (Nat.le_of_ble_eq_true rfl)) dX9_at_41 ⟨Nat.le_of_ble_eq_true rfl, Nat.le_of_ble_eq_true rfl⟩) (fun r_8 hr_8 => ?_)
            subst hr_8
            have hP9 := hP.sub (ws' := []) [] rfl
            have hD9 := hD.sub (ws' := []) [] (by decide) rfl
            have hK9 := hK.sub (tys' := []) [] rfl
            refine W.widen (k := 0) (n := 0) (Nat.le_of_ble_eq_true rfl) (Nat.le_of_ble_eq_true rfl) ?_
            exact W.iret (v := 0) hx hb hr (fun t9 ht hW => ⟨⟨_, (), rfl, (by rw [if_neg c_2, if_neg c_3, if_pos c_4, if_neg c_5, if_pos c_6]), by rw [ht]; exact hP9, va_K.moved hW.alike hK9, hD9⟩, hS.F ht⟩) hS.2.2 dX9_at_44
        · refine lv_aload_n hx hb dX9_at_27 rfl (lv_at hl 0 rfl) ?_
          refine va_get (D := (dC, dI)) (ci := 9) (v := .ref m18) (C := RX9) (T := TX9) (N := 47) hx hb hts hin9 hown hK hP 0 rfl rfl 18 (by decide) (hts (.fieldLink RX9 33 "YamRidersModel" "fodder" "[I") (by decide +kernel)) (fun _ h9 => h9) rfl dX9_at_28 ?_
          refine lv_iload_n hx hb dX9_at_31 rfl (lv_at hl 1 rfl) ?_
          refine va_iald hx hb hK hP 1 0 rfl rfl (st_in c_2) dX9_at_32 ?_
          refine lv_topi (fun v_9 ev_9 => ?_)
          obtain rfl : v_9 = 0 := ev_9.trans rfl
          have hP9 := hP.sub (ws' := []) [] rfl
          have hD9 := hD.sub (ws' := []) [] (by decide) rfl
          have hK9 := hK.sub (tys' := []) [] rfl
          refine W.widen (k := 0) (n := 0) (Nat.le_of_ble_eq_true rfl) (Nat.le_of_ble_eq_true rfl) ?_
          exact W.iret (v := 0) hx hb hr (fun t9 ht hW => ⟨⟨_, (), rfl, (by rw [if_neg c_2, if_neg c_3, if_pos c_4, if_pos c_5]), by rw [ht]; exact hP9, va_K.moved hW.alike hK9, hD9⟩, hS.F ht⟩) hS.2.2 dX9_at_33
      · refine lv_iconst (v := (-1)) hx hb dX9_at_21 (by decide) ?_
        have hP9 := hP.sub (ws' := []) [] rfl
        have hD9 := hD.sub (ws' := []) [] (by decide) rfl
        have hK9 := hK.sub (tys' := []) [] rfl
        refine W.widen (k := 0) (n := 0) (Nat.le_of_ble_eq_true rfl) (Nat.le_of_ble_eq_true rfl) ?_
        exact W.iret (v := (-1)) hx hb hr (fun t9 ht hW => ⟨⟨_, (), rfl, (by rw [if_neg c_2, if_neg c_3, if_neg c_4]), by rw [ht]; exact hP9, va_K.moved hW.alike hK9, hD9⟩, hS.F ht⟩) hS.2.2 dX9_at_22

set_option maxHeartbeats 4000000 in
set_option maxRecDepth 100000 in
theorem c_X9_count (l : Launch) (dC : Nat → ClassId) (dI : Nat → Nat → Nat) (h0 : Nat) (m1 : Nat) (m5 : Nat) (m6 : Nat) (m7 : Nat) (m15 : Nat) (m16 : Nat) (m17 : Nat) (m18 : Nat) (m19 : Nat) (m20 : Nat) (m22 : Nat) (m23 : Nat) (m24 : Nat) (m25 : Nat) (m26 : Nat) (m27 : Nat) (m28 : Nat) (m29 : Nat) (m30 : Nat) (m31 : Nat) (m32 : Nat) (m33 : Nat) (m34 : Nat) (m37 : Nat) (m38 : Nat) (m39 : Nat) (m40 : Nat) (m41 : Nat) (m42 : Nat) (m43 : Nat) (m44 : Nat) (m45 : Nat) (m46 : Nat) (p0 : Int32) (sz : Nat) : Met l yX9_count wsX9_count ({ frames := 0, cells := 0, slots := 0, locals := 0 }) (va_Pc [.ref h0, .int p0] (cP dC dI [(h0, .inr (9, [.int 0, .ref m1, .int 0, .int 0, .int 0, .ref m5, .ref m6, .ref m7, .int 0, .int 0, .int 0, .int 0, .int 0, .int 0, .long 0, .ref m15, .ref m16, .ref m17, .ref m18, .ref m19, .ref m20, .int 0, .ref m22, .ref m23, .ref m24, .ref m25, .ref m26, .ref m27, .ref m28, .ref m29, .ref m30, .ref m31, .ref m32, .ref m33, .ref m34, .int 0, .int 0, .ref m37, .ref m38, .ref m39, .ref m40, .ref m41, .ref m42, .ref m43, .ref m44, .ref m45, .ref m46]))] [] sz)) (va_Qi (fun (r : Int32) (_ : Unit) => r = (if p0 = 0 then 0 else (if p0 = 1 then 0 else (if p0 = 2 then 0 else (if p0 = 3 then 0 else (if p0 = 4 then 0 else (if p0 = 5 then 0 else (-1)))))))) (fun (_ : Unit) t9 => cQ dC dI [] [] (va_A [(h0, .inr (9, [.int 0, .ref m1, .int 0, .int 0, .int 0, .ref m5, .ref m6, .ref m7, .int 0, .int 0, .int 0, .int 0, .int 0, .int 0, .long 0, .ref m15, .ref m16, .ref m17, .ref m18, .ref m19, .ref m20, .int 0, .ref m22, .ref m23, .ref m24, .ref m25, .ref m26, .ref m27, .ref m28, .ref m29, .ref m30, .ref m31, .ref m32, .ref m33, .ref m34, .int 0, .int 0, .ref m37, .ref m38, .ref m39, .ref m40, .ref m41, .ref m42, .ref m43, .ref m44, .ref m45, .ref m46]))] sz) t9) (va_A [(h0, .inr (9, [.int 0, .ref m1, .int 0, .int 0, .int 0, .ref m5, .ref m6, .ref m7, .int 0, .int 0, .int 0, .int 0, .int 0, .int 0, .long 0, .ref m15, .ref m16, .ref m17, .ref m18, .ref m19, .ref m20, .int 0, .ref m22, .ref m23, .ref m24, .ref m25, .ref m26, .ref m27, .ref m28, .ref m29, .ref m30, .ref m31, .ref m32, .ref m33, .ref m34, .int 0, .int 0, .ref m37, .ref m38, .ref m39, .ref m40, .ref m41, .ref m42, .ref m43, .ref m44, .ref m45, .ref m46]))] sz)) 0 0 (va_A [(h0, .inr (9, [.int 0, .ref m1, .int 0, .int 0, .int 0, .ref m5, .ref m6, .ref m7, .int 0, .int 0, .int 0, .int 0, .int 0, .int 0, .long 0, .ref m15, .ref m16, .ref m17, .ref m18, .ref m19, .ref m20, .int 0, .ref m22, .ref m23, .ref m24, .ref m25, .ref m26, .ref m27, .ref m28, .ref m29, .ref m30, .ref m31, .ref m32, .ref m33, .ref m34, .int 0, .int 0, .ref m37, .ref m38, .ref m39, .ref m40, .ref m41, .ref m42, .ref m43, .ref m44, .ref m45, .ref m46]))] sz) := by
  refine Met.ofW (cc := cX9_count) (maxL := 4) (ret := (some .int)) (by decide) rfl ?_
  intro p e s m args below meth c s₁ B hml hv
  obtain ⟨rfl, hsz, hP, hK, hD0, hN⟩ := hv
  have hx := B.exec
  have hb := B.bytes
  have hr := B.returns
  have hts := atoms_spec (ws := wsX9_count) B.pre
  have hown : s.vm.findClass RX9 = some m.cls := findClass_of_methodNamed B.named
  have hlocks := B.notSynchronized
  subst hsz
  have hin9 : ∀ w ∈ u_ws RX9 TX9 47, w ∈ wsX9_count := by decide +kernel
  have hD := hD0.self (sz := s.heap.size)
  generalize hAe : va_A [(h0, .inr (9, [.int 0, .ref m1, .int 0, .int 0, .int 0, .ref m5, .ref m6, .ref m7, .int 0, .int 0, .int 0, .int 0, .int 0, .int 0, .long 0, .ref m15, .ref m16, .ref m17, .ref m18, .ref m19, .ref m20, .int 0, .ref m22, .ref m23, .ref m24, .ref m25, .ref m26, .ref m27, .ref m28, .ref m29, .ref m30, .ref m31, .ref m32, .ref m33, .ref m34, .int 0, .int 0, .ref m37, .ref m38, .ref m39, .ref m40, .ref m41, .ref m42, .ref m43, .ref m44, .ref m45, .ref m46]))] s.heap.size = A at hD ⊢
  have hA : ∀ q : Nat, s.heap.size ≤ q → A q := fun q h => by rw [← hAe]; exact Or.inr h
  have hS : va_S A s.heap s.heap [] := va_S.rf
  have hP : va_P (dC, dI) vwCl [(h0, .inr (9, [.int 0, .ref m1, .int 0, .int 0, .int 0, .ref m5, .ref m6, .ref m7, .int 0, .int 0, .int 0, .int 0, .int 0, .int 0, .long 0, .ref m15, .ref m16, .ref m17, .ref m18, .ref m19, .ref m20, .int 0, .ref m22, .ref m23, .ref m24, .ref m25, .ref m26, .ref m27, .ref m28, .ref m29, .ref m30, .ref m31, .ref m32, .ref m33, .ref m34, .int 0, .int 0, .ref m37, .ref m38, .ref m39, .ref m40, .ref m41, .ref m42, .ref m43, .ref m44, .ref m45, .ref m46]))] s.heap := hP
  have hl := lv_entry ([.ref h0, .int p0]) (n := 4) (Nat.le_of_ble_eq_true rfl)
  rw [lg_entry_eq]
  generalize (lg_sl ([.ref h0, .int p0]) ++ List.replicate (4 - (lg_sl ([.ref h0, .int p0])).length) Slot.unset).toArray = ls at hl ⊢
  have hl : lv_has ls 4 [(0, .ref h0), (1, .int p0)] := hl
  refine lv_aload_n hx hb dX9_count_0 rfl (lv_at hl 0 rfl) ?_
  refine lv_iconst (v := 0) hx hb dX9_count_1 (by decide) ?_
  refine va_put (D := (dC, dI)) (ci := 9) (v := .int 0) (ty := (tyX9 0)) (C := RX9) (T := TX9) (N := 47) hx hb hts hin9 tyX9 tyX9_ok nmX9 hown hK hP hD hS 0 rfl rfl 0 (by decide) (hts (.fieldLink RX9 111 "YamRidersModel" "thrown" "I") (by decide +kernel)) (fun _ h9 => h9) rfl (by decide +kernel) rfl rfl (Nat.le_of_ble_eq_true rfl) dX9_count_2 (fun H locs hP hD hS => ?_)
  have hP : va_P (dC, dI) vwCl [(h0, .inr (9, [.int 0, .ref m1, .int 0, .int 0, .int 0, .ref m5, .ref m6, .ref m7, .int 0, .int 0, .int 0, .int 0, .int 0, .int 0, .long 0, .ref m15, .ref m16, .ref m17, .ref m18, .ref m19, .ref m20, .int 0, .ref m22, .ref m23, .ref m24, .ref m25, .ref m26, .ref m27, .ref m28, .ref m29, .ref m30, .ref m31, .ref m32, .ref m33, .ref m34, .int 0, .int 0, .ref m37, .ref m38, .ref m39, .ref m40, .ref m41, .ref m42, .ref m43, .ref m44, .ref m45, .ref m46]))] H := hP
  have hD : va_D A [(h0, .inr (9, [.int 0, .ref m1, .int 0, .int 0, .int 0, .ref m5, .ref m6, .ref m7, .int 0, .int 0, .int 0, .int 0, .int 0, .int 0, .long 0, .ref m15, .ref m16, .ref m17, .ref m18, .ref m19, .ref m20, .int 0, .ref m22, .ref m23, .ref m24, .ref m25, .ref m26, .ref m27, .ref m28, .ref m29, .ref m30, .ref m31, .ref m32, .ref m33, .ref m34, .int 0, .int 0, .ref m37, .ref m38, .ref m39, .ref m40, .ref m41, .ref m42, .ref m43, .ref m44, .ref m45, .ref m46]))] := hD
  refine lv_iload_n hx hb dX9_count_5 rfl (lv_at hl 1 rfl) ?_
  by_cases c_1 : p0 = 0
  · refine lv_tableIn (tgt := 44) (off := 38) hx hb dX9_count_6 (by rw [c_1]; decide) (by rw [c_1]; decide) (by rw [c_1]; decide) (by decide) ?_
    refine lv_aload_n hx hb dX9_count_44 rfl (lv_at hl 0 rfl) ?_
    refine va_get (D := (dC, dI)) (ci := 9) (v := .int 0) (C := RX9) (T := TX9) (N := 47) hx hb hts hin9 hown hK hP 0 rfl rfl 13 (by decide) (hts (.fieldLink RX9 217 "YamRidersModel" "hour" "I") (by decide +kernel)) (fun _ h9 => h9) rfl dX9_count_45 ?_
    have hP9 := hP.sub (ws' := []) [] rfl
    have hD9 := hD.sub (ws' := []) [] (by decide) rfl
    have hK9 := hK.sub (tys' := []) [] rfl
    refine W.widen (k := 0) (n := 0) (Nat.le_of_ble_eq_true rfl) (Nat.le_of_ble_eq_true rfl) ?_
    exact W.iret (v := 0) hx hb hr (fun t9 ht hW => ⟨⟨_, (), rfl, (by rw [if_pos c_1]), by rw [ht]; exact hP9, va_K.moved hW.alike hK9, hD9⟩, hS.F ht⟩) hS.2.2 dX9_count_48
  by_cases c_2 : p0 = 1
  · refine lv_tableIn (tgt := 49) (off := 43) hx hb dX9_count_6 (by rw [c_2]; decide) (by rw [c_2]; decide) (by rw [c_2]; decide) (by decide) ?_
    refine lv_aload_n hx hb dX9_count_49 rfl (lv_at hl 0 rfl) ?_
    refine va_get (D := (dC, dI)) (ci := 9) (v := .int 0) (C := RX9) (T := TX9) (N := 47) hx hb hts hin9 hown hK hP 0 rfl rfl 21 (by decide) (hts (.fieldLink RX9 202 "YamRidersModel" "horses" "I") (by decide +kernel)) (fun _ h9 => h9) rfl dX9_count_50 ?_
    have hP9 := hP.sub (ws' := []) [] rfl
    have hD9 := hD.sub (ws' := []) [] (by decide) rfl
    have hK9 := hK.sub (tys' := []) [] rfl
    refine W.widen (k := 0) (n := 0) (Nat.le_of_ble_eq_true rfl) (Nat.le_of_ble_eq_true rfl) ?_
    exact W.iret (v := 0) hx hb hr (fun t9 ht hW => ⟨⟨_, (), rfl, (by rw [if_neg c_1, if_pos c_2]), by rw [ht]; exact hP9, va_K.moved hW.alike hK9, hD9⟩, hS.F ht⟩) hS.2.2 dX9_count_53
  by_cases c_3 : p0 = 2
  · refine lv_tableIn (tgt := 54) (off := 48) hx hb dX9_count_6 (by rw [c_3]; decide) (by rw [c_3]; decide) (by rw [c_3]; decide) (by decide) ?_
    refine lv_aload_n hx hb dX9_count_54 rfl (lv_at hl 0 rfl) ?_
    refine va_get (D := (dC, dI)) (ci := 9) (v := .int 0) (C := RX9) (T := TX9) (N := 47) hx hb hts hin9 hown hK hP 0 rfl rfl 35 (by decide) (hts (.fieldLink RX9 205 "YamRidersModel" "tablets" "I") (by decide +kernel)) (fun _ h9 => h9) rfl dX9_count_55 ?_
    have hP9 := hP.sub (ws' := []) [] rfl
    have hD9 := hD.sub (ws' := []) [] (by decide) rfl
    have hK9 := hK.sub (tys' := []) [] rfl
    refine W.widen (k := 0) (n := 0) (Nat.le_of_ble_eq_true rfl) (Nat.le_of_ble_eq_true rfl) ?_
    exact W.iret (v := 0) hx hb hr (fun t9 ht hW => ⟨⟨_, (), rfl, (by rw [if_neg c_1, if_neg c_2, if_pos c_3]), by rw [ht]; exact hP9, va_K.moved hW.alike hK9, hD9⟩, hS.F ht⟩) hS.2.2 dX9_count_58
  by_cases c_4 : p0 = 3
  · refine lv_tableIn (tgt := 59) (off := 53) hx hb dX9_count_6 (by rw [c_4]; decide) (by rw [c_4]; decide) (by rw [c_4]; decide) (by decide) ?_
    refine lv_aload_n hx hb dX9_count_59 rfl (lv_at hl 0 rfl) ?_
    refine va_get (D := (dC, dI)) (ci := 9) (v := .int 0) (C := RX9) (T := TX9) (N := 47) hx hb hts hin9 hown hK hP 0 rfl rfl 36 (by decide) (hts (.fieldLink RX9 208 "YamRidersModel" "riders" "I") (by decide +kernel)) (fun _ h9 => h9) rfl dX9_count_60 ?_
    have hP9 := hP.sub (ws' := []) [] rfl
    have hD9 := hD.sub (ws' := []) [] (by decide) rfl
    have hK9 := hK.sub (tys' := []) [] rfl
    refine W.widen (k := 0) (n := 0) (Nat.le_of_ble_eq_true rfl) (Nat.le_of_ble_eq_true rfl) ?_
    exact W.iret (v := 0) hx hb hr (fun t9 ht hW => ⟨⟨_, (), rfl, (by rw [if_neg c_1, if_neg c_2, if_neg c_3, if_pos c_4]), by rw [ht]; exact hP9, va_K.moved hW.alike hK9, hD9⟩, hS.F ht⟩) hS.2.2 dX9_count_63
  by_cases c_5 : p0 = 4
  · refine lv_tableIn (tgt := 64) (off := 58) hx hb dX9_count_6 (by rw [c_5]; decide) (by rw [c_5]; decide) (by rw [c_5]; decide) (by decide) ?_
    refine lv_iconst (v := 0) hx hb dX9_count_64 (by decide) ?_
    refine lv_istore_n (lv' := [(2, .int 0), (0, .ref h0), (1, .int p0)]) hx hb dX9_count_65 rfl hl (by decide) rfl (fun ls hl => ?_)
    refine lv_iconst (v := 0) hx hb dX9_count_66 (by decide) ?_
    refine lv_istore_n (lv' := [(3, .int 0), (2, .int 0), (0, .ref h0), (1, .int p0)]) hx hb dX9_count_67 rfl hl (by decide) rfl (fun ls hl => ?_)
    refine lv_iload_n hx hb dX9_count_68 rfl (lv_at hl 0 rfl) ?_
    refine lv_aload_n hx hb dX9_count_69 rfl (lv_at hl 2 rfl) ?_
    refine va_get (D := (dC, dI)) (ci := 9) (v := .int 0) (C := RX9) (T := TX9) (N := 47) hx hb hts hin9 hown hK hP 0 rfl rfl 36 (by decide) (hts (.fieldLink RX9 208 "YamRidersModel" "riders" "I") (by decide +kernel)) (fun _ h9 => h9) rfl dX9_count_70 ?_
    refine lv_icmp_ge (tgt := 98) hx hb dX9_count_73 (by decide) (fun _ => ?_) (fun c_6 => by first | exact absurd c_6 (by decide) | exact absurd (by decide) c_6)
    refine lv_iload_n hx hb dX9_count_98 rfl (lv_at hl 1 rfl) ?_
    have hP9 := hP.sub (ws' := []) [] rfl
    have hD9 := hD.sub (ws' := []) [] (by decide) rfl
    have hK9 := hK.sub (tys' := []) [] rfl
    refine W.widen (k := 0) (n := 0) (Nat.le_of_ble_eq_true rfl) (Nat.le_of_ble_eq_true rfl) ?_
    exact W.iret (v := 0) hx hb hr (fun t9 ht hW => ⟨⟨_, (), rfl, (by rw [if_neg c_1, if_neg c_2, if_neg c_3, if_neg c_4, if_pos c_5]), by rw [ht]; exact hP9, va_K.moved hW.alike hK9, hD9⟩, hS.F ht⟩) hS.2.2 dX9_count_99
  by_cases c_7 : p0 = 5
  · refine lv_tableIn (tgt := 100) (off := 94) hx hb dX9_count_6 (by rw [c_7]; decide) (by rw [c_7]; decide) (by rw [c_7]; decide) (by decide) ?_
    refine lv_aload_n hx hb dX9_count_100 rfl (lv_at hl 0 rfl) ?_
    refine va_get (D := (dC, dI)) (ci := 9) (v := .int 0) (C := RX9) (T := TX9) (N := 47) hx hb hts hin9 hown hK hP 0 rfl rfl 2 (by decide) (hts (.fieldLink RX9 115 "YamRidersModel" "length" "I") (by decide +kernel)) (fun _ h9 => h9) rfl dX9_count_101 ?_
    have hP9 := hP.sub (ws' := []) [] rfl
    have hD9 := hD.sub (ws' := []) [] (by decide) rfl
    have hK9 := hK.sub (tys' := []) [] rfl
    refine W.widen (k := 0) (n := 0) (Nat.le_of_ble_eq_true rfl) (Nat.le_of_ble_eq_true rfl) ?_
    exact W.iret (v := 0) hx hb hr (fun t9 ht hW => ⟨⟨_, (), rfl, (by rw [if_neg c_1, if_neg c_2, if_neg c_3, if_neg c_4, if_neg c_5, if_pos c_7]), by rw [ht]; exact hP9, va_K.moved hW.alike hK9, hD9⟩, hS.F ht⟩) hS.2.2 dX9_count_104
  refine lv_tableOut (tgt := 105) hx hb dX9_count_6 (sw_out0_5 c_1 c_2 c_3 c_4 c_5 c_7) (by decide) ?_
  refine lv_iconst (v := (-1)) hx hb dX9_count_105 (by decide) ?_
  have hP9 := hP.sub (ws' := []) [] rfl
  have hD9 := hD.sub (ws' := []) [] (by decide) rfl
  have hK9 := hK.sub (tys' := []) [] rfl
  refine W.widen (k := 0) (n := 0) (Nat.le_of_ble_eq_true rfl) (Nat.le_of_ble_eq_true rfl) ?_
  exact W.iret (v := (-1)) hx hb hr (fun t9 ht hW => ⟨⟨_, (), rfl, (by rw [if_neg c_1, if_neg c_2, if_neg c_3, if_neg c_4, if_neg c_5, if_neg c_7]), by rw [ht]; exact hP9, va_K.moved hW.alike hK9, hD9⟩, hS.F ht⟩) hS.2.2 dX9_count_106

set_option maxHeartbeats 4000000 in
set_option maxRecDepth 100000 in
theorem c_X9_throwsIf (l : Launch) (dC : Nat → ClassId) (dI : Nat → Nat → Nat) (h0 : Nat) (m1 : Nat) (m5 : Nat) (m6 : Nat) (m7 : Nat) (m15 : Nat) (m16 : Nat) (m17 : Nat) (m18 : Nat) (m19 : Nat) (m20 : Nat) (m22 : Nat) (m23 : Nat) (m24 : Nat) (m25 : Nat) (m26 : Nat) (m27 : Nat) (m28 : Nat) (m29 : Nat) (m30 : Nat) (m31 : Nat) (m32 : Nat) (m33 : Nat) (m34 : Nat) (m37 : Nat) (m38 : Nat) (m39 : Nat) (m40 : Nat) (m41 : Nat) (m42 : Nat) (m43 : Nat) (m44 : Nat) (m45 : Nat) (m46 : Nat) (sz : Nat) : Met l yX9_throwsIf wsX9_throwsIf ({ frames := 0, cells := 0, slots := 0, locals := 0 }) (va_Pc [.ref h0, .int 1] (cP dC dI [(h0, .inr (9, [.int 0, .ref m1, .int 0, .int 0, .int 0, .ref m5, .ref m6, .ref m7, .int 0, .int 0, .int 0, .int 0, .int 0, .int 0, .long 0, .ref m15, .ref m16, .ref m17, .ref m18, .ref m19, .ref m20, .int 0, .ref m22, .ref m23, .ref m24, .ref m25, .ref m26, .ref m27, .ref m28, .ref m29, .ref m30, .ref m31, .ref m32, .ref m33, .ref m34, .int 0, .int 0, .ref m37, .ref m38, .ref m39, .ref m40, .ref m41, .ref m42, .ref m43, .ref m44, .ref m45, .ref m46]))] [] sz)) (va_Qi (fun (r : Int32) (_ : Unit) => r = 1) (fun (_ : Unit) t9 => cQ dC dI [(h0, .inr (9, [.int 1, .ref m1, .int 0, .int 0, .int 0, .ref m5, .ref m6, .ref m7, .int 0, .int 0, .int 0, .int 0, .int 0, .int 0, .long 0, .ref m15, .ref m16, .ref m17, .ref m18, .ref m19, .ref m20, .int 0, .ref m22, .ref m23, .ref m24, .ref m25, .ref m26, .ref m27, .ref m28, .ref m29, .ref m30, .ref m31, .ref m32, .ref m33, .ref m34, .int 0, .int 0, .ref m37, .ref m38, .ref m39, .ref m40, .ref m41, .ref m42, .ref m43, .ref m44, .ref m45, .ref m46]))] [] (va_A [(h0, .inr (9, [.int 0, .ref m1, .int 0, .int 0, .int 0, .ref m5, .ref m6, .ref m7, .int 0, .int 0, .int 0, .int 0, .int 0, .int 0, .long 0, .ref m15, .ref m16, .ref m17, .ref m18, .ref m19, .ref m20, .int 0, .ref m22, .ref m23, .ref m24, .ref m25, .ref m26, .ref m27, .ref m28, .ref m29, .ref m30, .ref m31, .ref m32, .ref m33, .ref m34, .int 0, .int 0, .ref m37, .ref m38, .ref m39, .ref m40, .ref m41, .ref m42, .ref m43, .ref m44, .ref m45, .ref m46]))] sz) t9) (va_A [(h0, .inr (9, [.int 0, .ref m1, .int 0, .int 0, .int 0, .ref m5, .ref m6, .ref m7, .int 0, .int 0, .int 0, .int 0, .int 0, .int 0, .long 0, .ref m15, .ref m16, .ref m17, .ref m18, .ref m19, .ref m20, .int 0, .ref m22, .ref m23, .ref m24, .ref m25, .ref m26, .ref m27, .ref m28, .ref m29, .ref m30, .ref m31, .ref m32, .ref m33, .ref m34, .int 0, .int 0, .ref m37, .ref m38, .ref m39, .ref m40, .ref m41, .ref m42, .ref m43, .ref m44, .ref m45, .ref m46]))] sz)) 0 0 (va_A [(h0, .inr (9, [.int 0, .ref m1, .int 0, .int 0, .int 0, .ref m5, .ref m6, .ref m7, .int 0, .int 0, .int 0, .int 0, .int 0, .int 0, .long 0, .ref m15, .ref m16, .ref m17, .ref m18, .ref m19, .ref m20, .int 0, .ref m22, .ref m23, .ref m24, .ref m25, .ref m26, .ref m27, .ref m28, .ref m29, .ref m30, .ref m31, .ref m32, .ref m33, .ref m34, .int 0, .int 0, .ref m37, .ref m38, .ref m39, .ref m40, .ref m41, .ref m42, .ref m43, .ref m44, .ref m45, .ref m46]))] sz) := by
  refine Met.ofW (cc := cX9_throwsIf) (maxL := 2) (ret := (some .boolean)) (by decide) rfl ?_
  intro p e s m args below meth c s₁ B hml hv
  obtain ⟨rfl, hsz, hP, hK, hD0, hN⟩ := hv
  have hx := B.exec
  have hb := B.bytes
  have hr := B.returns
  have hts := atoms_spec (ws := wsX9_throwsIf) B.pre
  have hown : s.vm.findClass RX9 = some m.cls := findClass_of_methodNamed B.named
  have hlocks := B.notSynchronized
  subst hsz
  have hin9 : ∀ w ∈ u_ws RX9 TX9 47, w ∈ wsX9_throwsIf := by decide +kernel
  have hD := hD0.self (sz := s.heap.size)
  generalize hAe : va_A [(h0, .inr (9, [.int 0, .ref m1, .int 0, .int 0, .int 0, .ref m5, .ref m6, .ref m7, .int 0, .int 0, .int 0, .int 0, .int 0, .int 0, .long 0, .ref m15, .ref m16, .ref m17, .ref m18, .ref m19, .ref m20, .int 0, .ref m22, .ref m23, .ref m24, .ref m25, .ref m26, .ref m27, .ref m28, .ref m29, .ref m30, .ref m31, .ref m32, .ref m33, .ref m34, .int 0, .int 0, .ref m37, .ref m38, .ref m39, .ref m40, .ref m41, .ref m42, .ref m43, .ref m44, .ref m45, .ref m46]))] s.heap.size = A at hD ⊢
  have hA : ∀ q : Nat, s.heap.size ≤ q → A q := fun q h => by rw [← hAe]; exact Or.inr h
  have hS : va_S A s.heap s.heap [] := va_S.rf
  have hP : va_P (dC, dI) vwCl [(h0, .inr (9, [.int 0, .ref m1, .int 0, .int 0, .int 0, .ref m5, .ref m6, .ref m7, .int 0, .int 0, .int 0, .int 0, .int 0, .int 0, .long 0, .ref m15, .ref m16, .ref m17, .ref m18, .ref m19, .ref m20, .int 0, .ref m22, .ref m23, .ref m24, .ref m25, .ref m26, .ref m27, .ref m28, .ref m29, .ref m30, .ref m31, .ref m32, .ref m33, .ref m34, .int 0, .int 0, .ref m37, .ref m38, .ref m39, .ref m40, .ref m41, .ref m42, .ref m43, .ref m44, .ref m45, .ref m46]))] s.heap := hP
  have hl := lv_entry ([.ref h0, .int 1]) (n := 2) (Nat.le_of_ble_eq_true rfl)
  rw [lg_entry_eq]
  generalize (lg_sl ([.ref h0, .int 1]) ++ List.replicate (2 - (lg_sl ([.ref h0, .int 1])).length) Slot.unset).toArray = ls at hl ⊢
  have hl : lv_has ls 2 [(0, .ref h0), (1, .int 1)] := hl
  refine lv_aload_n hx hb dX9_throwsIf_0 rfl (lv_at hl 0 rfl) ?_
  refine lv_iload_n hx hb dX9_throwsIf_1 rfl (lv_at hl 1 rfl) ?_
  refine lv_if_eq (tgt := 9) hx hb dX9_throwsIf_2 (by decide) (fun c_1 => by first | exact absurd c_1 (by decide) | exact absurd (by decide) c_1) (fun _ => ?_)
  refine lv_iconst (v := 1) hx hb dX9_throwsIf_5 (by decide) ?_
  refine lv_goto (tgt := 10) hx hb dX9_throwsIf_6 (by decide) ?_
  refine va_put (D := (dC, dI)) (ci := 9) (v := .int 1) (ty := (tyX9 0)) (C := RX9) (T := TX9) (N := 47) hx hb hts hin9 tyX9 tyX9_ok nmX9 hown hK hP hD hS 0 rfl rfl 0 (by decide) (hts (.fieldLink RX9 111 "YamRidersModel" "thrown" "I") (by decide +kernel)) (fun _ h9 => h9) rfl (by decide +kernel) rfl rfl (Nat.le_of_ble_eq_true rfl) dX9_throwsIf_10 (fun H locs hP hD hS => ?_)
  have hP : va_P (dC, dI) vwCl [(h0, .inr (9, [.int 1, .ref m1, .int 0, .int 0, .int 0, .ref m5, .ref m6, .ref m7, .int 0, .int 0, .int 0, .int 0, .int 0, .int 0, .long 0, .ref m15, .ref m16, .ref m17, .ref m18, .ref m19, .ref m20, .int 0, .ref m22, .ref m23, .ref m24, .ref m25, .ref m26, .ref m27, .ref m28, .ref m29, .ref m30, .ref m31, .ref m32, .ref m33, .ref m34, .int 0, .int 0, .ref m37, .ref m38, .ref m39, .ref m40, .ref m41, .ref m42, .ref m43, .ref m44, .ref m45, .ref m46]))] H := hP
  have hD : va_D A [(h0, .inr (9, [.int 1, .ref m1, .int 0, .int 0, .int 0, .ref m5, .ref m6, .ref m7, .int 0, .int 0, .int 0, .int 0, .int 0, .int 0, .long 0, .ref m15, .ref m16, .ref m17, .ref m18, .ref m19, .ref m20, .int 0, .ref m22, .ref m23, .ref m24, .ref m25, .ref m26, .ref m27, .ref m28, .ref m29, .ref m30, .ref m31, .ref m32, .ref m33, .ref m34, .int 0, .int 0, .ref m37, .ref m38, .ref m39, .ref m40, .ref m41, .ref m42, .ref m43, .ref m44, .ref m45, .ref m46]))] := hD
  refine lv_iload_n hx hb dX9_throwsIf_13 rfl (lv_at hl 1 rfl) ?_
  have hP9 := hP.sub (ws' := [(h0, .inr (9, [.int 1, .ref m1, .int 0, .int 0, .int 0, .ref m5, .ref m6, .ref m7, .int 0, .int 0, .int 0, .int 0, .int 0, .int 0, .long 0, .ref m15, .ref m16, .ref m17, .ref m18, .ref m19, .ref m20, .int 0, .ref m22, .ref m23, .ref m24, .ref m25, .ref m26, .ref m27, .ref m28, .ref m29, .ref m30, .ref m31, .ref m32, .ref m33, .ref m34, .int 0, .int 0, .ref m37, .ref m38, .ref m39, .ref m40, .ref m41, .ref m42, .ref m43, .ref m44, .ref m45, .ref m46]))]) [0] rfl
  have hD9 := hD.sub (ws' := [(h0, .inr (9, [.int 1, .ref m1, .int 0, .int 0, .int 0, .ref m5, .ref m6, .ref m7, .int 0, .int 0, .int 0, .int 0, .int 0, .int 0, .long 0, .ref m15, .ref m16, .ref m17, .ref m18, .ref m19, .ref m20, .int 0, .ref m22, .ref m23, .ref m24, .ref m25, .ref m26, .ref m27, .ref m28, .ref m29, .ref m30, .ref m31, .ref m32, .ref m33, .ref m34, .int 0, .int 0, .ref m37, .ref m38, .ref m39, .ref m40, .ref m41, .ref m42, .ref m43, .ref m44, .ref m45, .ref m46]))]) [0] (by decide) rfl
  have hK9 := hK.sub (tys' := []) [] rfl
  refine W.widen (k := 0) (n := 0) (Nat.le_of_ble_eq_true rfl) (Nat.le_of_ble_eq_true rfl) ?_
  exact W.zret (v := 1) hx hb hr rfl (fun t9 ht hW => ⟨⟨_, (), rfl, rfl, by rw [ht]; exact hP9, va_K.moved hW.alike hK9, hD9⟩, hS.F ht⟩) hS.2.2 dX9_throwsIf_14

set_option maxHeartbeats 4000000 in
set_option maxRecDepth 100000 in
theorem c_X9_rider (l : Launch) (dC : Nat → ClassId) (dI : Nat → Nat → Nat) (h0 : Nat) (m1 : Nat) (m5 : Nat) (m6 : Nat) (m7 : Nat) (m15 : Nat) (m16 : Nat) (m17 : Nat) (m18 : Nat) (m19 : Nat) (m20 : Nat) (m22 : Nat) (m23 : Nat) (m24 : Nat) (m25 : Nat) (m26 : Nat) (m27 : Nat) (m28 : Nat) (m29 : Nat) (m30 : Nat) (m31 : Nat) (m32 : Nat) (m33 : Nat) (m34 : Nat) (m37 : Nat) (m38 : Nat) (m39 : Nat) (m40 : Nat) (m41 : Nat) (m42 : Nat) (m43 : Nat) (m44 : Nat) (m45 : Nat) (m46 : Nat) (p0 : Int32) (p1 : Int32) (sz : Nat) : Met l yX9_rider wsX9_rider ({ frames := 1, cells := 0, slots := 0, locals := 21 }) (va_Pc [.ref h0, .int p0, .int p1] (cP dC dI [(h0, .inr (9, [.int 0, .ref m1, .int 0, .int 0, .int 0, .ref m5, .ref m6, .ref m7, .int 0, .int 0, .int 0, .int 0, .int 0, .int 0, .long 0, .ref m15, .ref m16, .ref m17, .ref m18, .ref m19, .ref m20, .int 0, .ref m22, .ref m23, .ref m24, .ref m25, .ref m26, .ref m27, .ref m28, .ref m29, .ref m30, .ref m31, .ref m32, .ref m33, .ref m34, .int 0, .int 0, .ref m37, .ref m38, .ref m39, .ref m40, .ref m41, .ref m42, .ref m43, .ref m44, .ref m45, .ref m46]))] [] sz)) (va_Qi (fun (r : Int32) (_ : Unit) => r = 0) (fun (_ : Unit) t9 => cQ dC dI [(h0, .inr (9, [.int 1, .ref m1, .int 0, .int 0, .int 0, .ref m5, .ref m6, .ref m7, .int 0, .int 0, .int 0, .int 0, .int 0, .int 0, .long 0, .ref m15, .ref m16, .ref m17, .ref m18, .ref m19, .ref m20, .int 0, .ref m22, .ref m23, .ref m24, .ref m25, .ref m26, .ref m27, .ref m28, .ref m29, .ref m30, .ref m31, .ref m32, .ref m33, .ref m34, .int 0, .int 0, .ref m37, .ref m38, .ref m39, .ref m40, .ref m41, .ref m42, .ref m43, .ref m44, .ref m45, .ref m46]))] [] (va_A [(h0, .inr (9, [.int 0, .ref m1, .int 0, .int 0, .int 0, .ref m5, .ref m6, .ref m7, .int 0, .int 0, .int 0, .int 0, .int 0, .int 0, .long 0, .ref m15, .ref m16, .ref m17, .ref m18, .ref m19, .ref m20, .int 0, .ref m22, .ref m23, .ref m24, .ref m25, .ref m26, .ref m27, .ref m28, .ref m29, .ref m30, .ref m31, .ref m32, .ref m33, .ref m34, .int 0, .int 0, .ref m37, .ref m38, .ref m39, .ref m40, .ref m41, .ref m42, .ref m43, .ref m44, .ref m45, .ref m46]))] sz) t9) (va_A [(h0, .inr (9, [.int 0, .ref m1, .int 0, .int 0, .int 0, .ref m5, .ref m6, .ref m7, .int 0, .int 0, .int 0, .int 0, .int 0, .int 0, .long 0, .ref m15, .ref m16, .ref m17, .ref m18, .ref m19, .ref m20, .int 0, .ref m22, .ref m23, .ref m24, .ref m25, .ref m26, .ref m27, .ref m28, .ref m29, .ref m30, .ref m31, .ref m32, .ref m33, .ref m34, .int 0, .int 0, .ref m37, .ref m38, .ref m39, .ref m40, .ref m41, .ref m42, .ref m43, .ref m44, .ref m45, .ref m46]))] sz)) 0 0 (va_A [(h0, .inr (9, [.int 0, .ref m1, .int 0, .int 0, .int 0, .ref m5, .ref m6, .ref m7, .int 0, .int 0, .int 0, .int 0, .int 0, .int 0, .long 0, .ref m15, .ref m16, .ref m17, .ref m18, .ref m19, .ref m20, .int 0, .ref m22, .ref m23, .ref m24, .ref m25, .ref m26, .ref m27, .ref m28, .ref m29, .ref m30, .ref m31, .ref m32, .ref m33, .ref m34, .int 0, .int 0, .ref m37, .ref m38, .ref m39, .ref m40, .ref m41, .ref m42, .ref m43, .ref m44, .ref m45, .ref m46]))] sz) := by
  refine Met.ofW (cc := cX9_rider) (maxL := 3) (ret := (some .int)) (by decide) rfl ?_
  intro p e s m args below meth c s₁ B hml hv
  obtain ⟨rfl, hsz, hP, hK, hD0, hN⟩ := hv
  have hx := B.exec
  have hb := B.bytes
  have hr := B.returns
  have hts := atoms_spec (ws := wsX9_rider) B.pre
  have hown : s.vm.findClass RX9 = some m.cls := findClass_of_methodNamed B.named
  have hlocks := B.notSynchronized
  subst hsz
  have hD := hD0.self (sz := s.heap.size)
  generalize hAe : va_A [(h0, .inr (9, [.int 0, .ref m1, .int 0, .int 0, .int 0, .ref m5, .ref m6, .ref m7, .int 0, .int 0, .int 0, .int 0, .int 0, .int 0, .long 0, .ref m15, .ref m16, .ref m17, .ref m18, .ref m19, .ref m20, .int 0, .ref m22, .ref m23, .ref m24, .ref m25, .ref m26, .ref m27, .ref m28, .ref m29, .ref m30, .ref m31, .ref m32, .ref m33, .ref m34, .int 0, .int 0, .ref m37, .ref m38, .ref m39, .ref m40, .ref m41, .ref m42, .ref m43, .ref m44, .ref m45, .ref m46]))] s.heap.size = A at hD ⊢
  have hA : ∀ q : Nat, s.heap.size ≤ q → A q := fun q h => by rw [← hAe]; exact Or.inr h
  have hS : va_S A s.heap s.heap [] := va_S.rf
  have hP : va_P (dC, dI) vwCl [(h0, .inr (9, [.int 0, .ref m1, .int 0, .int 0, .int 0, .ref m5, .ref m6, .ref m7, .int 0, .int 0, .int 0, .int 0, .int 0, .int 0, .long 0, .ref m15, .ref m16, .ref m17, .ref m18, .ref m19, .ref m20, .int 0, .ref m22, .ref m23, .ref m24, .ref m25, .ref m26, .ref m27, .ref m28, .ref m29, .ref m30, .ref m31, .ref m32, .ref m33, .ref m34, .int 0, .int 0, .ref m37, .ref m38, .ref m39, .ref m40, .ref m41, .ref m42, .ref m43, .ref m44, .ref m45, .ref m46]))] s.heap := hP
  have hl := lv_entry ([.ref h0, .int p0, .int p1]) (n := 3) (Nat.le_of_ble_eq_true rfl)
  rw [lg_entry_eq]
  generalize (lg_sl ([.ref h0, .int p0, .int p1]) ++ List.replicate (3 - (lg_sl ([.ref h0, .int p0, .int p1])).length) Slot.unset).toArray = ls at hl ⊢
  have hl : lv_has ls 3 [(0, .ref h0), (1, .int p0), (2, .int p1)] := hl
  refine lv_aload_n hx hb dX9_rider_0 rfl (lv_at hl 0 rfl) ?_
  refine lv_aload_n hx hb dX9_rider_1 rfl (lv_at hl 0 rfl) ?_
  refine lv_iload_n hx hb dX9_rider_2 rfl (lv_at hl 1 rfl) ?_
  have hPc := hP.sub (ws' := [(h0, .inr (9, [.int 0, .ref m1, .int 0, .int 0, .int 0, .ref m5, .ref m6, .ref m7, .int 0, .int 0, .int 0, .int 0, .int 0, .int 0, .long 0, .ref m15, .ref m16, .ref m17, .ref m18, .ref m19, .ref m20, .int 0, .ref m22, .ref m23, .ref m24, .ref m25, .ref m26, .ref m27, .ref m28, .ref m29, .ref m30, .ref m31, .ref m32, .ref m33, .ref m34, .int 0, .int 0, .ref m37, .ref m38, .ref m39, .ref m40, .ref m41, .ref m42, .ref m43, .ref m44, .ref m45, .ref m46]))]) [0] rfl
  have hDc := hD.sub (ws' := [(h0, .inr (9, [.int 0, .ref m1, .int 0, .int 0, .int 0, .ref m5, .ref m6, .ref m7, .int 0, .int 0, .int 0, .int 0, .int 0, .int 0, .long 0, .ref m15, .ref m16, .ref m17, .ref m18, .ref m19, .ref m20, .int 0, .ref m22, .ref m23, .ref m24, .ref m25, .ref m26, .ref m27, .ref m28, .ref m29, .ref m30, .ref m31, .ref m32, .ref m33, .ref m34, .int 0, .int 0, .ref m37, .ref m38, .ref m39, .ref m40, .ref m41, .ref m42, .ref m43, .ref m44, .ref m45, .ref m46]))]) [0] (by decide) rfl
  have hKc := hK.sub (tys' := []) [] rfl
  refine cs_i (va_runV (As := [.int p0]) (rest := [.ref h0]) ⟨hx, hb, hml, hown, hts⟩ (c_X9_isRider l dC dI h0 m1 m5 m6 m7 m15 m16 m17 m18 m19 m20 m22 m23 m24 m25 m26 m27 m28 m29 m30 m31 m32 m33 m34 m37 m38 m39 m40 m41 m42 m43 m44 m45 m46 p0 s.heap.size) (cwV 1 hts gX9_rider_X9_isRider rfl rfl rfl (by decide +kernel) ⟨Nat.le_of_ble_eq_true rfl, Nat.le_of_ble_eq_true rfl⟩) ⟨c_blind, va_recv hKc hPc (ci := 9) (q0 := 0) rfl rfl, c_pre hPc hKc hDc hN⟩ rfl rfl hl.1 rfl (lv_room (Nat.le_of_ble_eq_true rfl)) dX9_rider_3 ⟨Nat.le_of_ble_eq_true rfl, Nat.le_of_ble_eq_true rfl⟩) (fun r_1 hr_1 => ?_)
  subst hr_1
  refine lv_if_eq (tgt := 18) hx hb dX9_rider_6 (by decide) (fun _ => ?_) (fun c_2 => by first | exact absurd c_2 (by decide) | exact absurd (by decide) c_2)
  refine lv_iconst (v := 1) hx hb dX9_rider_18 (by decide) ?_
  refine lv_goto (tgt := 23) hx hb dX9_rider_19 (by decide) ?_
  have hPc := hP.sub (ws' := [(h0, .inr (9, [.int 0, .ref m1, .int 0, .int 0, .int 0, .ref m5, .ref m6, .ref m7, .int 0, .int 0, .int 0, .int 0, .int 0, .int 0, .long 0, .ref m15, .ref m16, .ref m17, .ref m18, .ref m19, .ref m20, .int 0, .ref m22, .ref m23, .ref m24, .ref m25, .ref m26, .ref m27, .ref m28, .ref m29, .ref m30, .ref m31, .ref m32, .ref m33, .ref m34, .int 0, .int 0, .ref m37, .ref m38, .ref m39, .ref m40, .ref m41, .ref m42, .ref m43, .ref m44, .ref m45, .ref m46]))]) [0] rfl
  have hDc := hD.sub (ws' := [(h0, .inr (9, [.int 0, .ref m1, .int 0, .int 0, .int 0, .ref m5, .ref m6, .ref m7, .int 0, .int 0, .int 0, .int 0, .int 0, .int 0, .long 0, .ref m15, .ref m16, .ref m17, .ref m18, .ref m19, .ref m20, .int 0, .ref m22, .ref m23, .ref m24, .ref m25, .ref m26, .ref m27, .ref m28, .ref m29, .ref m30, .ref m31, .ref m32, .ref m33, .ref m34, .int 0, .int 0, .ref m37, .ref m38, .ref m39, .ref m40, .ref m41, .ref m42, .ref m43, .ref m44, .ref m45, .ref m46]))]) [0] (by decide) rfl
  have hKc := hK.sub (tys' := []) [] rfl
  have hFc := va_free (wc := [(h0, .inr (9, [.int 0, .ref m1, .int 0, .int 0, .int 0, .ref m5, .ref m6, .ref m7, .int 0, .int 0, .int 0, .int 0, .int 0, .int 0, .long 0, .ref m15, .ref m16, .ref m17, .ref m18, .ref m19, .ref m20, .int 0, .ref m22, .ref m23, .ref m24, .ref m25, .ref m26, .ref m27, .ref m28, .ref m29, .ref m30, .ref m31, .ref m32, .ref m33, .ref m34, .int 0, .int 0, .ref m37, .ref m38, .ref m39, .ref m40, .ref m41, .ref m42, .ref m43, .ref m44, .ref m45, .ref m46]))]) hD hS hA [0] rfl
  refine va_calli (va_runV (As := [.int 1]) (rest := []) ⟨hx, hb, hml, hown, hts⟩ (c_X9_throwsIf l dC dI h0 m1 m5 m6 m7 m15 m16 m17 m18 m19 m20 m22 m23 m24 m25 m26 m27 m28 m29 m30 m31 m32 m33 m34 m37 m38 m39 m40 m41 m42 m43 m44 m45 m46 s.heap.size) (cwV 1 hts gX9_rider_X9_throwsIf rfl rfl rfl (by decide +kernel) ⟨Nat.le_of_ble_eq_true rfl, Nat.le_of_ble_eq_true rfl⟩) ⟨c_blind, va_recv hKc hPc (ci := 9) (q0 := 0) rfl rfl, c_pre hPc hKc hDc hN⟩ rfl rfl hl.1 rfl (lv_room (Nat.le_of_ble_eq_true rfl)) dX9_rider_23 ⟨Nat.le_of_ble_eq_true rfl, Nat.le_of_ble_eq_true rfl⟩) hS (fun q _ h => hFc q h) hFc (fun r_3 u9 t9 H1 locs ht hvm hw hB hz1 hk1 hS => ?_)
  obtain ⟨hP1, hK1, hD1⟩ := hB
  rw [ht] at hP1
  have hK1 := va_K.moved hvm.symm hK1
  obtain ⟨hP, hD⟩ := va_join (wr := []) (w1 := [(h0, .inr (9, [.int 1, .ref m1, .int 0, .int 0, .int 0, .ref m5, .ref m6, .ref m7, .int 0, .int 0, .int 0, .int 0, .int 0, .int 0, .long 0, .ref m15, .ref m16, .ref m17, .ref m18, .ref m19, .ref m20, .int 0, .ref m22, .ref m23, .ref m24, .ref m25, .ref m26, .ref m27, .ref m28, .ref m29, .ref m30, .ref m31, .ref m32, .ref m33, .ref m34, .int 0, .int 0, .ref m37, .ref m38, .ref m39, .ref m40, .ref m41, .ref m42, .ref m43, .ref m44, .ref m45, .ref m46]))]) hP hD [0] [] rfl rfl (by decide) (by decide) hk1 hFc hP1 hD1
  have hK := (hK.sub (tys' := []) [] rfl).app hK1
  generalize H1 = H at hP hS ⊢
  have hK : va_K (dC, dI) vwCl [] s := hK
  have hP : va_P (dC, dI) vwCl [(h0, .inr (9, [.int 1, .ref m1, .int 0, .int 0, .int 0, .ref m5, .ref m6, .ref m7, .int 0, .int 0, .int 0, .int 0, .int 0, .int 0, .long 0, .ref m15, .ref m16, .ref m17, .ref m18, .ref m19, .ref m20, .int 0, .ref m22, .ref m23, .ref m24, .ref m25, .ref m26, .ref m27, .ref m28, .ref m29, .ref m30, .ref m31, .ref m32, .ref m33, .ref m34, .int 0, .int 0, .ref m37, .ref m38, .ref m39, .ref m40, .ref m41, .ref m42, .ref m43, .ref m44, .ref m45, .ref m46]))] H := hP
  have hD : va_D A [(h0, .inr (9, [.int 1, .ref m1, .int 0, .int 0, .int 0, .ref m5, .ref m6, .ref m7, .int 0, .int 0, .int 0, .int 0, .int 0, .int 0, .long 0, .ref m15, .ref m16, .ref m17, .ref m18, .ref m19, .ref m20, .int 0, .ref m22, .ref m23, .ref m24, .ref m25, .ref m26, .ref m27, .ref m28, .ref m29, .ref m30, .ref m31, .ref m32, .ref m33, .ref m34, .int 0, .int 0, .ref m37, .ref m38, .ref m39, .ref m40, .ref m41, .ref m42, .ref m43, .ref m44, .ref m45, .ref m46]))] := hD
  try dsimp only at hw
  subst hw
  refine W.widen (k := 0) (n := 0) (Nat.le_of_ble_eq_true rfl) (Nat.le_of_ble_eq_true rfl) ?_
  refine lv_if_eq (tgt := 31) hx hb dX9_rider_26 (by decide) (fun c_4 => by first | exact absurd c_4 (by decide) | exact absurd (by decide) c_4) (fun _ => ?_)
  refine lv_iconst (v := 0) hx hb dX9_rider_29 (by decide) ?_
  have hP9 := hP.sub (ws' := [(h0, .inr (9, [.int 1, .ref m1, .int 0, .int 0, .int 0, .ref m5, .ref m6, .ref m7, .int 0, .int 0, .int 0, .int 0, .int 0, .int 0, .long 0, .ref m15, .ref m16, .ref m17, .ref m18, .ref m19, .ref m20, .int 0, .ref m22, .ref m23, .ref m24, .ref m25, .ref m26, .ref m27, .ref m28, .ref m29, .ref m30, .ref m31, .ref m32, .ref m33, .ref m34, .int 0, .int 0, .ref m37, .ref m38, .ref m39, .ref m40, .ref m41, .ref m42, .ref m43, .ref m44, .ref m45, .ref m46]))]) [0] rfl
  have hD9 := hD.sub (ws' := [(h0, .inr (9, [.int 1, .ref m1, .int 0, .int 0, .int 0, .ref m5, .ref m6, .ref m7, .int 0, .int 0, .int 0, .int 0, .int 0, .int 0, .long 0, .ref m15, .ref m16, .ref m17, .ref m18, .ref m19, .ref m20, .int 0, .ref m22, .ref m23, .ref m24, .ref m25, .ref m26, .ref m27, .ref m28, .ref m29, .ref m30, .ref m31, .ref m32, .ref m33, .ref m34, .int 0, .int 0, .ref m37, .ref m38, .ref m39, .ref m40, .ref m41, .ref m42, .ref m43, .ref m44, .ref m45, .ref m46]))]) [0] (by decide) rfl
  have hK9 := hK.sub (tys' := []) [] rfl
  refine W.widen (k := 0) (n := 0) (Nat.le_of_ble_eq_true rfl) (Nat.le_of_ble_eq_true rfl) ?_
  exact W.iret (v := 0) hx hb hr (fun t9 ht hW => ⟨⟨_, (), rfl, rfl, by rw [ht]; exact hP9, va_K.moved hW.alike hK9, hD9⟩, hS.F ht⟩) hS.2.2 dX9_rider_30

set_option maxHeartbeats 4000000 in
set_option maxRecDepth 100000 in
theorem c_X9_steed (l : Launch) (dC : Nat → ClassId) (dI : Nat → Nat → Nat) (h0 : Nat) (m1 : Nat) (m5 : Nat) (m6 : Nat) (m7 : Nat) (m15 : Nat) (m16 : Nat) (m17 : Nat) (m18 : Nat) (m19 : Nat) (m20 : Nat) (m22 : Nat) (m23 : Nat) (m24 : Nat) (m25 : Nat) (m26 : Nat) (m27 : Nat) (m28 : Nat) (m29 : Nat) (m30 : Nat) (m31 : Nat) (m32 : Nat) (m33 : Nat) (m34 : Nat) (m37 : Nat) (m38 : Nat) (m39 : Nat) (m40 : Nat) (m41 : Nat) (m42 : Nat) (m43 : Nat) (m44 : Nat) (m45 : Nat) (m46 : Nat) (p0 : Int32) (p1 : Int32) (sz : Nat) : Met l yX9_steed wsX9_steed ({ frames := 1, cells := 0, slots := 0, locals := 21 }) (va_Pc [.ref h0, .int p0, .int p1] (cP dC dI [(h0, .inr (9, [.int 0, .ref m1, .int 0, .int 0, .int 0, .ref m5, .ref m6, .ref m7, .int 0, .int 0, .int 0, .int 0, .int 0, .int 0, .long 0, .ref m15, .ref m16, .ref m17, .ref m18, .ref m19, .ref m20, .int 0, .ref m22, .ref m23, .ref m24, .ref m25, .ref m26, .ref m27, .ref m28, .ref m29, .ref m30, .ref m31, .ref m32, .ref m33, .ref m34, .int 0, .int 0, .ref m37, .ref m38, .ref m39, .ref m40, .ref m41, .ref m42, .ref m43, .ref m44, .ref m45, .ref m46]))] [] sz)) (va_Qi (fun (r : Int32) (_ : Unit) => r = 0) (fun (_ : Unit) t9 => cQ dC dI [(h0, .inr (9, [.int 1, .ref m1, .int 0, .int 0, .int 0, .ref m5, .ref m6, .ref m7, .int 0, .int 0, .int 0, .int 0, .int 0, .int 0, .long 0, .ref m15, .ref m16, .ref m17, .ref m18, .ref m19, .ref m20, .int 0, .ref m22, .ref m23, .ref m24, .ref m25, .ref m26, .ref m27, .ref m28, .ref m29, .ref m30, .ref m31, .ref m32, .ref m33, .ref m34, .int 0, .int 0, .ref m37, .ref m38, .ref m39, .ref m40, .ref m41, .ref m42, .ref m43, .ref m44, .ref m45, .ref m46]))] [] (va_A [(h0, .inr (9, [.int 0, .ref m1, .int 0, .int 0, .int 0, .ref m5, .ref m6, .ref m7, .int 0, .int 0, .int 0, .int 0, .int 0, .int 0, .long 0, .ref m15, .ref m16, .ref m17, .ref m18, .ref m19, .ref m20, .int 0, .ref m22, .ref m23, .ref m24, .ref m25, .ref m26, .ref m27, .ref m28, .ref m29, .ref m30, .ref m31, .ref m32, .ref m33, .ref m34, .int 0, .int 0, .ref m37, .ref m38, .ref m39, .ref m40, .ref m41, .ref m42, .ref m43, .ref m44, .ref m45, .ref m46]))] sz) t9) (va_A [(h0, .inr (9, [.int 0, .ref m1, .int 0, .int 0, .int 0, .ref m5, .ref m6, .ref m7, .int 0, .int 0, .int 0, .int 0, .int 0, .int 0, .long 0, .ref m15, .ref m16, .ref m17, .ref m18, .ref m19, .ref m20, .int 0, .ref m22, .ref m23, .ref m24, .ref m25, .ref m26, .ref m27, .ref m28, .ref m29, .ref m30, .ref m31, .ref m32, .ref m33, .ref m34, .int 0, .int 0, .ref m37, .ref m38, .ref m39, .ref m40, .ref m41, .ref m42, .ref m43, .ref m44, .ref m45, .ref m46]))] sz)) 0 0 (va_A [(h0, .inr (9, [.int 0, .ref m1, .int 0, .int 0, .int 0, .ref m5, .ref m6, .ref m7, .int 0, .int 0, .int 0, .int 0, .int 0, .int 0, .long 0, .ref m15, .ref m16, .ref m17, .ref m18, .ref m19, .ref m20, .int 0, .ref m22, .ref m23, .ref m24, .ref m25, .ref m26, .ref m27, .ref m28, .ref m29, .ref m30, .ref m31, .ref m32, .ref m33, .ref m34, .int 0, .int 0, .ref m37, .ref m38, .ref m39, .ref m40, .ref m41, .ref m42, .ref m43, .ref m44, .ref m45, .ref m46]))] sz) := by
  refine Met.ofW (cc := cX9_steed) (maxL := 3) (ret := (some .int)) (by decide) rfl ?_
  intro p e s m args below meth c s₁ B hml hv
  obtain ⟨rfl, hsz, hP, hK, hD0, hN⟩ := hv
  have hx := B.exec
  have hb := B.bytes
  have hr := B.returns
  have hts := atoms_spec (ws := wsX9_steed) B.pre
  have hown : s.vm.findClass RX9 = some m.cls := findClass_of_methodNamed B.named
  have hlocks := B.notSynchronized
  subst hsz
  have hin9 : ∀ w ∈ u_ws RX9 TX9 47, w ∈ wsX9_steed := by decide +kernel
  have hD := hD0.self (sz := s.heap.size)
  generalize hAe : va_A [(h0, .inr (9, [.int 0, .ref m1, .int 0, .int 0, .int 0, .ref m5, .ref m6, .ref m7, .int 0, .int 0, .int 0, .int 0, .int 0, .int 0, .long 0, .ref m15, .ref m16, .ref m17, .ref m18, .ref m19, .ref m20, .int 0, .ref m22, .ref m23, .ref m24, .ref m25, .ref m26, .ref m27, .ref m28, .ref m29, .ref m30, .ref m31, .ref m32, .ref m33, .ref m34, .int 0, .int 0, .ref m37, .ref m38, .ref m39, .ref m40, .ref m41, .ref m42, .ref m43, .ref m44, .ref m45, .ref m46]))] s.heap.size = A at hD ⊢
  have hA : ∀ q : Nat, s.heap.size ≤ q → A q := fun q h => by rw [← hAe]; exact Or.inr h
  have hS : va_S A s.heap s.heap [] := va_S.rf
  have hP : va_P (dC, dI) vwCl [(h0, .inr (9, [.int 0, .ref m1, .int 0, .int 0, .int 0, .ref m5, .ref m6, .ref m7, .int 0, .int 0, .int 0, .int 0, .int 0, .int 0, .long 0, .ref m15, .ref m16, .ref m17, .ref m18, .ref m19, .ref m20, .int 0, .ref m22, .ref m23, .ref m24, .ref m25, .ref m26, .ref m27, .ref m28, .ref m29, .ref m30, .ref m31, .ref m32, .ref m33, .ref m34, .int 0, .int 0, .ref m37, .ref m38, .ref m39, .ref m40, .ref m41, .ref m42, .ref m43, .ref m44, .ref m45, .ref m46]))] s.heap := hP
  have hl := lv_entry ([.ref h0, .int p0, .int p1]) (n := 3) (Nat.le_of_ble_eq_true rfl)
  rw [lg_entry_eq]
  generalize (lg_sl ([.ref h0, .int p0, .int p1]) ++ List.replicate (3 - (lg_sl ([.ref h0, .int p0, .int p1])).length) Slot.unset).toArray = ls at hl ⊢
  have hl : lv_has ls 3 [(0, .ref h0), (1, .int p0), (2, .int p1)] := hl
  refine lv_aload_n hx hb dX9_steed_0 rfl (lv_at hl 0 rfl) ?_
  refine lv_iload_n hx hb dX9_steed_1 rfl (lv_at hl 1 rfl) ?_
  refine lv_if_lt (tgt := 22) hx hb dX9_steed_2 (by decide) (fun c_1 => ?_) (fun c_1 => ?_)
  · refine lv_iconst (v := 1) hx hb dX9_steed_22 (by decide) ?_
    refine lv_goto (tgt := 27) hx hb dX9_steed_23 (by decide) ?_
    have hPc := hP.sub (ws' := [(h0, .inr (9, [.int 0, .ref m1, .int 0, .int 0, .int 0, .ref m5, .ref m6, .ref m7, .int 0, .int 0, .int 0, .int 0, .int 0, .int 0, .long 0, .ref m15, .ref m16, .ref m17, .ref m18, .ref m19, .ref m20, .int 0, .ref m22, .ref m23, .ref m24, .ref m25, .ref m26, .ref m27, .ref m28, .ref m29, .ref m30, .ref m31, .ref m32, .ref m33, .ref m34, .int 0, .int 0, .ref m37, .ref m38, .ref m39, .ref m40, .ref m41, .ref m42, .ref m43, .ref m44, .ref m45, .ref m46]))]) [0] rfl
    have hDc := hD.sub (ws' := [(h0, .inr (9, [.int 0, .ref m1, .int 0, .int 0, .int 0, .ref m5, .ref m6, .ref m7, .int 0, .int 0, .int 0, .int 0, .int 0, .int 0, .long 0, .ref m15, .ref m16, .ref m17, .ref m18, .ref m19, .ref m20, .int 0, .ref m22, .ref m23, .ref m24, .ref m25, .ref m26, .ref m27, .ref m28, .ref m29, .ref m30, .ref m31, .ref m32, .ref m33, .ref m34, .int 0, .int 0, .ref m37, .ref m38, .ref m39, .ref m40, .ref m41, .ref m42, .ref m43, .ref m44, .ref m45, .ref m46]))]) [0] (by decide) rfl
    have hKc := hK.sub (tys' := []) [] rfl
    have hFc := va_free (wc := [(h0, .inr (9, [.int 0, .ref m1, .int 0, .int 0, .int 0, .ref m5, .ref m6, .ref m7, .int 0, .int 0, .int 0, .int 0, .int 0, .int 0, .long 0, .ref m15, .ref m16, .ref m17, .ref m18, .ref m19, .ref m20, .int 0, .ref m22, .ref m23, .ref m24, .ref m25, .ref m26, .ref m27, .ref m28, .ref m29, .ref m30, .ref m31, .ref m32, .ref m33, .ref m34, .int 0, .int 0, .ref m37, .ref m38, .ref m39, .ref m40, .ref m41, .ref m42, .ref m43, .ref m44, .ref m45, .ref m46]))]) hD hS hA [0] rfl
    refine va_calli (va_runV (As := [.int 1]) (rest := []) ⟨hx, hb, hml, hown, hts⟩ (c_X9_throwsIf l dC dI h0 m1 m5 m6 m7 m15 m16 m17 m18 m19 m20 m22 m23 m24 m25 m26 m27 m28 m29 m30 m31 m32 m33 m34 m37 m38 m39 m40 m41 m42 m43 m44 m45 m46 s.heap.size) (cwV 1 hts gX9_steed_X9_throwsIf rfl rfl rfl (by decide +kernel) ⟨Nat.le_of_ble_eq_true rfl, Nat.le_of_ble_eq_true rfl⟩) ⟨c_blind, va_recv hKc hPc (ci := 9) (q0 := 0) rfl rfl, c_pre hPc hKc hDc hN⟩ rfl rfl hl.1 rfl (lv_room (Nat.le_of_ble_eq_true rfl)) dX9_steed_27 ⟨Nat.le_of_ble_eq_true rfl, Nat.le_of_ble_eq_true rfl⟩) hS (fun q _ h => hFc q h) hFc (fun r_2 u9 t9 H1 locs ht hvm hw hB hz1 hk1 hS => ?_)
    obtain ⟨hP1, hK1, hD1⟩ := hB
    rw [ht] at hP1
    have hK1 := va_K.moved hvm.symm hK1
    obtain ⟨hP, hD⟩ := va_join (wr := []) (w1 := [(h0, .inr (9, [.int 1, .ref m1, .int 0, .int 0, .int 0, .ref m5, .ref m6, .ref m7, .int 0, .int 0, .int 0, .int 0, .int 0, .int 0, .long 0, .ref m15, .ref m16, .ref m17, .ref m18, .ref m19, .ref m20, .int 0, .ref m22, .ref m23, .ref m24, .ref m25, .ref m26, .ref m27, .ref m28, .ref m29, .ref m30, .ref m31, .ref m32, .ref m33, .ref m34, .int 0, .int 0, .ref m37, .ref m38, .ref m39, .ref m40, .ref m41, .ref m42, .ref m43, .ref m44, .ref m45, .ref m46]))]) hP hD [0] [] rfl rfl (by decide) (by decide) hk1 hFc hP1 hD1
    have hK := (hK.sub (tys' := []) [] rfl).app hK1
    generalize H1 = H at hP hS ⊢
    have hK : va_K (dC, dI) vwCl [] s := hK
    have hP : va_P (dC, dI) vwCl [(h0, .inr (9, [.int 1, .ref m1, .int 0, .int 0, .int 0, .ref m5, .ref m6, .ref m7, .int 0, .int 0, .int 0, .int 0, .int 0, .int 0, .long 0, .ref m15, .ref m16, .ref m17, .ref m18, .ref m19, .ref m20, .int 0, .ref m22, .ref m23, .ref m24, .ref m25, .ref m26, .ref m27, .ref m28, .ref m29, .ref m30, .ref m31, .ref m32, .ref m33, .ref m34, .int 0, .int 0, .ref m37, .ref m38, .ref m39, .ref m40, .ref m41, .ref m42, .ref m43, .ref m44, .ref m45, .ref m46]))] H := hP
    have hD : va_D A [(h0, .inr (9, [.int 1, .ref m1, .int 0, .int 0, .int 0, .ref m5, .ref m6, .ref m7, .int 0, .int 0, .int 0, .int 0, .int 0, .int 0, .long 0, .ref m15, .ref m16, .ref m17, .ref m18, .ref m19, .ref m20, .int 0, .ref m22, .ref m23, .ref m24, .ref m25, .ref m26, .ref m27, .ref m28, .ref m29, .ref m30, .ref m31, .ref m32, .ref m33, .ref m34, .int 0, .int 0, .ref m37, .ref m38, .ref m39, .ref m40, .ref m41, .ref m42, .ref m43, .ref m44, .ref m45, .ref m46]))] := hD
    try dsimp only at hw
    subst hw
    refine W.widen (k := 0) (n := 0) (Nat.le_of_ble_eq_true rfl) (Nat.le_of_ble_eq_true rfl) ?_
    refine lv_if_eq (tgt := 35) hx hb dX9_steed_30 (by decide) (fun c_3 => by first | exact absurd c_3 (by decide) | exact absurd (by decide) c_3) (fun _ => ?_)
    refine lv_iconst (v := 0) hx hb dX9_steed_33 (by decide) ?_
    have hP9 := hP.sub (ws' := [(h0, .inr (9, [.int 1, .ref m1, .int 0, .int 0, .int 0, .ref m5, .ref m6, .ref m7, .int 0, .int 0, .int 0, .int 0, .int 0, .int 0, .long 0, .ref m15, .ref m16, .ref m17, .ref m18, .ref m19, .ref m20, .int 0, .ref m22, .ref m23, .ref m24, .ref m25, .ref m26, .ref m27, .ref m28, .ref m29, .ref m30, .ref m31, .ref m32, .ref m33, .ref m34, .int 0, .int 0, .ref m37, .ref m38, .ref m39, .ref m40, .ref m41, .ref m42, .ref m43, .ref m44, .ref m45, .ref m46]))]) [0] rfl
    have hD9 := hD.sub (ws' := [(h0, .inr (9, [.int 1, .ref m1, .int 0, .int 0, .int 0, .ref m5, .ref m6, .ref m7, .int 0, .int 0, .int 0, .int 0, .int 0, .int 0, .long 0, .ref m15, .ref m16, .ref m17, .ref m18, .ref m19, .ref m20, .int 0, .ref m22, .ref m23, .ref m24, .ref m25, .ref m26, .ref m27, .ref m28, .ref m29, .ref m30, .ref m31, .ref m32, .ref m33, .ref m34, .int 0, .int 0, .ref m37, .ref m38, .ref m39, .ref m40, .ref m41, .ref m42, .ref m43, .ref m44, .ref m45, .ref m46]))]) [0] (by decide) rfl
    have hK9 := hK.sub (tys' := []) [] rfl
    refine W.widen (k := 0) (n := 0) (Nat.le_of_ble_eq_true rfl) (Nat.le_of_ble_eq_true rfl) ?_
    exact W.iret (v := 0) hx hb hr (fun t9 ht hW => ⟨⟨_, (), rfl, rfl, by rw [ht]; exact hP9, va_K.moved hW.alike hK9, hD9⟩, hS.F ht⟩) hS.2.2 dX9_steed_34
  · refine lv_iload_n hx hb dX9_steed_5 rfl (lv_at hl 1 rfl) ?_
    refine lv_aload_n hx hb dX9_steed_6 rfl (lv_at hl 0 rfl) ?_
    refine va_get (D := (dC, dI)) (ci := 9) (v := .int 0) (C := RX9) (T := TX9) (N := 47) hx hb hts hin9 hown hK hP 0 rfl rfl 21 (by decide) (hts (.fieldLink RX9 202 "YamRidersModel" "horses" "I") (by decide +kernel)) (fun _ h9 => h9) rfl dX9_steed_7 ?_
    refine lv_icmp_ge (tgt := 22) hx hb dX9_steed_10 (by decide) (fun _ => ?_) (fun c_4 => by first | exact absurd c_4 (Int32.not_lt.mp c_1) | exact absurd (Int32.not_lt.mp c_1) c_4)
    refine lv_iconst (v := 1) hx hb dX9_steed_22 (by decide) ?_
    refine lv_goto (tgt := 27) hx hb dX9_steed_23 (by decide) ?_
    have hPc := hP.sub (ws' := [(h0, .inr (9, [.int 0, .ref m1, .int 0, .int 0, .int 0, .ref m5, .ref m6, .ref m7, .int 0, .int 0, .int 0, .int 0, .int 0, .int 0, .long 0, .ref m15, .ref m16, .ref m17, .ref m18, .ref m19, .ref m20, .int 0, .ref m22, .ref m23, .ref m24, .ref m25, .ref m26, .ref m27, .ref m28, .ref m29, .ref m30, .ref m31, .ref m32, .ref m33, .ref m34, .int 0, .int 0, .ref m37, .ref m38, .ref m39, .ref m40, .ref m41, .ref m42, .ref m43, .ref m44, .ref m45, .ref m46]))]) [0] rfl
    have hDc := hD.sub (ws' := [(h0, .inr (9, [.int 0, .ref m1, .int 0, .int 0, .int 0, .ref m5, .ref m6, .ref m7, .int 0, .int 0, .int 0, .int 0, .int 0, .int 0, .long 0, .ref m15, .ref m16, .ref m17, .ref m18, .ref m19, .ref m20, .int 0, .ref m22, .ref m23, .ref m24, .ref m25, .ref m26, .ref m27, .ref m28, .ref m29, .ref m30, .ref m31, .ref m32, .ref m33, .ref m34, .int 0, .int 0, .ref m37, .ref m38, .ref m39, .ref m40, .ref m41, .ref m42, .ref m43, .ref m44, .ref m45, .ref m46]))]) [0] (by decide) rfl
    have hKc := hK.sub (tys' := []) [] rfl
    have hFc := va_free (wc := [(h0, .inr (9, [.int 0, .ref m1, .int 0, .int 0, .int 0, .ref m5, .ref m6, .ref m7, .int 0, .int 0, .int 0, .int 0, .int 0, .int 0, .long 0, .ref m15, .ref m16, .ref m17, .ref m18, .ref m19, .ref m20, .int 0, .ref m22, .ref m23, .ref m24, .ref m25, .ref m26, .ref m27, .ref m28, .ref m29, .ref m30, .ref m31, .ref m32, .ref m33, .ref m34, .int 0, .int 0, .ref m37, .ref m38, .ref m39, .ref m40, .ref m41, .ref m42, .ref m43, .ref m44, .ref m45, .ref m46]))]) hD hS hA [0] rfl
    refine va_calli (va_runV (As := [.int 1]) (rest := []) ⟨hx, hb, hml, hown, hts⟩ (c_X9_throwsIf l dC dI h0 m1 m5 m6 m7 m15 m16 m17 m18 m19 m20 m22 m23 m24 m25 m26 m27 m28 m29 m30 m31 m32 m33 m34 m37 m38 m39 m40 m41 m42 m43 m44 m45 m46 s.heap.size) (cwV 1 hts gX9_steed_X9_throwsIf rfl rfl rfl (by decide +kernel) ⟨Nat.le_of_ble_eq_true rfl, Nat.le_of_ble_eq_true rfl⟩) ⟨c_blind, va_recv hKc hPc (ci := 9) (q0 := 0) rfl rfl, c_pre hPc hKc hDc hN⟩ rfl rfl hl.1 rfl (lv_room (Nat.le_of_ble_eq_true rfl)) dX9_steed_27 ⟨Nat.le_of_ble_eq_true rfl, Nat.le_of_ble_eq_true rfl⟩) hS (fun q _ h => hFc q h) hFc (fun r_5 u9 t9 H1 locs ht hvm hw hB hz1 hk1 hS => ?_)
    obtain ⟨hP1, hK1, hD1⟩ := hB
    rw [ht] at hP1
    have hK1 := va_K.moved hvm.symm hK1
    obtain ⟨hP, hD⟩ := va_join (wr := []) (w1 := [(h0, .inr (9, [.int 1, .ref m1, .int 0, .int 0, .int 0, .ref m5, .ref m6, .ref m7, .int 0, .int 0, .int 0, .int 0, .int 0, .int 0, .long 0, .ref m15, .ref m16, .ref m17, .ref m18, .ref m19, .ref m20, .int 0, .ref m22, .ref m23, .ref m24, .ref m25, .ref m26, .ref m27, .ref m28, .ref m29, .ref m30, .ref m31, .ref m32, .ref m33, .ref m34, .int 0, .int 0, .ref m37, .ref m38, .ref m39, .ref m40, .ref m41, .ref m42, .ref m43, .ref m44, .ref m45, .ref m46]))]) hP hD [0] [] rfl rfl (by decide) (by decide) hk1 hFc hP1 hD1
    have hK := (hK.sub (tys' := []) [] rfl).app hK1
    generalize H1 = H at hP hS ⊢
    have hK : va_K (dC, dI) vwCl [] s := hK
    have hP : va_P (dC, dI) vwCl [(h0, .inr (9, [.int 1, .ref m1, .int 0, .int 0, .int 0, .ref m5, .ref m6, .ref m7, .int 0, .int 0, .int 0, .int 0, .int 0, .int 0, .long 0, .ref m15, .ref m16, .ref m17, .ref m18, .ref m19, .ref m20, .int 0, .ref m22, .ref m23, .ref m24, .ref m25, .ref m26, .ref m27, .ref m28, .ref m29, .ref m30, .ref m31, .ref m32, .ref m33, .ref m34, .int 0, .int 0, .ref m37, .ref m38, .ref m39, .ref m40, .ref m41, .ref m42, .ref m43, .ref m44, .ref m45, .ref m46]))] H := hP
    have hD : va_D A [(h0, .inr (9, [.int 1, .ref m1, .int 0, .int 0, .int 0, .ref m5, .ref m6, .ref m7, .int 0, .int 0, .int 0, .int 0, .int 0, .int 0, .long 0, .ref m15, .ref m16, .ref m17, .ref m18, .ref m19, .ref m20, .int 0, .ref m22, .ref m23, .ref m24, .ref m25, .ref m26, .ref m27, .ref m28, .ref m29, .ref m30, .ref m31, .ref m32, .ref m33, .ref m34, .int 0, .int 0, .ref m37, .ref m38, .ref m39, .ref m40, .ref m41, .ref m42, .ref m43, .ref m44, .ref m45, .ref m46]))] := hD
    try dsimp only at hw
    subst hw
    refine W.widen (k := 0) (n := 0) (Nat.le_of_ble_eq_true rfl) (Nat.le_of_ble_eq_true rfl) ?_
    refine lv_if_eq (tgt := 35) hx hb dX9_steed_30 (by decide) (fun c_6 => by first | exact absurd c_6 (by decide) | exact absurd (by decide) c_6) (fun _ => ?_)
    refine lv_iconst (v := 0) hx hb dX9_steed_33 (by decide) ?_
    have hP9 := hP.sub (ws' := [(h0, .inr (9, [.int 1, .ref m1, .int 0, .int 0, .int 0, .ref m5, .ref m6, .ref m7, .int 0, .int 0, .int 0, .int 0, .int 0, .int 0, .long 0, .ref m15, .ref m16, .ref m17, .ref m18, .ref m19, .ref m20, .int 0, .ref m22, .ref m23, .ref m24, .ref m25, .ref m26, .ref m27, .ref m28, .ref m29, .ref m30, .ref m31, .ref m32, .ref m33, .ref m34, .int 0, .int 0, .ref m37, .ref m38, .ref m39, .ref m40, .ref m41, .ref m42, .ref m43, .ref m44, .ref m45, .ref m46]))]) [0] rfl
    have hD9 := hD.sub (ws' := [(h0, .inr (9, [.int 1, .ref m1, .int 0, .int 0, .int 0, .ref m5, .ref m6, .ref m7, .int 0, .int 0, .int 0, .int 0, .int 0, .int 0, .long 0, .ref m15, .ref m16, .ref m17, .ref m18, .ref m19, .ref m20, .int 0, .ref m22, .ref m23, .ref m24, .ref m25, .ref m26, .ref m27, .ref m28, .ref m29, .ref m30, .ref m31, .ref m32, .ref m33, .ref m34, .int 0, .int 0, .ref m37, .ref m38, .ref m39, .ref m40, .ref m41, .ref m42, .ref m43, .ref m44, .ref m45, .ref m46]))]) [0] (by decide) rfl
    have hK9 := hK.sub (tys' := []) [] rfl
    refine W.widen (k := 0) (n := 0) (Nat.le_of_ble_eq_true rfl) (Nat.le_of_ble_eq_true rfl) ?_
    exact W.iret (v := 0) hx hb hr (fun t9 ht hW => ⟨⟨_, (), rfl, rfl, by rw [ht]; exact hP9, va_K.moved hW.alike hK9, hD9⟩, hS.F ht⟩) hS.2.2 dX9_steed_34

set_option maxHeartbeats 4000000 in
set_option maxRecDepth 100000 in
theorem c_X9_thrown (l : Launch) (dC : Nat → ClassId) (dI : Nat → Nat → Nat) (h0 : Nat) (m1 : Nat) (m5 : Nat) (m6 : Nat) (m7 : Nat) (m15 : Nat) (m16 : Nat) (m17 : Nat) (m18 : Nat) (m19 : Nat) (m20 : Nat) (m22 : Nat) (m23 : Nat) (m24 : Nat) (m25 : Nat) (m26 : Nat) (m27 : Nat) (m28 : Nat) (m29 : Nat) (m30 : Nat) (m31 : Nat) (m32 : Nat) (m33 : Nat) (m34 : Nat) (m37 : Nat) (m38 : Nat) (m39 : Nat) (m40 : Nat) (m41 : Nat) (m42 : Nat) (m43 : Nat) (m44 : Nat) (m45 : Nat) (m46 : Nat) (sz : Nat) : Met l yX9_thrown wsX9_thrown ({ frames := 0, cells := 0, slots := 0, locals := 0 }) (va_Pc [.ref h0] (cP dC dI [(h0, .inr (9, [.int 1, .ref m1, .int 0, .int 0, .int 0, .ref m5, .ref m6, .ref m7, .int 0, .int 0, .int 0, .int 0, .int 0, .int 0, .long 0, .ref m15, .ref m16, .ref m17, .ref m18, .ref m19, .ref m20, .int 0, .ref m22, .ref m23, .ref m24, .ref m25, .ref m26, .ref m27, .ref m28, .ref m29, .ref m30, .ref m31, .ref m32, .ref m33, .ref m34, .int 0, .int 0, .ref m37, .ref m38, .ref m39, .ref m40, .ref m41, .ref m42, .ref m43, .ref m44, .ref m45, .ref m46]))] [] sz)) (vp_Si (fun r => r = 1)) 0 0 (fun _ => False) := by
  refine Met.ofW (cc := cX9_thrown) (maxL := 1) (ret := (some .int)) (by decide) rfl ?_
  intro p e s m args below meth c s₁ B hml hv
  obtain ⟨rfl, hsz, hP, hK, hD0, hN⟩ := hv
  have hx := B.exec
  have hb := B.bytes
  have hr := B.returns
  have hts := atoms_spec (ws := wsX9_thrown) B.pre
  have hown : s.vm.findClass RX9 = some m.cls := findClass_of_methodNamed B.named
  have hlocks := B.notSynchronized
  subst hsz
  have hin9 : ∀ w ∈ u_ws RX9 TX9 47, w ∈ wsX9_thrown := by decide +kernel
  have hD := hD0
  have hP : va_P (dC, dI) vwCl [(h0, .inr (9, [.int 1, .ref m1, .int 0, .int 0, .int 0, .ref m5, .ref m6, .ref m7, .int 0, .int 0, .int 0, .int 0, .int 0, .int 0, .long 0, .ref m15, .ref m16, .ref m17, .ref m18, .ref m19, .ref m20, .int 0, .ref m22, .ref m23, .ref m24, .ref m25, .ref m26, .ref m27, .ref m28, .ref m29, .ref m30, .ref m31, .ref m32, .ref m33, .ref m34, .int 0, .int 0, .ref m37, .ref m38, .ref m39, .ref m40, .ref m41, .ref m42, .ref m43, .ref m44, .ref m45, .ref m46]))] s.heap := hP
  have hl := lv_entry ([.ref h0]) (n := 1) (Nat.le_of_ble_eq_true rfl)
  rw [lg_entry_eq]
  generalize (lg_sl ([.ref h0]) ++ List.replicate (1 - (lg_sl ([.ref h0])).length) Slot.unset).toArray = ls at hl ⊢
  have hl : lv_has ls 1 [(0, .ref h0)] := hl
  refine lv_aload_n hx hb dX9_thrown_0 rfl (lv_at hl 0 rfl) ?_
  refine va_get (D := (dC, dI)) (ci := 9) (v := .int 1) (C := RX9) (T := TX9) (N := 47) hx hb hts hin9 hown hK hP 0 rfl rfl 0 (by decide) (hts (.fieldLink RX9 111 "YamRidersModel" "thrown" "I") (by decide +kernel)) (fun _ h9 => h9) rfl dX9_thrown_1 ?_
  exact W.iret (v := 1) hx hb hr (fun t9 ht hW => ⟨_, rfl, rfl, ht⟩) (fun q h => nomatch h) dX9_thrown_4

set_option maxHeartbeats 4000000 in
set_option maxRecDepth 100000 in
theorem c_X9_taken (l : Launch) (dC : Nat → ClassId) (dI : Nat → Nat → Nat) (h0 : Nat) (m1 : Nat) (m5 : Nat) (m6 : Nat) (m7 : Nat) (m15 : Nat) (m16 : Nat) (m17 : Nat) (m18 : Nat) (m19 : Nat) (m20 : Nat) (m22 : Nat) (m23 : Nat) (m24 : Nat) (m25 : Nat) (m26 : Nat) (m27 : Nat) (m28 : Nat) (m29 : Nat) (m30 : Nat) (m31 : Nat) (m32 : Nat) (m33 : Nat) (m34 : Nat) (m37 : Nat) (m38 : Nat) (m39 : Nat) (m40 : Nat) (m41 : Nat) (m42 : Nat) (m43 : Nat) (m44 : Nat) (m45 : Nat) (m46 : Nat) (sz : Nat) : Met l yX9_taken wsX9_taken ({ frames := 0, cells := 0, slots := 0, locals := 0 }) (va_Pc [.ref h0] (cP dC dI [(h0, .inr (9, [.int 0, .ref m1, .int 0, .int 0, .int 0, .ref m5, .ref m6, .ref m7, .int 0, .int 0, .int 0, .int 0, .int 0, .int 0, .long 0, .ref m15, .ref m16, .ref m17, .ref m18, .ref m19, .ref m20, .int 0, .ref m22, .ref m23, .ref m24, .ref m25, .ref m26, .ref m27, .ref m28, .ref m29, .ref m30, .ref m31, .ref m32, .ref m33, .ref m34, .int 0, .int 0, .ref m37, .ref m38, .ref m39, .ref m40, .ref m41, .ref m42, .ref m43, .ref m44, .ref m45, .ref m46]))] [] sz)) (va_Qv (fun (_ : Unit) => True) (fun (_ : Unit) t9 => cQ dC dI [(h0, .inr (9, [.int 0, .ref m1, .int 0, .int 0, .int 0, .ref m5, .ref m6, .ref m7, .int 0, .int 0, .int 0, .int 0, .int 0, .int 0, .long 0, .ref m15, .ref m16, .ref m17, .ref m18, .ref m19, .ref m20, .int 0, .ref m22, .ref m23, .ref m24, .ref m25, .ref m26, .ref m27, .ref m28, .ref m29, .ref m30, .ref m31, .ref m32, .ref m33, .ref m34, .int 0, .int 0, .ref m37, .ref m38, .ref m39, .ref m40, .ref m41, .ref m42, .ref m43, .ref m44, .ref m45, .ref m46]))] [] (va_A [(h0, .inr (9, [.int 0, .ref m1, .int 0, .int 0, .int 0, .ref m5, .ref m6, .ref m7, .int 0, .int 0, .int 0, .int 0, .int 0, .int 0, .long 0, .ref m15, .ref m16, .ref m17, .ref m18, .ref m19, .ref m20, .int 0, .ref m22, .ref m23, .ref m24, .ref m25, .ref m26, .ref m27, .ref m28, .ref m29, .ref m30, .ref m31, .ref m32, .ref m33, .ref m34, .int 0, .int 0, .ref m37, .ref m38, .ref m39, .ref m40, .ref m41, .ref m42, .ref m43, .ref m44, .ref m45, .ref m46]))] sz) t9) (va_A [(h0, .inr (9, [.int 0, .ref m1, .int 0, .int 0, .int 0, .ref m5, .ref m6, .ref m7, .int 0, .int 0, .int 0, .int 0, .int 0, .int 0, .long 0, .ref m15, .ref m16, .ref m17, .ref m18, .ref m19, .ref m20, .int 0, .ref m22, .ref m23, .ref m24, .ref m25, .ref m26, .ref m27, .ref m28, .ref m29, .ref m30, .ref m31, .ref m32, .ref m33, .ref m34, .int 0, .int 0, .ref m37, .ref m38, .ref m39, .ref m40, .ref m41, .ref m42, .ref m43, .ref m44, .ref m45, .ref m46]))] sz)) 0 0 (va_A [(h0, .inr (9, [.int 0, .ref m1, .int 0, .int 0, .int 0, .ref m5, .ref m6, .ref m7, .int 0, .int 0, .int 0, .int 0, .int 0, .int 0, .long 0, .ref m15, .ref m16, .ref m17, .ref m18, .ref m19, .ref m20, .int 0, .ref m22, .ref m23, .ref m24, .ref m25, .ref m26, .ref m27, .ref m28, .ref m29, .ref m30, .ref m31, .ref m32, .ref m33, .ref m34, .int 0, .int 0, .ref m37, .ref m38, .ref m39, .ref m40, .ref m41, .ref m42, .ref m43, .ref m44, .ref m45, .ref m46]))] sz) := by
  refine Met.ofW (cc := cX9_taken) (maxL := 1) (ret := none) (by decide) rfl ?_
  intro p e s m args below meth c s₁ B hml hv
  obtain ⟨rfl, hsz, hP, hK, hD0, hN⟩ := hv
  have hx := B.exec
  have hb := B.bytes
  have hr := B.returns
  have hts := atoms_spec (ws := wsX9_taken) B.pre
  have hown : s.vm.findClass RX9 = some m.cls := findClass_of_methodNamed B.named
  have hlocks := B.notSynchronized
  subst hsz
  have hin9 : ∀ w ∈ u_ws RX9 TX9 47, w ∈ wsX9_taken := by decide +kernel
  have hD := hD0.self (sz := s.heap.size)
  generalize hAe : va_A [(h0, .inr (9, [.int 0, .ref m1, .int 0, .int 0, .int 0, .ref m5, .ref m6, .ref m7, .int 0, .int 0, .int 0, .int 0, .int 0, .int 0, .long 0, .ref m15, .ref m16, .ref m17, .ref m18, .ref m19, .ref m20, .int 0, .ref m22, .ref m23, .ref m24, .ref m25, .ref m26, .ref m27, .ref m28, .ref m29, .ref m30, .ref m31, .ref m32, .ref m33, .ref m34, .int 0, .int 0, .ref m37, .ref m38, .ref m39, .ref m40, .ref m41, .ref m42, .ref m43, .ref m44, .ref m45, .ref m46]))] s.heap.size = A at hD ⊢
  have hA : ∀ q : Nat, s.heap.size ≤ q → A q := fun q h => by rw [← hAe]; exact Or.inr h
  have hS : va_S A s.heap s.heap [] := va_S.rf
  have hP : va_P (dC, dI) vwCl [(h0, .inr (9, [.int 0, .ref m1, .int 0, .int 0, .int 0, .ref m5, .ref m6, .ref m7, .int 0, .int 0, .int 0, .int 0, .int 0, .int 0, .long 0, .ref m15, .ref m16, .ref m17, .ref m18, .ref m19, .ref m20, .int 0, .ref m22, .ref m23, .ref m24, .ref m25, .ref m26, .ref m27, .ref m28, .ref m29, .ref m30, .ref m31, .ref m32, .ref m33, .ref m34, .int 0, .int 0, .ref m37, .ref m38, .ref m39, .ref m40, .ref m41, .ref m42, .ref m43, .ref m44, .ref m45, .ref m46]))] s.heap := hP
  have hl := lv_entry ([.ref h0]) (n := 1) (Nat.le_of_ble_eq_true rfl)
  rw [lg_entry_eq]
  generalize (lg_sl ([.ref h0]) ++ List.replicate (1 - (lg_sl ([.ref h0])).length) Slot.unset).toArray = ls at hl ⊢
  have hl : lv_has ls 1 [(0, .ref h0)] := hl
  refine lv_aload_n hx hb dX9_taken_0 rfl (lv_at hl 0 rfl) ?_
  refine lv_aload_n hx hb dX9_taken_1 rfl (lv_at hl 0 rfl) ?_
  refine va_get (D := (dC, dI)) (ci := 9) (v := .int 0) (C := RX9) (T := TX9) (N := 47) hx hb hts hin9 hown hK hP 0 rfl rfl 2 (by decide) (hts (.fieldLink RX9 115 "YamRidersModel" "length" "I") (by decide +kernel)) (fun _ h9 => h9) rfl dX9_taken_2 ?_
  refine va_put (D := (dC, dI)) (ci := 9) (v := .int 0) (ty := (tyX9 3)) (C := RX9) (T := TX9) (N := 47) hx hb hts hin9 tyX9 tyX9_ok nmX9 hown hK hP hD hS 0 rfl rfl 3 (by decide) (hts (.fieldLink RX9 122 "YamRidersModel" "size" "I") (by decide +kernel)) (fun _ h9 => h9) rfl (by decide +kernel) rfl rfl (Nat.le_of_ble_eq_true rfl) dX9_taken_5 (fun H locs hP hD hS => ?_)
  have hP : va_P (dC, dI) vwCl [(h0, .inr (9, [.int 0, .ref m1, .int 0, .int 0, .int 0, .ref m5, .ref m6, .ref m7, .int 0, .int 0, .int 0, .int 0, .int 0, .int 0, .long 0, .ref m15, .ref m16, .ref m17, .ref m18, .ref m19, .ref m20, .int 0, .ref m22, .ref m23, .ref m24, .ref m25, .ref m26, .ref m27, .ref m28, .ref m29, .ref m30, .ref m31, .ref m32, .ref m33, .ref m34, .int 0, .int 0, .ref m37, .ref m38, .ref m39, .ref m40, .ref m41, .ref m42, .ref m43, .ref m44, .ref m45, .ref m46]))] H := hP
  have hD : va_D A [(h0, .inr (9, [.int 0, .ref m1, .int 0, .int 0, .int 0, .ref m5, .ref m6, .ref m7, .int 0, .int 0, .int 0, .int 0, .int 0, .int 0, .long 0, .ref m15, .ref m16, .ref m17, .ref m18, .ref m19, .ref m20, .int 0, .ref m22, .ref m23, .ref m24, .ref m25, .ref m26, .ref m27, .ref m28, .ref m29, .ref m30, .ref m31, .ref m32, .ref m33, .ref m34, .int 0, .int 0, .ref m37, .ref m38, .ref m39, .ref m40, .ref m41, .ref m42, .ref m43, .ref m44, .ref m45, .ref m46]))] := hD
  refine lv_aload_n hx hb dX9_taken_8 rfl (lv_at hl 0 rfl) ?_
  refine lv_iconst (v := 0) hx hb dX9_taken_9 (by decide) ?_
  refine va_put (D := (dC, dI)) (ci := 9) (v := .int 0) (ty := (tyX9 2)) (C := RX9) (T := TX9) (N := 47) hx hb hts hin9 tyX9 tyX9_ok nmX9 hown hK hP hD hS 0 rfl rfl 2 (by decide) (hts (.fieldLink RX9 115 "YamRidersModel" "length" "I") (by decide +kernel)) (fun _ h9 => h9) rfl (by decide +kernel) rfl rfl (Nat.le_of_ble_eq_true rfl) dX9_taken_10 (fun H locs hP hD hS => ?_)
  have hP : va_P (dC, dI) vwCl [(h0, .inr (9, [.int 0, .ref m1, .int 0, .int 0, .int 0, .ref m5, .ref m6, .ref m7, .int 0, .int 0, .int 0, .int 0, .int 0, .int 0, .long 0, .ref m15, .ref m16, .ref m17, .ref m18, .ref m19, .ref m20, .int 0, .ref m22, .ref m23, .ref m24, .ref m25, .ref m26, .ref m27, .ref m28, .ref m29, .ref m30, .ref m31, .ref m32, .ref m33, .ref m34, .int 0, .int 0, .ref m37, .ref m38, .ref m39, .ref m40, .ref m41, .ref m42, .ref m43, .ref m44, .ref m45, .ref m46]))] H := hP
  have hD : va_D A [(h0, .inr (9, [.int 0, .ref m1, .int 0, .int 0, .int 0, .ref m5, .ref m6, .ref m7, .int 0, .int 0, .int 0, .int 0, .int 0, .int 0, .long 0, .ref m15, .ref m16, .ref m17, .ref m18, .ref m19, .ref m20, .int 0, .ref m22, .ref m23, .ref m24, .ref m25, .ref m26, .ref m27, .ref m28, .ref m29, .ref m30, .ref m31, .ref m32, .ref m33, .ref m34, .int 0, .int 0, .ref m37, .ref m38, .ref m39, .ref m40, .ref m41, .ref m42, .ref m43, .ref m44, .ref m45, .ref m46]))] := hD
  refine lv_aload_n hx hb dX9_taken_13 rfl (lv_at hl 0 rfl) ?_
  refine lv_iconst (v := 0) hx hb dX9_taken_14 (by decide) ?_
  refine va_put (D := (dC, dI)) (ci := 9) (v := .int 0) (ty := (tyX9 4)) (C := RX9) (T := TX9) (N := 47) hx hb hts hin9 tyX9 tyX9_ok nmX9 hown hK hP hD hS 0 rfl rfl 4 (by decide) (hts (.fieldLink RX9 125 "YamRidersModel" "p" "I") (by decide +kernel)) (fun _ h9 => h9) rfl (by decide +kernel) rfl rfl (Nat.le_of_ble_eq_true rfl) dX9_taken_15 (fun H locs hP hD hS => ?_)
  have hP : va_P (dC, dI) vwCl [(h0, .inr (9, [.int 0, .ref m1, .int 0, .int 0, .int 0, .ref m5, .ref m6, .ref m7, .int 0, .int 0, .int 0, .int 0, .int 0, .int 0, .long 0, .ref m15, .ref m16, .ref m17, .ref m18, .ref m19, .ref m20, .int 0, .ref m22, .ref m23, .ref m24, .ref m25, .ref m26, .ref m27, .ref m28, .ref m29, .ref m30, .ref m31, .ref m32, .ref m33, .ref m34, .int 0, .int 0, .ref m37, .ref m38, .ref m39, .ref m40, .ref m41, .ref m42, .ref m43, .ref m44, .ref m45, .ref m46]))] H := hP
  have hD : va_D A [(h0, .inr (9, [.int 0, .ref m1, .int 0, .int 0, .int 0, .ref m5, .ref m6, .ref m7, .int 0, .int 0, .int 0, .int 0, .int 0, .int 0, .long 0, .ref m15, .ref m16, .ref m17, .ref m18, .ref m19, .ref m20, .int 0, .ref m22, .ref m23, .ref m24, .ref m25, .ref m26, .ref m27, .ref m28, .ref m29, .ref m30, .ref m31, .ref m32, .ref m33, .ref m34, .int 0, .int 0, .ref m37, .ref m38, .ref m39, .ref m40, .ref m41, .ref m42, .ref m43, .ref m44, .ref m45, .ref m46]))] := hD
  have hP9 := hP.sub (ws' := [(h0, .inr (9, [.int 0, .ref m1, .int 0, .int 0, .int 0, .ref m5, .ref m6, .ref m7, .int 0, .int 0, .int 0, .int 0, .int 0, .int 0, .long 0, .ref m15, .ref m16, .ref m17, .ref m18, .ref m19, .ref m20, .int 0, .ref m22, .ref m23, .ref m24, .ref m25, .ref m26, .ref m27, .ref m28, .ref m29, .ref m30, .ref m31, .ref m32, .ref m33, .ref m34, .int 0, .int 0, .ref m37, .ref m38, .ref m39, .ref m40, .ref m41, .ref m42, .ref m43, .ref m44, .ref m45, .ref m46]))]) [0] rfl
  have hD9 := hD.sub (ws' := [(h0, .inr (9, [.int 0, .ref m1, .int 0, .int 0, .int 0, .ref m5, .ref m6, .ref m7, .int 0, .int 0, .int 0, .int 0, .int 0, .int 0, .long 0, .ref m15, .ref m16, .ref m17, .ref m18, .ref m19, .ref m20, .int 0, .ref m22, .ref m23, .ref m24, .ref m25, .ref m26, .ref m27, .ref m28, .ref m29, .ref m30, .ref m31, .ref m32, .ref m33, .ref m34, .int 0, .int 0, .ref m37, .ref m38, .ref m39, .ref m40, .ref m41, .ref m42, .ref m43, .ref m44, .ref m45, .ref m46]))]) [0] (by decide) rfl
  have hK9 := hK.sub (tys' := []) [] rfl
  refine W.widen (k := 0) (n := 0) (Nat.le_of_ble_eq_true rfl) (Nat.le_of_ble_eq_true rfl) ?_
  exact W.vret hx hb hr (fun t9 ht hW => ⟨⟨(), rfl, trivial, by rw [ht]; exact hP9, va_K.moved hW.alike hK9, hD9⟩, hS.F ht⟩) hS.2.2 dX9_taken_18

set_option maxHeartbeats 4000000 in
set_option maxRecDepth 100000 in
theorem c_X9_leading (l : Launch) (dC : Nat → ClassId) (dI : Nat → Nat → Nat) (h0 : Nat) (m1 : Nat) (m5 : Nat) (m6 : Nat) (m7 : Nat) (m15 : Nat) (m16 : Nat) (m17 : Nat) (m18 : Nat) (m19 : Nat) (m20 : Nat) (m22 : Nat) (m23 : Nat) (m24 : Nat) (m25 : Nat) (m26 : Nat) (m27 : Nat) (m28 : Nat) (m29 : Nat) (m30 : Nat) (m31 : Nat) (m32 : Nat) (m33 : Nat) (m34 : Nat) (m37 : Nat) (m38 : Nat) (m39 : Nat) (m40 : Nat) (m41 : Nat) (m42 : Nat) (m43 : Nat) (m44 : Nat) (m45 : Nat) (m46 : Nat) (sz : Nat) : Met l yX9_leading wsX9_leading ({ frames := 1, cells := 0, slots := 0, locals := 20 }) (va_Pc [.ref h0] (cP dC dI [(h0, .inr (9, [.int 0, .ref m1, .int 0, .int 0, .int 0, .ref m5, .ref m6, .ref m7, .int 0, .int 0, .int 0, .int 0, .int 0, .int 0, .long 0, .ref m15, .ref m16, .ref m17, .ref m18, .ref m19, .ref m20, .int 0, .ref m22, .ref m23, .ref m24, .ref m25, .ref m26, .ref m27, .ref m28, .ref m29, .ref m30, .ref m31, .ref m32, .ref m33, .ref m34, .int 0, .int 0, .ref m37, .ref m38, .ref m39, .ref m40, .ref m41, .ref m42, .ref m43, .ref m44, .ref m45, .ref m46]))] [] sz)) (va_Qi (fun (r : Int32) (_ : Unit) => r = (-1)) (fun (_ : Unit) t9 => cQ dC dI [] [] (va_A [(h0, .inr (9, [.int 0, .ref m1, .int 0, .int 0, .int 0, .ref m5, .ref m6, .ref m7, .int 0, .int 0, .int 0, .int 0, .int 0, .int 0, .long 0, .ref m15, .ref m16, .ref m17, .ref m18, .ref m19, .ref m20, .int 0, .ref m22, .ref m23, .ref m24, .ref m25, .ref m26, .ref m27, .ref m28, .ref m29, .ref m30, .ref m31, .ref m32, .ref m33, .ref m34, .int 0, .int 0, .ref m37, .ref m38, .ref m39, .ref m40, .ref m41, .ref m42, .ref m43, .ref m44, .ref m45, .ref m46]))] sz) t9) (va_A [(h0, .inr (9, [.int 0, .ref m1, .int 0, .int 0, .int 0, .ref m5, .ref m6, .ref m7, .int 0, .int 0, .int 0, .int 0, .int 0, .int 0, .long 0, .ref m15, .ref m16, .ref m17, .ref m18, .ref m19, .ref m20, .int 0, .ref m22, .ref m23, .ref m24, .ref m25, .ref m26, .ref m27, .ref m28, .ref m29, .ref m30, .ref m31, .ref m32, .ref m33, .ref m34, .int 0, .int 0, .ref m37, .ref m38, .ref m39, .ref m40, .ref m41, .ref m42, .ref m43, .ref m44, .ref m45, .ref m46]))] sz)) 0 0 (va_A [(h0, .inr (9, [.int 0, .ref m1, .int 0, .int 0, .int 0, .ref m5, .ref m6, .ref m7, .int 0, .int 0, .int 0, .int 0, .int 0, .int 0, .long 0, .ref m15, .ref m16, .ref m17, .ref m18, .ref m19, .ref m20, .int 0, .ref m22, .ref m23, .ref m24, .ref m25, .ref m26, .ref m27, .ref m28, .ref m29, .ref m30, .ref m31, .ref m32, .ref m33, .ref m34, .int 0, .int 0, .ref m37, .ref m38, .ref m39, .ref m40, .ref m41, .ref m42, .ref m43, .ref m44, .ref m45, .ref m46]))] sz) := by
  refine Met.ofW (cc := cX9_leading) (maxL := 5) (ret := (some .int)) (by decide) rfl ?_
  intro p e s m args below meth c s₁ B hml hv
  obtain ⟨rfl, hsz, hP, hK, hD0, hN⟩ := hv
  have hx := B.exec
  have hb := B.bytes
  have hr := B.returns
  have hts := atoms_spec (ws := wsX9_leading) B.pre
  have hown : s.vm.findClass RX9 = some m.cls := findClass_of_methodNamed B.named
  have hlocks := B.notSynchronized
  subst hsz
  have hin9 : ∀ w ∈ u_ws RX9 TX9 47, w ∈ wsX9_leading := by decide +kernel
  have hD := hD0.self (sz := s.heap.size)
  generalize hAe : va_A [(h0, .inr (9, [.int 0, .ref m1, .int 0, .int 0, .int 0, .ref m5, .ref m6, .ref m7, .int 0, .int 0, .int 0, .int 0, .int 0, .int 0, .long 0, .ref m15, .ref m16, .ref m17, .ref m18, .ref m19, .ref m20, .int 0, .ref m22, .ref m23, .ref m24, .ref m25, .ref m26, .ref m27, .ref m28, .ref m29, .ref m30, .ref m31, .ref m32, .ref m33, .ref m34, .int 0, .int 0, .ref m37, .ref m38, .ref m39, .ref m40, .ref m41, .ref m42, .ref m43, .ref m44, .ref m45, .ref m46]))] s.heap.size = A at hD ⊢
  have hA : ∀ q : Nat, s.heap.size ≤ q → A q := fun q h => by rw [← hAe]; exact Or.inr h
  have hS : va_S A s.heap s.heap [] := va_S.rf
  have hP : va_P (dC, dI) vwCl [(h0, .inr (9, [.int 0, .ref m1, .int 0, .int 0, .int 0, .ref m5, .ref m6, .ref m7, .int 0, .int 0, .int 0, .int 0, .int 0, .int 0, .long 0, .ref m15, .ref m16, .ref m17, .ref m18, .ref m19, .ref m20, .int 0, .ref m22, .ref m23, .ref m24, .ref m25, .ref m26, .ref m27, .ref m28, .ref m29, .ref m30, .ref m31, .ref m32, .ref m33, .ref m34, .int 0, .int 0, .ref m37, .ref m38, .ref m39, .ref m40, .ref m41, .ref m42, .ref m43, .ref m44, .ref m45, .ref m46]))] s.heap := hP
  have hl := lv_entry ([.ref h0]) (n := 5) (Nat.le_of_ble_eq_true rfl)
  rw [lg_entry_eq]
  generalize (lg_sl ([.ref h0]) ++ List.replicate (5 - (lg_sl ([.ref h0])).length) Slot.unset).toArray = ls at hl ⊢
  have hl : lv_has ls 5 [(0, .ref h0)] := hl
  refine lv_aload_n hx hb dX9_leading_0 rfl (lv_at hl 0 rfl) ?_
  refine lv_iconst (v := 0) hx hb dX9_leading_1 (by decide) ?_
  refine va_put (D := (dC, dI)) (ci := 9) (v := .int 0) (ty := (tyX9 0)) (C := RX9) (T := TX9) (N := 47) hx hb hts hin9 tyX9 tyX9_ok nmX9 hown hK hP hD hS 0 rfl rfl 0 (by decide) (hts (.fieldLink RX9 111 "YamRidersModel" "thrown" "I") (by decide +kernel)) (fun _ h9 => h9) rfl (by decide +kernel) rfl rfl (Nat.le_of_ble_eq_true rfl) dX9_leading_2 (fun H locs hP hD hS => ?_)
  have hP : va_P (dC, dI) vwCl [(h0, .inr (9, [.int 0, .ref m1, .int 0, .int 0, .int 0, .ref m5, .ref m6, .ref m7, .int 0, .int 0, .int 0, .int 0, .int 0, .int 0, .long 0, .ref m15, .ref m16, .ref m17, .ref m18, .ref m19, .ref m20, .int 0, .ref m22, .ref m23, .ref m24, .ref m25, .ref m26, .ref m27, .ref m28, .ref m29, .ref m30, .ref m31, .ref m32, .ref m33, .ref m34, .int 0, .int 0, .ref m37, .ref m38, .ref m39, .ref m40, .ref m41, .ref m42, .ref m43, .ref m44, .ref m45, .ref m46]))] H := hP
  have hD : va_D A [(h0, .inr (9, [.int 0, .ref m1, .int 0, .int 0, .int 0, .ref m5, .ref m6, .ref m7, .int 0, .int 0, .int 0, .int 0, .int 0, .int 0, .long 0, .ref m15, .ref m16, .ref m17, .ref m18, .ref m19, .ref m20, .int 0, .ref m22, .ref m23, .ref m24, .ref m25, .ref m26, .ref m27, .ref m28, .ref m29, .ref m30, .ref m31, .ref m32, .ref m33, .ref m34, .int 0, .int 0, .ref m37, .ref m38, .ref m39, .ref m40, .ref m41, .ref m42, .ref m43, .ref m44, .ref m45, .ref m46]))] := hD
  refine lv_aload_n hx hb dX9_leading_5 rfl (lv_at hl 0 rfl) ?_
  have hPc := hP.sub (ws' := [(h0, .inr (9, [.int 0, .ref m1, .int 0, .int 0, .int 0, .ref m5, .ref m6, .ref m7, .int 0, .int 0, .int 0, .int 0, .int 0, .int 0, .long 0, .ref m15, .ref m16, .ref m17, .ref m18, .ref m19, .ref m20, .int 0, .ref m22, .ref m23, .ref m24, .ref m25, .ref m26, .ref m27, .ref m28, .ref m29, .ref m30, .ref m31, .ref m32, .ref m33, .ref m34, .int 0, .int 0, .ref m37, .ref m38, .ref m39, .ref m40, .ref m41, .ref m42, .ref m43, .ref m44, .ref m45, .ref m46]))]) [0] rfl
  have hDc := hD.sub (ws' := [(h0, .inr (9, [.int 0, .ref m1, .int 0, .int 0, .int 0, .ref m5, .ref m6, .ref m7, .int 0, .int 0, .int 0, .int 0, .int 0, .int 0, .long 0, .ref m15, .ref m16, .ref m17, .ref m18, .ref m19, .ref m20, .int 0, .ref m22, .ref m23, .ref m24, .ref m25, .ref m26, .ref m27, .ref m28, .ref m29, .ref m30, .ref m31, .ref m32, .ref m33, .ref m34, .int 0, .int 0, .ref m37, .ref m38, .ref m39, .ref m40, .ref m41, .ref m42, .ref m43, .ref m44, .ref m45, .ref m46]))]) [0] (by decide) rfl
  have hKc := hK.sub (tys' := []) [] rfl
  have hFc := va_free (wc := [(h0, .inr (9, [.int 0, .ref m1, .int 0, .int 0, .int 0, .ref m5, .ref m6, .ref m7, .int 0, .int 0, .int 0, .int 0, .int 0, .int 0, .long 0, .ref m15, .ref m16, .ref m17, .ref m18, .ref m19, .ref m20, .int 0, .ref m22, .ref m23, .ref m24, .ref m25, .ref m26, .ref m27, .ref m28, .ref m29, .ref m30, .ref m31, .ref m32, .ref m33, .ref m34, .int 0, .int 0, .ref m37, .ref m38, .ref m39, .ref m40, .ref m41, .ref m42, .ref m43, .ref m44, .ref m45, .ref m46]))]) hD hS hA [0] rfl
  refine va_callv (va_runV (As := []) (rest := []) ⟨hx, hb, hml, hown, hts⟩ (c_X9_taken l dC dI h0 m1 m5 m6 m7 m15 m16 m17 m18 m19 m20 m22 m23 m24 m25 m26 m27 m28 m29 m30 m31 m32 m33 m34 m37 m38 m39 m40 m41 m42 m43 m44 m45 m46 H.size) (cwV 0 hts gX9_leading_X9_taken rfl rfl rfl (by decide +kernel) ⟨Nat.le_of_ble_eq_true rfl, Nat.le_of_ble_eq_true rfl⟩) ⟨c_blind, va_recv hKc hPc (ci := 9) (q0 := 0) rfl rfl, c_pre hPc hKc hDc hN⟩ rfl rfl hl.1 rfl (lv_room (Nat.le_of_ble_eq_true rfl)) dX9_leading_6 ⟨Nat.le_of_ble_eq_true rfl, Nat.le_of_ble_eq_true rfl⟩) hS (fun q _ h => hFc q h) hFc (fun u9 t9 H1 locs ht hvm hw hB hz1 hk1 hS => ?_)
  obtain ⟨hP1, hK1, hD1⟩ := hB
  rw [ht] at hP1
  have hK1 := va_K.moved hvm.symm hK1
  obtain ⟨hP, hD⟩ := va_join (wr := []) (w1 := [(h0, .inr (9, [.int 0, .ref m1, .int 0, .int 0, .int 0, .ref m5, .ref m6, .ref m7, .int 0, .int 0, .int 0, .int 0, .int 0, .int 0, .long 0, .ref m15, .ref m16, .ref m17, .ref m18, .ref m19, .ref m20, .int 0, .ref m22, .ref m23, .ref m24, .ref m25, .ref m26, .ref m27, .ref m28, .ref m29, .ref m30, .ref m31, .ref m32, .ref m33, .ref m34, .int 0, .int 0, .ref m37, .ref m38, .ref m39, .ref m40, .ref m41, .ref m42, .ref m43, .ref m44, .ref m45, .ref m46]))]) hP hD [0] [] rfl rfl (by decide) (by decide) hk1 hFc hP1 hD1
  have hK := (hK.sub (tys' := []) [] rfl).app hK1
  generalize H1 = H at hP hS ⊢
  have hK : va_K (dC, dI) vwCl [] s := hK
  have hP : va_P (dC, dI) vwCl [(h0, .inr (9, [.int 0, .ref m1, .int 0, .int 0, .int 0, .ref m5, .ref m6, .ref m7, .int 0, .int 0, .int 0, .int 0, .int 0, .int 0, .long 0, .ref m15, .ref m16, .ref m17, .ref m18, .ref m19, .ref m20, .int 0, .ref m22, .ref m23, .ref m24, .ref m25, .ref m26, .ref m27, .ref m28, .ref m29, .ref m30, .ref m31, .ref m32, .ref m33, .ref m34, .int 0, .int 0, .ref m37, .ref m38, .ref m39, .ref m40, .ref m41, .ref m42, .ref m43, .ref m44, .ref m45, .ref m46]))] H := hP
  have hD : va_D A [(h0, .inr (9, [.int 0, .ref m1, .int 0, .int 0, .int 0, .ref m5, .ref m6, .ref m7, .int 0, .int 0, .int 0, .int 0, .int 0, .int 0, .long 0, .ref m15, .ref m16, .ref m17, .ref m18, .ref m19, .ref m20, .int 0, .ref m22, .ref m23, .ref m24, .ref m25, .ref m26, .ref m27, .ref m28, .ref m29, .ref m30, .ref m31, .ref m32, .ref m33, .ref m34, .int 0, .int 0, .ref m37, .ref m38, .ref m39, .ref m40, .ref m41, .ref m42, .ref m43, .ref m44, .ref m45, .ref m46]))] := hD
  refine W.widen (k := 0) (n := 0) (Nat.le_of_ble_eq_true rfl) (Nat.le_of_ble_eq_true rfl) ?_
  refine lv_aload_n hx hb dX9_leading_9 rfl (lv_at hl 0 rfl) ?_
  refine va_get (D := (dC, dI)) (ci := 9) (v := .int 0) (C := RX9) (T := TX9) (N := 47) hx hb hts hin9 hown hK hP 0 rfl rfl 3 (by decide) (hts (.fieldLink RX9 122 "YamRidersModel" "size" "I") (by decide +kernel)) (fun _ h9 => h9) rfl dX9_leading_10 ?_
  refine lv_bipush (v := 12) hx hb dX9_leading_13 (by decide) ?_
  refine lv_icmp_eq (tgt := 20) hx hb dX9_leading_15 (by decide) (fun c_2 => by first | exact absurd c_2 (by decide) | exact absurd (by decide) c_2) (fun _ => ?_)
  refine lv_iconst (v := (-1)) hx hb dX9_leading_18 (by decide) ?_
  have hP9 := hP.sub (ws' := []) [] rfl
  have hD9 := hD.sub (ws' := []) [] (by decide) rfl
  have hK9 := hK.sub (tys' := []) [] rfl
  refine W.widen (k := 0) (n := 0) (Nat.le_of_ble_eq_true rfl) (Nat.le_of_ble_eq_true rfl) ?_
  exact W.iret (v := (-1)) hx hb hr (fun t9 ht hW => ⟨⟨_, (), rfl, rfl, by rw [ht]; exact hP9, va_K.moved hW.alike hK9, hD9⟩, hS.F ht⟩) hS.2.2 dX9_leading_19

set_option maxHeartbeats 4000000 in
set_option maxRecDepth 100000 in
theorem c_X9_first (l : Launch) (dC : Nat → ClassId) (dI : Nat → Nat → Nat) (h0 : Nat) (m1 : Nat) (m5 : Nat) (m6 : Nat) (m7 : Nat) (m15 : Nat) (m16 : Nat) (m17 : Nat) (m18 : Nat) (m19 : Nat) (m20 : Nat) (m22 : Nat) (m23 : Nat) (m24 : Nat) (m25 : Nat) (m26 : Nat) (m27 : Nat) (m28 : Nat) (m29 : Nat) (m30 : Nat) (m31 : Nat) (m32 : Nat) (m33 : Nat) (m34 : Nat) (m37 : Nat) (m38 : Nat) (m39 : Nat) (m40 : Nat) (m41 : Nat) (m42 : Nat) (m43 : Nat) (m44 : Nat) (m45 : Nat) (m46 : Nat) (sz : Nat) : Met l yX9_first wsX9_first ({ frames := 0, cells := 0, slots := 0, locals := 0 }) (va_Pc [.ref h0] (cP dC dI [(h0, .inr (9, [.int 0, .ref m1, .int 0, .int 0, .int 0, .ref m5, .ref m6, .ref m7, .int 0, .int 0, .int 0, .int 0, .int 0, .int 0, .long 0, .ref m15, .ref m16, .ref m17, .ref m18, .ref m19, .ref m20, .int 0, .ref m22, .ref m23, .ref m24, .ref m25, .ref m26, .ref m27, .ref m28, .ref m29, .ref m30, .ref m31, .ref m32, .ref m33, .ref m34, .int 0, .int 0, .ref m37, .ref m38, .ref m39, .ref m40, .ref m41, .ref m42, .ref m43, .ref m44, .ref m45, .ref m46]))] [] sz)) (vp_Si (fun r => r = (-1))) 0 0 (fun _ => False) := by
  refine Met.ofW (cc := cX9_first) (maxL := 3) (ret := (some .int)) (by decide) rfl ?_
  intro p e s m args below meth c s₁ B hml hv
  obtain ⟨rfl, hsz, hP, hK, hD0, hN⟩ := hv
  have hx := B.exec
  have hb := B.bytes
  have hr := B.returns
  have hts := atoms_spec (ws := wsX9_first) B.pre
  have hown : s.vm.findClass RX9 = some m.cls := findClass_of_methodNamed B.named
  have hlocks := B.notSynchronized
  subst hsz
  have hin9 : ∀ w ∈ u_ws RX9 TX9 47, w ∈ wsX9_first := by decide +kernel
  have hD := hD0
  have hP : va_P (dC, dI) vwCl [(h0, .inr (9, [.int 0, .ref m1, .int 0, .int 0, .int 0, .ref m5, .ref m6, .ref m7, .int 0, .int 0, .int 0, .int 0, .int 0, .int 0, .long 0, .ref m15, .ref m16, .ref m17, .ref m18, .ref m19, .ref m20, .int 0, .ref m22, .ref m23, .ref m24, .ref m25, .ref m26, .ref m27, .ref m28, .ref m29, .ref m30, .ref m31, .ref m32, .ref m33, .ref m34, .int 0, .int 0, .ref m37, .ref m38, .ref m39, .ref m40, .ref m41, .ref m42, .ref m43, .ref m44, .ref m45, .ref m46]))] s.heap := hP
  have hl := lv_entry ([.ref h0]) (n := 3) (Nat.le_of_ble_eq_true rfl)
  rw [lg_entry_eq]
  generalize (lg_sl ([.ref h0]) ++ List.replicate (3 - (lg_sl ([.ref h0])).length) Slot.unset).toArray = ls at hl ⊢
  have hl : lv_has ls 3 [(0, .ref h0)] := hl
  refine lv_iconst (v := (-1)) hx hb dX9_first_0 (by decide) ?_
  refine lv_istore_n (lv' := [(1, .int (-1)), (0, .ref h0)]) hx hb dX9_first_1 rfl hl (by decide) rfl (fun ls hl => ?_)
  refine lv_iconst (v := 0) hx hb dX9_first_2 (by decide) ?_
  refine lv_istore_n (lv' := [(2, .int 0), (1, .int (-1)), (0, .ref h0)]) hx hb dX9_first_3 rfl hl (by decide) rfl (fun ls hl => ?_)
  refine lv_iload_n hx hb dX9_first_4 rfl (lv_at hl 0 rfl) ?_
  refine lv_aload_n hx hb dX9_first_5 rfl (lv_at hl 2 rfl) ?_
  refine va_get (D := (dC, dI)) (ci := 9) (v := .int 0) (C := RX9) (T := TX9) (N := 47) hx hb hts hin9 hown hK hP 0 rfl rfl 36 (by decide) (hts (.fieldLink RX9 208 "YamRidersModel" "riders" "I") (by decide +kernel)) (fun _ h9 => h9) rfl dX9_first_6 ?_
  refine lv_icmp_ge (tgt := 101) hx hb dX9_first_9 (by decide) (fun _ => ?_) (fun c_1 => by first | exact absurd c_1 (by decide) | exact absurd (by decide) c_1)
  refine lv_iload_n hx hb dX9_first_101 rfl (lv_at hl 1 rfl) ?_
  exact W.iret (v := (-1)) hx hb hr (fun t9 ht hW => ⟨_, rfl, rfl, ht⟩) (fun q h => nomatch h) dX9_first_102

set_option maxHeartbeats 4000000 in
set_option maxRecDepth 100000 in
theorem c_X9_leaveAll (l : Launch) (dC : Nat → ClassId) (dI : Nat → Nat → Nat) (h0 : Nat) (m1 : Nat) (m5 : Nat) (m6 : Nat) (m7 : Nat) (m15 : Nat) (m16 : Nat) (m17 : Nat) (m18 : Nat) (m19 : Nat) (m20 : Nat) (m22 : Nat) (m23 : Nat) (m24 : Nat) (m25 : Nat) (m26 : Nat) (m27 : Nat) (m28 : Nat) (m29 : Nat) (m30 : Nat) (m31 : Nat) (m32 : Nat) (m33 : Nat) (m34 : Nat) (m37 : Nat) (m38 : Nat) (m39 : Nat) (m40 : Nat) (m41 : Nat) (m42 : Nat) (m43 : Nat) (m44 : Nat) (m45 : Nat) (m46 : Nat) (p0 : Int32) (sz : Nat) : Met l yX9_leaveAll wsX9_leaveAll ({ frames := 1, cells := 0, slots := 0, locals := 22 }) (va_Pc [.ref h0, .int p0] (cP dC dI [(h0, .inr (9, [.int 0, .ref m1, .int 0, .int 0, .int 0, .ref m5, .ref m6, .ref m7, .int 0, .int 0, .int 0, .int 0, .int 0, .int 0, .long 0, .ref m15, .ref m16, .ref m17, .ref m18, .ref m19, .ref m20, .int 0, .ref m22, .ref m23, .ref m24, .ref m25, .ref m26, .ref m27, .ref m28, .ref m29, .ref m30, .ref m31, .ref m32, .ref m33, .ref m34, .int 0, .int 0, .ref m37, .ref m38, .ref m39, .ref m40, .ref m41, .ref m42, .ref m43, .ref m44, .ref m45, .ref m46]))] [] sz)) (va_Sv (fun _ => True)) 0 0 (fun _ => False) := by
  refine Met.ofW (cc := cX9_leaveAll) (maxL := 3) (ret := none) (by decide) rfl ?_
  intro p e s m args below meth c s₁ B hml hv
  obtain ⟨rfl, hsz, hP, hK, hD0, hN⟩ := hv
  have hx := B.exec
  have hb := B.bytes
  have hr := B.returns
  have hts := atoms_spec (ws := wsX9_leaveAll) B.pre
  have hown : s.vm.findClass RX9 = some m.cls := findClass_of_methodNamed B.named
  have hlocks := B.notSynchronized
  subst hsz
  have hin9 : ∀ w ∈ u_ws RX9 TX9 47, w ∈ wsX9_leaveAll := by decide +kernel
  have hD := hD0
  have hP : va_P (dC, dI) vwCl [(h0, .inr (9, [.int 0, .ref m1, .int 0, .int 0, .int 0, .ref m5, .ref m6, .ref m7, .int 0, .int 0, .int 0, .int 0, .int 0, .int 0, .long 0, .ref m15, .ref m16, .ref m17, .ref m18, .ref m19, .ref m20, .int 0, .ref m22, .ref m23, .ref m24, .ref m25, .ref m26, .ref m27, .ref m28, .ref m29, .ref m30, .ref m31, .ref m32, .ref m33, .ref m34, .int 0, .int 0, .ref m37, .ref m38, .ref m39, .ref m40, .ref m41, .ref m42, .ref m43, .ref m44, .ref m45, .ref m46]))] s.heap := hP
  have hl := lv_entry ([.ref h0, .int p0]) (n := 3) (Nat.le_of_ble_eq_true rfl)
  rw [lg_entry_eq]
  generalize (lg_sl ([.ref h0, .int p0]) ++ List.replicate (3 - (lg_sl ([.ref h0, .int p0])).length) Slot.unset).toArray = ls at hl ⊢
  have hl : lv_has ls 3 [(0, .ref h0), (1, .int p0)] := hl
  refine lv_iconst (v := 0) hx hb dX9_leaveAll_0 (by decide) ?_
  refine lv_istore_n (lv' := [(2, .int 0), (0, .ref h0), (1, .int p0)]) hx hb dX9_leaveAll_1 rfl hl (by decide) rfl (fun ls hl => ?_)
  refine lv_iload_n hx hb dX9_leaveAll_2 rfl (lv_at hl 0 rfl) ?_
  refine lv_aload_n hx hb dX9_leaveAll_3 rfl (lv_at hl 1 rfl) ?_
  refine va_get (D := (dC, dI)) (ci := 9) (v := .int 0) (C := RX9) (T := TX9) (N := 47) hx hb hts hin9 hown hK hP 0 rfl rfl 36 (by decide) (hts (.fieldLink RX9 208 "YamRidersModel" "riders" "I") (by decide +kernel)) (fun _ h9 => h9) rfl dX9_leaveAll_4 ?_
  refine lv_icmp_ge (tgt := 45) hx hb dX9_leaveAll_7 (by decide) (fun _ => ?_) (fun c_1 => by first | exact absurd c_1 (by decide) | exact absurd (by decide) c_1)
  refine lv_aload_n hx hb dX9_leaveAll_45 rfl (lv_at hl 1 rfl) ?_
  have hPc := hP.sub (ws' := [(h0, .inr (9, [.int 0, .ref m1, .int 0, .int 0, .int 0, .ref m5, .ref m6, .ref m7, .int 0, .int 0, .int 0, .int 0, .int 0, .int 0, .long 0, .ref m15, .ref m16, .ref m17, .ref m18, .ref m19, .ref m20, .int 0, .ref m22, .ref m23, .ref m24, .ref m25, .ref m26, .ref m27, .ref m28, .ref m29, .ref m30, .ref m31, .ref m32, .ref m33, .ref m34, .int 0, .int 0, .ref m37, .ref m38, .ref m39, .ref m40, .ref m41, .ref m42, .ref m43, .ref m44, .ref m45, .ref m46]))]) [0] rfl
  have hDc := hD.sub (ws' := [(h0, .inr (9, [.int 0, .ref m1, .int 0, .int 0, .int 0, .ref m5, .ref m6, .ref m7, .int 0, .int 0, .int 0, .int 0, .int 0, .int 0, .long 0, .ref m15, .ref m16, .ref m17, .ref m18, .ref m19, .ref m20, .int 0, .ref m22, .ref m23, .ref m24, .ref m25, .ref m26, .ref m27, .ref m28, .ref m29, .ref m30, .ref m31, .ref m32, .ref m33, .ref m34, .int 0, .int 0, .ref m37, .ref m38, .ref m39, .ref m40, .ref m41, .ref m42, .ref m43, .ref m44, .ref m45, .ref m46]))]) [0] (by decide) rfl
  have hKc := hK.sub (tys' := []) [] rfl
  refine cs_i (va_runV (As := []) (rest := []) ⟨hx, hb, hml, hown, hts⟩ (c_X9_first l dC dI h0 m1 m5 m6 m7 m15 m16 m17 m18 m19 m20 m22 m23 m24 m25 m26 m27 m28 m29 m30 m31 m32 m33 m34 m37 m38 m39 m40 m41 m42 m43 m44 m45 m46 s.heap.size) (cwV 0 hts gX9_leaveAll_X9_first rfl rfl rfl (by decide +kernel) ⟨Nat.le_of_ble_eq_true rfl, Nat.le_of_ble_eq_true rfl⟩) ⟨c_blind, va_recv hKc hPc (ci := 9) (q0 := 0) rfl rfl, c_pre hPc hKc hDc hN⟩ rfl rfl hl.1 rfl (lv_room (Nat.le_of_ble_eq_true rfl)) dX9_leaveAll_46 ⟨Nat.le_of_ble_eq_true rfl, Nat.le_of_ble_eq_true rfl⟩) (fun r_2 hr_2 => ?_)
  subst hr_2
  refine lv_istore_n (lv' := [(2, .int (-1)), (0, .ref h0), (1, .int p0)]) hx hb dX9_leaveAll_49 rfl hl (by decide) rfl (fun ls hl => ?_)
  refine lv_iload_n hx hb dX9_leaveAll_50 rfl (lv_at hl 0 rfl) ?_
  refine lv_if_lt (tgt := 75) hx hb dX9_leaveAll_51 (by decide) (fun _ => ?_) (fun c_3 => by first | exact absurd c_3 (by decide) | exact absurd (by decide) c_3)
  exact W.vret hx hb hr (fun t9 ht hW => ⟨rfl, trivial, ht⟩) (fun q h => nomatch h) dX9_leaveAll_75

set_option maxHeartbeats 4000000 in
set_option maxRecDepth 100000 in
theorem c_X9_next (l : Launch) (dC : Nat → ClassId) (dI : Nat → Nat → Nat) (h0 : Nat) (m1 : Nat) (m5 : Nat) (m6 : Nat) (m7 : Nat) (m15 : Nat) (m16 : Nat) (m17 : Nat) (m18 : Nat) (m19 : Nat) (m20 : Nat) (m22 : Nat) (m23 : Nat) (m24 : Nat) (m25 : Nat) (m26 : Nat) (m27 : Nat) (m28 : Nat) (m29 : Nat) (m30 : Nat) (m31 : Nat) (m32 : Nat) (m33 : Nat) (m34 : Nat) (m37 : Nat) (m38 : Nat) (m39 : Nat) (m40 : Nat) (m41 : Nat) (m42 : Nat) (m43 : Nat) (m44 : Nat) (m45 : Nat) (m46 : Nat) (sz : Nat) : Met l yX9_next wsX9_next ({ frames := 2, cells := 0, slots := 0, locals := 44 }) (va_Pc [.ref h0] (cP dC dI [(h0, .inr (9, [.int 0, .ref m1, .int 0, .int 0, .int 0, .ref m5, .ref m6, .ref m7, .int 0, .int 0, .int 0, .int 0, .int 0, .int 0, .long 0, .ref m15, .ref m16, .ref m17, .ref m18, .ref m19, .ref m20, .int 0, .ref m22, .ref m23, .ref m24, .ref m25, .ref m26, .ref m27, .ref m28, .ref m29, .ref m30, .ref m31, .ref m32, .ref m33, .ref m34, .int 0, .int 0, .ref m37, .ref m38, .ref m39, .ref m40, .ref m41, .ref m42, .ref m43, .ref m44, .ref m45, .ref m46]))] [] sz)) (va_Qi (fun (r : Int32) (_ : Unit) => r = 1) (fun (_ : Unit) t9 => cQ dC dI [] [] (va_A [(h0, .inr (9, [.int 0, .ref m1, .int 0, .int 0, .int 0, .ref m5, .ref m6, .ref m7, .int 0, .int 0, .int 0, .int 0, .int 0, .int 0, .long 0, .ref m15, .ref m16, .ref m17, .ref m18, .ref m19, .ref m20, .int 0, .ref m22, .ref m23, .ref m24, .ref m25, .ref m26, .ref m27, .ref m28, .ref m29, .ref m30, .ref m31, .ref m32, .ref m33, .ref m34, .int 0, .int 0, .ref m37, .ref m38, .ref m39, .ref m40, .ref m41, .ref m42, .ref m43, .ref m44, .ref m45, .ref m46]))] sz) t9) (va_A [(h0, .inr (9, [.int 0, .ref m1, .int 0, .int 0, .int 0, .ref m5, .ref m6, .ref m7, .int 0, .int 0, .int 0, .int 0, .int 0, .int 0, .long 0, .ref m15, .ref m16, .ref m17, .ref m18, .ref m19, .ref m20, .int 0, .ref m22, .ref m23, .ref m24, .ref m25, .ref m26, .ref m27, .ref m28, .ref m29, .ref m30, .ref m31, .ref m32, .ref m33, .ref m34, .int 0, .int 0, .ref m37, .ref m38, .ref m39, .ref m40, .ref m41, .ref m42, .ref m43, .ref m44, .ref m45, .ref m46]))] sz)) 0 0 (va_A [(h0, .inr (9, [.int 0, .ref m1, .int 0, .int 0, .int 0, .ref m5, .ref m6, .ref m7, .int 0, .int 0, .int 0, .int 0, .int 0, .int 0, .long 0, .ref m15, .ref m16, .ref m17, .ref m18, .ref m19, .ref m20, .int 0, .ref m22, .ref m23, .ref m24, .ref m25, .ref m26, .ref m27, .ref m28, .ref m29, .ref m30, .ref m31, .ref m32, .ref m33, .ref m34, .int 0, .int 0, .ref m37, .ref m38, .ref m39, .ref m40, .ref m41, .ref m42, .ref m43, .ref m44, .ref m45, .ref m46]))] sz) := by
  refine Met.ofW (cc := cX9_next) (maxL := 2) (ret := (some .int)) (by decide) rfl ?_
  intro p e s m args below meth c s₁ B hml hv
  obtain ⟨rfl, hsz, hP, hK, hD0, hN⟩ := hv
  have hx := B.exec
  have hb := B.bytes
  have hr := B.returns
  have hts := atoms_spec (ws := wsX9_next) B.pre
  have hown : s.vm.findClass RX9 = some m.cls := findClass_of_methodNamed B.named
  have hlocks := B.notSynchronized
  subst hsz
  have hin9 : ∀ w ∈ u_ws RX9 TX9 47, w ∈ wsX9_next := by decide +kernel
  have hD := hD0.self (sz := s.heap.size)
  generalize hAe : va_A [(h0, .inr (9, [.int 0, .ref m1, .int 0, .int 0, .int 0, .ref m5, .ref m6, .ref m7, .int 0, .int 0, .int 0, .int 0, .int 0, .int 0, .long 0, .ref m15, .ref m16, .ref m17, .ref m18, .ref m19, .ref m20, .int 0, .ref m22, .ref m23, .ref m24, .ref m25, .ref m26, .ref m27, .ref m28, .ref m29, .ref m30, .ref m31, .ref m32, .ref m33, .ref m34, .int 0, .int 0, .ref m37, .ref m38, .ref m39, .ref m40, .ref m41, .ref m42, .ref m43, .ref m44, .ref m45, .ref m46]))] s.heap.size = A at hD ⊢
  have hA : ∀ q : Nat, s.heap.size ≤ q → A q := fun q h => by rw [← hAe]; exact Or.inr h
  have hS : va_S A s.heap s.heap [] := va_S.rf
  have hP : va_P (dC, dI) vwCl [(h0, .inr (9, [.int 0, .ref m1, .int 0, .int 0, .int 0, .ref m5, .ref m6, .ref m7, .int 0, .int 0, .int 0, .int 0, .int 0, .int 0, .long 0, .ref m15, .ref m16, .ref m17, .ref m18, .ref m19, .ref m20, .int 0, .ref m22, .ref m23, .ref m24, .ref m25, .ref m26, .ref m27, .ref m28, .ref m29, .ref m30, .ref m31, .ref m32, .ref m33, .ref m34, .int 0, .int 0, .ref m37, .ref m38, .ref m39, .ref m40, .ref m41, .ref m42, .ref m43, .ref m44, .ref m45, .ref m46]))] s.heap := hP
  have hl := lv_entry ([.ref h0]) (n := 2) (Nat.le_of_ble_eq_true rfl)
  rw [lg_entry_eq]
  generalize (lg_sl ([.ref h0]) ++ List.replicate (2 - (lg_sl ([.ref h0])).length) Slot.unset).toArray = ls at hl ⊢
  have hl : lv_has ls 2 [(0, .ref h0)] := hl
  refine lv_aload_n hx hb dX9_next_0 rfl (lv_at hl 0 rfl) ?_
  refine lv_iconst (v := 0) hx hb dX9_next_1 (by decide) ?_
  refine va_put (D := (dC, dI)) (ci := 9) (v := .int 0) (ty := (tyX9 0)) (C := RX9) (T := TX9) (N := 47) hx hb hts hin9 tyX9 tyX9_ok nmX9 hown hK hP hD hS 0 rfl rfl 0 (by decide) (hts (.fieldLink RX9 111 "YamRidersModel" "thrown" "I") (by decide +kernel)) (fun _ h9 => h9) rfl (by decide +kernel) rfl rfl (Nat.le_of_ble_eq_true rfl) dX9_next_2 (fun H locs hP hD hS => ?_)
  have hP : va_P (dC, dI) vwCl [(h0, .inr (9, [.int 0, .ref m1, .int 0, .int 0, .int 0, .ref m5, .ref m6, .ref m7, .int 0, .int 0, .int 0, .int 0, .int 0, .int 0, .long 0, .ref m15, .ref m16, .ref m17, .ref m18, .ref m19, .ref m20, .int 0, .ref m22, .ref m23, .ref m24, .ref m25, .ref m26, .ref m27, .ref m28, .ref m29, .ref m30, .ref m31, .ref m32, .ref m33, .ref m34, .int 0, .int 0, .ref m37, .ref m38, .ref m39, .ref m40, .ref m41, .ref m42, .ref m43, .ref m44, .ref m45, .ref m46]))] H := hP
  have hD : va_D A [(h0, .inr (9, [.int 0, .ref m1, .int 0, .int 0, .int 0, .ref m5, .ref m6, .ref m7, .int 0, .int 0, .int 0, .int 0, .int 0, .int 0, .long 0, .ref m15, .ref m16, .ref m17, .ref m18, .ref m19, .ref m20, .int 0, .ref m22, .ref m23, .ref m24, .ref m25, .ref m26, .ref m27, .ref m28, .ref m29, .ref m30, .ref m31, .ref m32, .ref m33, .ref m34, .int 0, .int 0, .ref m37, .ref m38, .ref m39, .ref m40, .ref m41, .ref m42, .ref m43, .ref m44, .ref m45, .ref m46]))] := hD
  refine lv_aload_n hx hb dX9_next_5 rfl (lv_at hl 0 rfl) ?_
  refine va_get (D := (dC, dI)) (ci := 9) (v := .int 0) (C := RX9) (T := TX9) (N := 47) hx hb hts hin9 hown hK hP 0 rfl rfl 13 (by decide) (hts (.fieldLink RX9 217 "YamRidersModel" "hour" "I") (by decide +kernel)) (fun _ h9 => h9) rfl dX9_next_6 ?_
  refine lv_sipush (v := 9999) hx hb dX9_next_9 (by decide) ?_
  refine lv_icmp_ne (tgt := 17) hx hb dX9_next_12 (by decide) (fun _ => ?_) (fun c_1 => by first | exact absurd c_1 (by decide) | exact absurd (by decide) c_1)
  refine lv_iconst (v := 0) hx hb dX9_next_17 (by decide) ?_
  refine lv_istore_n (lv' := [(1, .int 0), (0, .ref h0)]) hx hb dX9_next_18 rfl hl (by decide) rfl (fun ls hl => ?_)
  refine lv_iload_n hx hb dX9_next_19 rfl (lv_at hl 0 rfl) ?_
  refine lv_aload_n hx hb dX9_next_20 rfl (lv_at hl 1 rfl) ?_
  refine va_get (D := (dC, dI)) (ci := 9) (v := .int 0) (C := RX9) (T := TX9) (N := 47) hx hb hts hin9 hown hK hP 0 rfl rfl 21 (by decide) (hts (.fieldLink RX9 202 "YamRidersModel" "horses" "I") (by decide +kernel)) (fun _ h9 => h9) rfl dX9_next_21 ?_
  refine lv_icmp_ge (tgt := 47) hx hb dX9_next_24 (by decide) (fun _ => ?_) (fun c_2 => by first | exact absurd c_2 (by decide) | exact absurd (by decide) c_2)
  refine lv_iconst (v := 0) hx hb dX9_next_47 (by decide) ?_
  refine lv_istore_n (lv' := [(1, .int 0), (0, .ref h0)]) hx hb dX9_next_48 rfl hl (by decide) rfl (fun ls hl => ?_)
  refine lv_iload_n hx hb dX9_next_49 rfl (lv_at hl 0 rfl) ?_
  refine lv_bipush (v := 12) hx hb dX9_next_50 (by decide) ?_
  refine lv_icmp_ge (tgt := 66) hx hb dX9_next_52 (by decide) (fun c_3 => by first | exact absurd c_3 (by decide) | exact absurd (by decide) c_3) (fun _ => ?_)
  refine lv_aload_n hx hb dX9_next_55 rfl (lv_at hl 1 rfl) ?_
  refine lv_iload_n hx hb dX9_next_56 rfl (lv_at hl 0 rfl) ?_
  have hPc := hP.sub (ws' := [(h0, .inr (9, [.int 0, .ref m1, .int 0, .int 0, .int 0, .ref m5, .ref m6, .ref m7, .int 0, .int 0, .int 0, .int 0, .int 0, .int 0, .long 0, .ref m15, .ref m16, .ref m17, .ref m18, .ref m19, .ref m20, .int 0, .ref m22, .ref m23, .ref m24, .ref m25, .ref m26, .ref m27, .ref m28, .ref m29, .ref m30, .ref m31, .ref m32, .ref m33, .ref m34, .int 0, .int 0, .ref m37, .ref m38, .ref m39, .ref m40, .ref m41, .ref m42, .ref m43, .ref m44, .ref m45, .ref m46]))]) [0] rfl
  have hDc := hD.sub (ws' := [(h0, .inr (9, [.int 0, .ref m1, .int 0, .int 0, .int 0, .ref m5, .ref m6, .ref m7, .int 0, .int 0, .int 0, .int 0, .int 0, .int 0, .long 0, .ref m15, .ref m16, .ref m17, .ref m18, .ref m19, .ref m20, .int 0, .ref m22, .ref m23, .ref m24, .ref m25, .ref m26, .ref m27, .ref m28, .ref m29, .ref m30, .ref m31, .ref m32, .ref m33, .ref m34, .int 0, .int 0, .ref m37, .ref m38, .ref m39, .ref m40, .ref m41, .ref m42, .ref m43, .ref m44, .ref m45, .ref m46]))]) [0] (by decide) rfl
  have hKc := hK.sub (tys' := []) [] rfl
  refine cs_v (va_runV (As := [.int 0]) (rest := []) ⟨hx, hb, hml, hown, hts⟩ (c_X9_leaveAll l dC dI h0 m1 m5 m6 m7 m15 m16 m17 m18 m19 m20 m22 m23 m24 m25 m26 m27 m28 m29 m30 m31 m32 m33 m34 m37 m38 m39 m40 m41 m42 m43 m44 m45 m46 0 H.size) (cwV 1 hts gX9_next_X9_leaveAll rfl rfl rfl (by decide +kernel) ⟨Nat.le_of_ble_eq_true rfl, Nat.le_of_ble_eq_true rfl⟩) ⟨c_blind, va_recv hKc hPc (ci := 9) (q0 := 0) rfl rfl, c_pre hPc hKc hDc hN⟩ rfl rfl hl.1 rfl (lv_room (Nat.le_of_ble_eq_true rfl)) dX9_next_57 ⟨Nat.le_of_ble_eq_true rfl, Nat.le_of_ble_eq_true rfl⟩) (fun _ => ?_)
  refine lv_iinc (v := 1) (lv' := [(1, .int 1), (0, .ref h0)]) hx hb dX9_next_60 hl (k := 0) rfl (by decide) (by decide) rfl (fun ls hl => ?_)
  refine lv_goto (tgt := 49) hx hb dX9_next_63 (by decide) ?_
  refine lv_iload_n hx hb dX9_next_49 rfl (lv_at hl 0 rfl) ?_
  refine lv_bipush (v := 12) hx hb dX9_next_50 (by decide) ?_
  refine lv_icmp_ge (tgt := 66) hx hb dX9_next_52 (by decide) (fun c_4 => by first | exact absurd c_4 (by decide) | exact absurd (by decide) c_4) (fun _ => ?_)
  refine lv_aload_n hx hb dX9_next_55 rfl (lv_at hl 1 rfl) ?_
  refine lv_iload_n hx hb dX9_next_56 rfl (lv_at hl 0 rfl) ?_
  have hPc := hP.sub (ws' := [(h0, .inr (9, [.int 0, .ref m1, .int 0, .int 0, .int 0, .ref m5, .ref m6, .ref m7, .int 0, .int 0, .int 0, .int 0, .int 0, .int 0, .long 0, .ref m15, .ref m16, .ref m17, .ref m18, .ref m19, .ref m20, .int 0, .ref m22, .ref m23, .ref m24, .ref m25, .ref m26, .ref m27, .ref m28, .ref m29, .ref m30, .ref m31, .ref m32, .ref m33, .ref m34, .int 0, .int 0, .ref m37, .ref m38, .ref m39, .ref m40, .ref m41, .ref m42, .ref m43, .ref m44, .ref m45, .ref m46]))]) [0] rfl
  have hDc := hD.sub (ws' := [(h0, .inr (9, [.int 0, .ref m1, .int 0, .int 0, .int 0, .ref m5, .ref m6, .ref m7, .int 0, .int 0, .int 0, .int 0, .int 0, .int 0, .long 0, .ref m15, .ref m16, .ref m17, .ref m18, .ref m19, .ref m20, .int 0, .ref m22, .ref m23, .ref m24, .ref m25, .ref m26, .ref m27, .ref m28, .ref m29, .ref m30, .ref m31, .ref m32, .ref m33, .ref m34, .int 0, .int 0, .ref m37, .ref m38, .ref m39, .ref m40, .ref m41, .ref m42, .ref m43, .ref m44, .ref m45, .ref m46]))]) [0] (by decide) rfl
  have hKc := hK.sub (tys' := []) [] rfl
  refine cs_v (va_runV (As := [.int 1]) (rest := []) ⟨hx, hb, hml, hown, hts⟩ (c_X9_leaveAll l dC dI h0 m1 m5 m6 m7 m15 m16 m17 m18 m19 m20 m22 m23 m24 m25 m26 m27 m28 m29 m30 m31 m32 m33 m34 m37 m38 m39 m40 m41 m42 m43 m44 m45 m46 1 H.size) (cwV 1 hts gX9_next_X9_leaveAll rfl rfl rfl (by decide +kernel) ⟨Nat.le_of_ble_eq_true rfl, Nat.le_of_ble_eq_true rfl⟩) ⟨c_blind, va_recv hKc hPc (ci := 9) (q0 := 0) rfl rfl, c_pre hPc hKc hDc hN⟩ rfl rfl hl.1 rfl (lv_room (Nat.le_of_ble_eq_true rfl)) dX9_next_57 ⟨Nat.le_of_ble_eq_true rfl, Nat.le_of_ble_eq_true rfl⟩) (fun _ => ?_)
  refine lv_iinc (v := 2) (lv' := [(1, .int 2), (0, .ref h0)]) hx hb dX9_next_60 hl (k := 0) rfl (by decide) (by decide) rfl (fun ls hl => ?_)
  refine lv_goto (tgt := 49) hx hb dX9_next_63 (by decide) ?_
  refine lv_iload_n hx hb dX9_next_49 rfl (lv_at hl 0 rfl) ?_
  refine lv_bipush (v := 12) hx hb dX9_next_50 (by decide) ?_
  refine lv_icmp_ge (tgt := 66) hx hb dX9_next_52 (by decide) (fun c_5 => by first | exact absurd c_5 (by decide) | exact absurd (by decide) c_5) (fun _ => ?_)
  refine lv_aload_n hx hb dX9_next_55 rfl (lv_at hl 1 rfl) ?_
  refine lv_iload_n hx hb dX9_next_56 rfl (lv_at hl 0 rfl) ?_
  have hPc := hP.sub (ws' := [(h0, .inr (9, [.int 0, .ref m1, .int 0, .int 0, .int 0, .ref m5, .ref m6, .ref m7, .int 0, .int 0, .int 0, .int 0, .int 0, .int 0, .long 0, .ref m15, .ref m16, .ref m17, .ref m18, .ref m19, .ref m20, .int 0, .ref m22, .ref m23, .ref m24, .ref m25, .ref m26, .ref m27, .ref m28, .ref m29, .ref m30, .ref m31, .ref m32, .ref m33, .ref m34, .int 0, .int 0, .ref m37, .ref m38, .ref m39, .ref m40, .ref m41, .ref m42, .ref m43, .ref m44, .ref m45, .ref m46]))]) [0] rfl
  have hDc := hD.sub (ws' := [(h0, .inr (9, [.int 0, .ref m1, .int 0, .int 0, .int 0, .ref m5, .ref m6, .ref m7, .int 0, .int 0, .int 0, .int 0, .int 0, .int 0, .long 0, .ref m15, .ref m16, .ref m17, .ref m18, .ref m19, .ref m20, .int 0, .ref m22, .ref m23, .ref m24, .ref m25, .ref m26, .ref m27, .ref m28, .ref m29, .ref m30, .ref m31, .ref m32, .ref m33, .ref m34, .int 0, .int 0, .ref m37, .ref m38, .ref m39, .ref m40, .ref m41, .ref m42, .ref m43, .ref m44, .ref m45, .ref m46]))]) [0] (by decide) rfl
  have hKc := hK.sub (tys' := []) [] rfl
  refine cs_v (va_runV (As := [.int 2]) (rest := []) ⟨hx, hb, hml, hown, hts⟩ (c_X9_leaveAll l dC dI h0 m1 m5 m6 m7 m15 m16 m17 m18 m19 m20 m22 m23 m24 m25 m26 m27 m28 m29 m30 m31 m32 m33 m34 m37 m38 m39 m40 m41 m42 m43 m44 m45 m46 2 H.size) (cwV 1 hts gX9_next_X9_leaveAll rfl rfl rfl (by decide +kernel) ⟨Nat.le_of_ble_eq_true rfl, Nat.le_of_ble_eq_true rfl⟩) ⟨c_blind, va_recv hKc hPc (ci := 9) (q0 := 0) rfl rfl, c_pre hPc hKc hDc hN⟩ rfl rfl hl.1 rfl (lv_room (Nat.le_of_ble_eq_true rfl)) dX9_next_57 ⟨Nat.le_of_ble_eq_true rfl, Nat.le_of_ble_eq_true rfl⟩) (fun _ => ?_)
  refine lv_iinc (v := 3) (lv' := [(1, .int 3), (0, .ref h0)]) hx hb dX9_next_60 hl (k := 0) rfl (by decide) (by decide) rfl (fun ls hl => ?_)
  refine lv_goto (tgt := 49) hx hb dX9_next_63 (by decide) ?_
  refine lv_iload_n hx hb dX9_next_49 rfl (lv_at hl 0 rfl) ?_
  refine lv_bipush (v := 12) hx hb dX9_next_50 (by decide) ?_
  refine lv_icmp_ge (tgt := 66) hx hb dX9_next_52 (by decide) (fun c_6 => by first | exact absurd c_6 (by decide) | exact absurd (by decide) c_6) (fun _ => ?_)
  refine lv_aload_n hx hb dX9_next_55 rfl (lv_at hl 1 rfl) ?_
  refine lv_iload_n hx hb dX9_next_56 rfl (lv_at hl 0 rfl) ?_
  have hPc := hP.sub (ws' := [(h0, .inr (9, [.int 0, .ref m1, .int 0, .int 0, .int 0, .ref m5, .ref m6, .ref m7, .int 0, .int 0, .int 0, .int 0, .int 0, .int 0, .long 0, .ref m15, .ref m16, .ref m17, .ref m18, .ref m19, .ref m20, .int 0, .ref m22, .ref m23, .ref m24, .ref m25, .ref m26, .ref m27, .ref m28, .ref m29, .ref m30, .ref m31, .ref m32, .ref m33, .ref m34, .int 0, .int 0, .ref m37, .ref m38, .ref m39, .ref m40, .ref m41, .ref m42, .ref m43, .ref m44, .ref m45, .ref m46]))]) [0] rfl
  have hDc := hD.sub (ws' := [(h0, .inr (9, [.int 0, .ref m1, .int 0, .int 0, .int 0, .ref m5, .ref m6, .ref m7, .int 0, .int 0, .int 0, .int 0, .int 0, .int 0, .long 0, .ref m15, .ref m16, .ref m17, .ref m18, .ref m19, .ref m20, .int 0, .ref m22, .ref m23, .ref m24, .ref m25, .ref m26, .ref m27, .ref m28, .ref m29, .ref m30, .ref m31, .ref m32, .ref m33, .ref m34, .int 0, .int 0, .ref m37, .ref m38, .ref m39, .ref m40, .ref m41, .ref m42, .ref m43, .ref m44, .ref m45, .ref m46]))]) [0] (by decide) rfl
  have hKc := hK.sub (tys' := []) [] rfl
  refine cs_v (va_runV (As := [.int 3]) (rest := []) ⟨hx, hb, hml, hown, hts⟩ (c_X9_leaveAll l dC dI h0 m1 m5 m6 m7 m15 m16 m17 m18 m19 m20 m22 m23 m24 m25 m26 m27 m28 m29 m30 m31 m32 m33 m34 m37 m38 m39 m40 m41 m42 m43 m44 m45 m46 3 H.size) (cwV 1 hts gX9_next_X9_leaveAll rfl rfl rfl (by decide +kernel) ⟨Nat.le_of_ble_eq_true rfl, Nat.le_of_ble_eq_true rfl⟩) ⟨c_blind, va_recv hKc hPc (ci := 9) (q0 := 0) rfl rfl, c_pre hPc hKc hDc hN⟩ rfl rfl hl.1 rfl (lv_room (Nat.le_of_ble_eq_true rfl)) dX9_next_57 ⟨Nat.le_of_ble_eq_true rfl, Nat.le_of_ble_eq_true rfl⟩) (fun _ => ?_)
  refine lv_iinc (v := 4) (lv' := [(1, .int 4), (0, .ref h0)]) hx hb dX9_next_60 hl (k := 0) rfl (by decide) (by decide) rfl (fun ls hl => ?_)
  refine lv_goto (tgt := 49) hx hb dX9_next_63 (by decide) ?_
  refine lv_iload_n hx hb dX9_next_49 rfl (lv_at hl 0 rfl) ?_
  refine lv_bipush (v := 12) hx hb dX9_next_50 (by decide) ?_
  refine lv_icmp_ge (tgt := 66) hx hb dX9_next_52 (by decide) (fun c_7 => by first | exact absurd c_7 (by decide) | exact absurd (by decide) c_7) (fun _ => ?_)
  refine lv_aload_n hx hb dX9_next_55 rfl (lv_at hl 1 rfl) ?_
  refine lv_iload_n hx hb dX9_next_56 rfl (lv_at hl 0 rfl) ?_
  have hPc := hP.sub (ws' := [(h0, .inr (9, [.int 0, .ref m1, .int 0, .int 0, .int 0, .ref m5, .ref m6, .ref m7, .int 0, .int 0, .int 0, .int 0, .int 0, .int 0, .long 0, .ref m15, .ref m16, .ref m17, .ref m18, .ref m19, .ref m20, .int 0, .ref m22, .ref m23, .ref m24, .ref m25, .ref m26, .ref m27, .ref m28, .ref m29, .ref m30, .ref m31, .ref m32, .ref m33, .ref m34, .int 0, .int 0, .ref m37, .ref m38, .ref m39, .ref m40, .ref m41, .ref m42, .ref m43, .ref m44, .ref m45, .ref m46]))]) [0] rfl
  have hDc := hD.sub (ws' := [(h0, .inr (9, [.int 0, .ref m1, .int 0, .int 0, .int 0, .ref m5, .ref m6, .ref m7, .int 0, .int 0, .int 0, .int 0, .int 0, .int 0, .long 0, .ref m15, .ref m16, .ref m17, .ref m18, .ref m19, .ref m20, .int 0, .ref m22, .ref m23, .ref m24, .ref m25, .ref m26, .ref m27, .ref m28, .ref m29, .ref m30, .ref m31, .ref m32, .ref m33, .ref m34, .int 0, .int 0, .ref m37, .ref m38, .ref m39, .ref m40, .ref m41, .ref m42, .ref m43, .ref m44, .ref m45, .ref m46]))]) [0] (by decide) rfl
  have hKc := hK.sub (tys' := []) [] rfl
  refine cs_v (va_runV (As := [.int 4]) (rest := []) ⟨hx, hb, hml, hown, hts⟩ (c_X9_leaveAll l dC dI h0 m1 m5 m6 m7 m15 m16 m17 m18 m19 m20 m22 m23 m24 m25 m26 m27 m28 m29 m30 m31 m32 m33 m34 m37 m38 m39 m40 m41 m42 m43 m44 m45 m46 4 H.size) (cwV 1 hts gX9_next_X9_leaveAll rfl rfl rfl (by decide +kernel) ⟨Nat.le_of_ble_eq_true rfl, Nat.le_of_ble_eq_true rfl⟩) ⟨c_blind, va_recv hKc hPc (ci := 9) (q0 := 0) rfl rfl, c_pre hPc hKc hDc hN⟩ rfl rfl hl.1 rfl (lv_room (Nat.le_of_ble_eq_true rfl)) dX9_next_57 ⟨Nat.le_of_ble_eq_true rfl, Nat.le_of_ble_eq_true rfl⟩) (fun _ => ?_)
  refine lv_iinc (v := 5) (lv' := [(1, .int 5), (0, .ref h0)]) hx hb dX9_next_60 hl (k := 0) rfl (by decide) (by decide) rfl (fun ls hl => ?_)
  refine lv_goto (tgt := 49) hx hb dX9_next_63 (by decide) ?_
  refine lv_iload_n hx hb dX9_next_49 rfl (lv_at hl 0 rfl) ?_
  refine lv_bipush (v := 12) hx hb dX9_next_50 (by decide) ?_
  refine lv_icmp_ge (tgt := 66) hx hb dX9_next_52 (by decide) (fun c_8 => by first | exact absurd c_8 (by decide) | exact absurd (by decide) c_8) (fun _ => ?_)
  refine lv_aload_n hx hb dX9_next_55 rfl (lv_at hl 1 rfl) ?_
  refine lv_iload_n hx hb dX9_next_56 rfl (lv_at hl 0 rfl) ?_
  have hPc := hP.sub (ws' := [(h0, .inr (9, [.int 0, .ref m1, .int 0, .int 0, .int 0, .ref m5, .ref m6, .ref m7, .int 0, .int 0, .int 0, .int 0, .int 0, .int 0, .long 0, .ref m15, .ref m16, .ref m17, .ref m18, .ref m19, .ref m20, .int 0, .ref m22, .ref m23, .ref m24, .ref m25, .ref m26, .ref m27, .ref m28, .ref m29, .ref m30, .ref m31, .ref m32, .ref m33, .ref m34, .int 0, .int 0, .ref m37, .ref m38, .ref m39, .ref m40, .ref m41, .ref m42, .ref m43, .ref m44, .ref m45, .ref m46]))]) [0] rfl
  have hDc := hD.sub (ws' := [(h0, .inr (9, [.int 0, .ref m1, .int 0, .int 0, .int 0, .ref m5, .ref m6, .ref m7, .int 0, .int 0, .int 0, .int 0, .int 0, .int 0, .long 0, .ref m15, .ref m16, .ref m17, .ref m18, .ref m19, .ref m20, .int 0, .ref m22, .ref m23, .ref m24, .ref m25, .ref m26, .ref m27, .ref m28, .ref m29, .ref m30, .ref m31, .ref m32, .ref m33, .ref m34, .int 0, .int 0, .ref m37, .ref m38, .ref m39, .ref m40, .ref m41, .ref m42, .ref m43, .ref m44, .ref m45, .ref m46]))]) [0] (by decide) rfl
  have hKc := hK.sub (tys' := []) [] rfl
  refine cs_v (va_runV (As := [.int 5]) (rest := []) ⟨hx, hb, hml, hown, hts⟩ (c_X9_leaveAll l dC dI h0 m1 m5 m6 m7 m15 m16 m17 m18 m19 m20 m22 m23 m24 m25 m26 m27 m28 m29 m30 m31 m32 m33 m34 m37 m38 m39 m40 m41 m42 m43 m44 m45 m46 5 H.size) (cwV 1 hts gX9_next_X9_leaveAll rfl rfl rfl (by decide +kernel) ⟨Nat.le_of_ble_eq_true rfl, Nat.le_of_ble_eq_true rfl⟩) ⟨c_blind, va_recv hKc hPc (ci := 9) (q0 := 0) rfl rfl, c_pre hPc hKc hDc hN⟩ rfl rfl hl.1 rfl (lv_room (Nat.le_of_ble_eq_true rfl)) dX9_next_57 ⟨Nat.le_of_ble_eq_true rfl, Nat.le_of_ble_eq_true rfl⟩) (fun _ => ?_)
  refine lv_iinc (v := 6) (lv' := [(1, .int 6), (0, .ref h0)]) hx hb dX9_next_60 hl (k := 0) rfl (by decide) (by decide) rfl (fun ls hl => ?_)
  refine lv_goto (tgt := 49) hx hb dX9_next_63 (by decide) ?_
  refine lv_iload_n hx hb dX9_next_49 rfl (lv_at hl 0 rfl) ?_
  refine lv_bipush (v := 12) hx hb dX9_next_50 (by decide) ?_
  refine lv_icmp_ge (tgt := 66) hx hb dX9_next_52 (by decide) (fun c_9 => by first | exact absurd c_9 (by decide) | exact absurd (by decide) c_9) (fun _ => ?_)
  refine lv_aload_n hx hb dX9_next_55 rfl (lv_at hl 1 rfl) ?_
  refine lv_iload_n hx hb dX9_next_56 rfl (lv_at hl 0 rfl) ?_
  have hPc := hP.sub (ws' := [(h0, .inr (9, [.int 0, .ref m1, .int 0, .int 0, .int 0, .ref m5, .ref m6, .ref m7, .int 0, .int 0, .int 0, .int 0, .int 0, .int 0, .long 0, .ref m15, .ref m16, .ref m17, .ref m18, .ref m19, .ref m20, .int 0, .ref m22, .ref m23, .ref m24, .ref m25, .ref m26, .ref m27, .ref m28, .ref m29, .ref m30, .ref m31, .ref m32, .ref m33, .ref m34, .int 0, .int 0, .ref m37, .ref m38, .ref m39, .ref m40, .ref m41, .ref m42, .ref m43, .ref m44, .ref m45, .ref m46]))]) [0] rfl
  have hDc := hD.sub (ws' := [(h0, .inr (9, [.int 0, .ref m1, .int 0, .int 0, .int 0, .ref m5, .ref m6, .ref m7, .int 0, .int 0, .int 0, .int 0, .int 0, .int 0, .long 0, .ref m15, .ref m16, .ref m17, .ref m18, .ref m19, .ref m20, .int 0, .ref m22, .ref m23, .ref m24, .ref m25, .ref m26, .ref m27, .ref m28, .ref m29, .ref m30, .ref m31, .ref m32, .ref m33, .ref m34, .int 0, .int 0, .ref m37, .ref m38, .ref m39, .ref m40, .ref m41, .ref m42, .ref m43, .ref m44, .ref m45, .ref m46]))]) [0] (by decide) rfl
  have hKc := hK.sub (tys' := []) [] rfl
  refine cs_v (va_runV (As := [.int 6]) (rest := []) ⟨hx, hb, hml, hown, hts⟩ (c_X9_leaveAll l dC dI h0 m1 m5 m6 m7 m15 m16 m17 m18 m19 m20 m22 m23 m24 m25 m26 m27 m28 m29 m30 m31 m32 m33 m34 m37 m38 m39 m40 m41 m42 m43 m44 m45 m46 6 H.size) (cwV 1 hts gX9_next_X9_leaveAll rfl rfl rfl (by decide +kernel) ⟨Nat.le_of_ble_eq_true rfl, Nat.le_of_ble_eq_true rfl⟩) ⟨c_blind, va_recv hKc hPc (ci := 9) (q0 := 0) rfl rfl, c_pre hPc hKc hDc hN⟩ rfl rfl hl.1 rfl (lv_room (Nat.le_of_ble_eq_true rfl)) dX9_next_57 ⟨Nat.le_of_ble_eq_true rfl, Nat.le_of_ble_eq_true rfl⟩) (fun _ => ?_)
  refine lv_iinc (v := 7) (lv' := [(1, .int 7), (0, .ref h0)]) hx hb dX9_next_60 hl (k := 0) rfl (by decide) (by decide) rfl (fun ls hl => ?_)
  refine lv_goto (tgt := 49) hx hb dX9_next_63 (by decide) ?_
  refine lv_iload_n hx hb dX9_next_49 rfl (lv_at hl 0 rfl) ?_
  refine lv_bipush (v := 12) hx hb dX9_next_50 (by decide) ?_
  refine lv_icmp_ge (tgt := 66) hx hb dX9_next_52 (by decide) (fun c_10 => by first | exact absurd c_10 (by decide) | exact absurd (by decide) c_10) (fun _ => ?_)
  refine lv_aload_n hx hb dX9_next_55 rfl (lv_at hl 1 rfl) ?_
  refine lv_iload_n hx hb dX9_next_56 rfl (lv_at hl 0 rfl) ?_
  have hPc := hP.sub (ws' := [(h0, .inr (9, [.int 0, .ref m1, .int 0, .int 0, .int 0, .ref m5, .ref m6, .ref m7, .int 0, .int 0, .int 0, .int 0, .int 0, .int 0, .long 0, .ref m15, .ref m16, .ref m17, .ref m18, .ref m19, .ref m20, .int 0, .ref m22, .ref m23, .ref m24, .ref m25, .ref m26, .ref m27, .ref m28, .ref m29, .ref m30, .ref m31, .ref m32, .ref m33, .ref m34, .int 0, .int 0, .ref m37, .ref m38, .ref m39, .ref m40, .ref m41, .ref m42, .ref m43, .ref m44, .ref m45, .ref m46]))]) [0] rfl
  have hDc := hD.sub (ws' := [(h0, .inr (9, [.int 0, .ref m1, .int 0, .int 0, .int 0, .ref m5, .ref m6, .ref m7, .int 0, .int 0, .int 0, .int 0, .int 0, .int 0, .long 0, .ref m15, .ref m16, .ref m17, .ref m18, .ref m19, .ref m20, .int 0, .ref m22, .ref m23, .ref m24, .ref m25, .ref m26, .ref m27, .ref m28, .ref m29, .ref m30, .ref m31, .ref m32, .ref m33, .ref m34, .int 0, .int 0, .ref m37, .ref m38, .ref m39, .ref m40, .ref m41, .ref m42, .ref m43, .ref m44, .ref m45, .ref m46]))]) [0] (by decide) rfl
  have hKc := hK.sub (tys' := []) [] rfl
  refine cs_v (va_runV (As := [.int 7]) (rest := []) ⟨hx, hb, hml, hown, hts⟩ (c_X9_leaveAll l dC dI h0 m1 m5 m6 m7 m15 m16 m17 m18 m19 m20 m22 m23 m24 m25 m26 m27 m28 m29 m30 m31 m32 m33 m34 m37 m38 m39 m40 m41 m42 m43 m44 m45 m46 7 H.size) (cwV 1 hts gX9_next_X9_leaveAll rfl rfl rfl (by decide +kernel) ⟨Nat.le_of_ble_eq_true rfl, Nat.le_of_ble_eq_true rfl⟩) ⟨c_blind, va_recv hKc hPc (ci := 9) (q0 := 0) rfl rfl, c_pre hPc hKc hDc hN⟩ rfl rfl hl.1 rfl (lv_room (Nat.le_of_ble_eq_true rfl)) dX9_next_57 ⟨Nat.le_of_ble_eq_true rfl, Nat.le_of_ble_eq_true rfl⟩) (fun _ => ?_)
  refine lv_iinc (v := 8) (lv' := [(1, .int 8), (0, .ref h0)]) hx hb dX9_next_60 hl (k := 0) rfl (by decide) (by decide) rfl (fun ls hl => ?_)
  refine lv_goto (tgt := 49) hx hb dX9_next_63 (by decide) ?_
  refine lv_iload_n hx hb dX9_next_49 rfl (lv_at hl 0 rfl) ?_
  refine lv_bipush (v := 12) hx hb dX9_next_50 (by decide) ?_
  refine lv_icmp_ge (tgt := 66) hx hb dX9_next_52 (by decide) (fun c_11 => by first | exact absurd c_11 (by decide) | exact absurd (by decide) c_11) (fun _ => ?_)
  refine lv_aload_n hx hb dX9_next_55 rfl (lv_at hl 1 rfl) ?_
  refine lv_iload_n hx hb dX9_next_56 rfl (lv_at hl 0 rfl) ?_
  have hPc := hP.sub (ws' := [(h0, .inr (9, [.int 0, .ref m1, .int 0, .int 0, .int 0, .ref m5, .ref m6, .ref m7, .int 0, .int 0, .int 0, .int 0, .int 0, .int 0, .long 0, .ref m15, .ref m16, .ref m17, .ref m18, .ref m19, .ref m20, .int 0, .ref m22, .ref m23, .ref m24, .ref m25, .ref m26, .ref m27, .ref m28, .ref m29, .ref m30, .ref m31, .ref m32, .ref m33, .ref m34, .int 0, .int 0, .ref m37, .ref m38, .ref m39, .ref m40, .ref m41, .ref m42, .ref m43, .ref m44, .ref m45, .ref m46]))]) [0] rfl
  have hDc := hD.sub (ws' := [(h0, .inr (9, [.int 0, .ref m1, .int 0, .int 0, .int 0, .ref m5, .ref m6, .ref m7, .int 0, .int 0, .int 0, .int 0, .int 0, .int 0, .long 0, .ref m15, .ref m16, .ref m17, .ref m18, .ref m19, .ref m20, .int 0, .ref m22, .ref m23, .ref m24, .ref m25, .ref m26, .ref m27, .ref m28, .ref m29, .ref m30, .ref m31, .ref m32, .ref m33, .ref m34, .int 0, .int 0, .ref m37, .ref m38, .ref m39, .ref m40, .ref m41, .ref m42, .ref m43, .ref m44, .ref m45, .ref m46]))]) [0] (by decide) rfl
  have hKc := hK.sub (tys' := []) [] rfl
  refine cs_v (va_runV (As := [.int 8]) (rest := []) ⟨hx, hb, hml, hown, hts⟩ (c_X9_leaveAll l dC dI h0 m1 m5 m6 m7 m15 m16 m17 m18 m19 m20 m22 m23 m24 m25 m26 m27 m28 m29 m30 m31 m32 m33 m34 m37 m38 m39 m40 m41 m42 m43 m44 m45 m46 8 H.size) (cwV 1 hts gX9_next_X9_leaveAll rfl rfl rfl (by decide +kernel) ⟨Nat.le_of_ble_eq_true rfl, Nat.le_of_ble_eq_true rfl⟩) ⟨c_blind, va_recv hKc hPc (ci := 9) (q0 := 0) rfl rfl, c_pre hPc hKc hDc hN⟩ rfl rfl hl.1 rfl (lv_room (Nat.le_of_ble_eq_true rfl)) dX9_next_57 ⟨Nat.le_of_ble_eq_true rfl, Nat.le_of_ble_eq_true rfl⟩) (fun _ => ?_)
  refine lv_iinc (v := 9) (lv' := [(1, .int 9), (0, .ref h0)]) hx hb dX9_next_60 hl (k := 0) rfl (by decide) (by decide) rfl (fun ls hl => ?_)
  refine lv_goto (tgt := 49) hx hb dX9_next_63 (by decide) ?_
  refine lv_iload_n hx hb dX9_next_49 rfl (lv_at hl 0 rfl) ?_
  refine lv_bipush (v := 12) hx hb dX9_next_50 (by decide) ?_
  refine lv_icmp_ge (tgt := 66) hx hb dX9_next_52 (by decide) (fun c_12 => by first | exact absurd c_12 (by decide) | exact absurd (by decide) c_12) (fun _ => ?_)
  refine lv_aload_n hx hb dX9_next_55 rfl (lv_at hl 1 rfl) ?_
  refine lv_iload_n hx hb dX9_next_56 rfl (lv_at hl 0 rfl) ?_
  have hPc := hP.sub (ws' := [(h0, .inr (9, [.int 0, .ref m1, .int 0, .int 0, .int 0, .ref m5, .ref m6, .ref m7, .int 0, .int 0, .int 0, .int 0, .int 0, .int 0, .long 0, .ref m15, .ref m16, .ref m17, .ref m18, .ref m19, .ref m20, .int 0, .ref m22, .ref m23, .ref m24, .ref m25, .ref m26, .ref m27, .ref m28, .ref m29, .ref m30, .ref m31, .ref m32, .ref m33, .ref m34, .int 0, .int 0, .ref m37, .ref m38, .ref m39, .ref m40, .ref m41, .ref m42, .ref m43, .ref m44, .ref m45, .ref m46]))]) [0] rfl
  have hDc := hD.sub (ws' := [(h0, .inr (9, [.int 0, .ref m1, .int 0, .int 0, .int 0, .ref m5, .ref m6, .ref m7, .int 0, .int 0, .int 0, .int 0, .int 0, .int 0, .long 0, .ref m15, .ref m16, .ref m17, .ref m18, .ref m19, .ref m20, .int 0, .ref m22, .ref m23, .ref m24, .ref m25, .ref m26, .ref m27, .ref m28, .ref m29, .ref m30, .ref m31, .ref m32, .ref m33, .ref m34, .int 0, .int 0, .ref m37, .ref m38, .ref m39, .ref m40, .ref m41, .ref m42, .ref m43, .ref m44, .ref m45, .ref m46]))]) [0] (by decide) rfl
  have hKc := hK.sub (tys' := []) [] rfl
  refine cs_v (va_runV (As := [.int 9]) (rest := []) ⟨hx, hb, hml, hown, hts⟩ (c_X9_leaveAll l dC dI h0 m1 m5 m6 m7 m15 m16 m17 m18 m19 m20 m22 m23 m24 m25 m26 m27 m28 m29 m30 m31 m32 m33 m34 m37 m38 m39 m40 m41 m42 m43 m44 m45 m46 9 H.size) (cwV 1 hts gX9_next_X9_leaveAll rfl rfl rfl (by decide +kernel) ⟨Nat.le_of_ble_eq_true rfl, Nat.le_of_ble_eq_true rfl⟩) ⟨c_blind, va_recv hKc hPc (ci := 9) (q0 := 0) rfl rfl, c_pre hPc hKc hDc hN⟩ rfl rfl hl.1 rfl (lv_room (Nat.le_of_ble_eq_true rfl)) dX9_next_57 ⟨Nat.le_of_ble_eq_true rfl, Nat.le_of_ble_eq_true rfl⟩) (fun _ => ?_)
  refine lv_iinc (v := 10) (lv' := [(1, .int 10), (0, .ref h0)]) hx hb dX9_next_60 hl (k := 0) rfl (by decide) (by decide) rfl (fun ls hl => ?_)
  refine lv_goto (tgt := 49) hx hb dX9_next_63 (by decide) ?_
  refine lv_iload_n hx hb dX9_next_49 rfl (lv_at hl 0 rfl) ?_
  refine lv_bipush (v := 12) hx hb dX9_next_50 (by decide) ?_
  refine lv_icmp_ge (tgt := 66) hx hb dX9_next_52 (by decide) (fun c_13 => by first | exact absurd c_13 (by decide) | exact absurd (by decide) c_13) (fun _ => ?_)
  refine lv_aload_n hx hb dX9_next_55 rfl (lv_at hl 1 rfl) ?_
  refine lv_iload_n hx hb dX9_next_56 rfl (lv_at hl 0 rfl) ?_
  have hPc := hP.sub (ws' := [(h0, .inr (9, [.int 0, .ref m1, .int 0, .int 0, .int 0, .ref m5, .ref m6, .ref m7, .int 0, .int 0, .int 0, .int 0, .int 0, .int 0, .long 0, .ref m15, .ref m16, .ref m17, .ref m18, .ref m19, .ref m20, .int 0, .ref m22, .ref m23, .ref m24, .ref m25, .ref m26, .ref m27, .ref m28, .ref m29, .ref m30, .ref m31, .ref m32, .ref m33, .ref m34, .int 0, .int 0, .ref m37, .ref m38, .ref m39, .ref m40, .ref m41, .ref m42, .ref m43, .ref m44, .ref m45, .ref m46]))]) [0] rfl
  have hDc := hD.sub (ws' := [(h0, .inr (9, [.int 0, .ref m1, .int 0, .int 0, .int 0, .ref m5, .ref m6, .ref m7, .int 0, .int 0, .int 0, .int 0, .int 0, .int 0, .long 0, .ref m15, .ref m16, .ref m17, .ref m18, .ref m19, .ref m20, .int 0, .ref m22, .ref m23, .ref m24, .ref m25, .ref m26, .ref m27, .ref m28, .ref m29, .ref m30, .ref m31, .ref m32, .ref m33, .ref m34, .int 0, .int 0, .ref m37, .ref m38, .ref m39, .ref m40, .ref m41, .ref m42, .ref m43, .ref m44, .ref m45, .ref m46]))]) [0] (by decide) rfl
  have hKc := hK.sub (tys' := []) [] rfl
  refine cs_v (va_runV (As := [.int 10]) (rest := []) ⟨hx, hb, hml, hown, hts⟩ (c_X9_leaveAll l dC dI h0 m1 m5 m6 m7 m15 m16 m17 m18 m19 m20 m22 m23 m24 m25 m26 m27 m28 m29 m30 m31 m32 m33 m34 m37 m38 m39 m40 m41 m42 m43 m44 m45 m46 10 H.size) (cwV 1 hts gX9_next_X9_leaveAll rfl rfl rfl (by decide +kernel) ⟨Nat.le_of_ble_eq_true rfl, Nat.le_of_ble_eq_true rfl⟩) ⟨c_blind, va_recv hKc hPc (ci := 9) (q0 := 0) rfl rfl, c_pre hPc hKc hDc hN⟩ rfl rfl hl.1 rfl (lv_room (Nat.le_of_ble_eq_true rfl)) dX9_next_57 ⟨Nat.le_of_ble_eq_true rfl, Nat.le_of_ble_eq_true rfl⟩) (fun _ => ?_)
  refine lv_iinc (v := 11) (lv' := [(1, .int 11), (0, .ref h0)]) hx hb dX9_next_60 hl (k := 0) rfl (by decide) (by decide) rfl (fun ls hl => ?_)
  refine lv_goto (tgt := 49) hx hb dX9_next_63 (by decide) ?_
  refine lv_iload_n hx hb dX9_next_49 rfl (lv_at hl 0 rfl) ?_
  refine lv_bipush (v := 12) hx hb dX9_next_50 (by decide) ?_
  refine lv_icmp_ge (tgt := 66) hx hb dX9_next_52 (by decide) (fun c_14 => by first | exact absurd c_14 (by decide) | exact absurd (by decide) c_14) (fun _ => ?_)
  refine lv_aload_n hx hb dX9_next_55 rfl (lv_at hl 1 rfl) ?_
  refine lv_iload_n hx hb dX9_next_56 rfl (lv_at hl 0 rfl) ?_
  have hPc := hP.sub (ws' := [(h0, .inr (9, [.int 0, .ref m1, .int 0, .int 0, .int 0, .ref m5, .ref m6, .ref m7, .int 0, .int 0, .int 0, .int 0, .int 0, .int 0, .long 0, .ref m15, .ref m16, .ref m17, .ref m18, .ref m19, .ref m20, .int 0, .ref m22, .ref m23, .ref m24, .ref m25, .ref m26, .ref m27, .ref m28, .ref m29, .ref m30, .ref m31, .ref m32, .ref m33, .ref m34, .int 0, .int 0, .ref m37, .ref m38, .ref m39, .ref m40, .ref m41, .ref m42, .ref m43, .ref m44, .ref m45, .ref m46]))]) [0] rfl
  have hDc := hD.sub (ws' := [(h0, .inr (9, [.int 0, .ref m1, .int 0, .int 0, .int 0, .ref m5, .ref m6, .ref m7, .int 0, .int 0, .int 0, .int 0, .int 0, .int 0, .long 0, .ref m15, .ref m16, .ref m17, .ref m18, .ref m19, .ref m20, .int 0, .ref m22, .ref m23, .ref m24, .ref m25, .ref m26, .ref m27, .ref m28, .ref m29, .ref m30, .ref m31, .ref m32, .ref m33, .ref m34, .int 0, .int 0, .ref m37, .ref m38, .ref m39, .ref m40, .ref m41, .ref m42, .ref m43, .ref m44, .ref m45, .ref m46]))]) [0] (by decide) rfl
  have hKc := hK.sub (tys' := []) [] rfl
  refine cs_v (va_runV (As := [.int 11]) (rest := []) ⟨hx, hb, hml, hown, hts⟩ (c_X9_leaveAll l dC dI h0 m1 m5 m6 m7 m15 m16 m17 m18 m19 m20 m22 m23 m24 m25 m26 m27 m28 m29 m30 m31 m32 m33 m34 m37 m38 m39 m40 m41 m42 m43 m44 m45 m46 11 H.size) (cwV 1 hts gX9_next_X9_leaveAll rfl rfl rfl (by decide +kernel) ⟨Nat.le_of_ble_eq_true rfl, Nat.le_of_ble_eq_true rfl⟩) ⟨c_blind, va_recv hKc hPc (ci := 9) (q0 := 0) rfl rfl, c_pre hPc hKc hDc hN⟩ rfl rfl hl.1 rfl (lv_room (Nat.le_of_ble_eq_true rfl)) dX9_next_57 ⟨Nat.le_of_ble_eq_true rfl, Nat.le_of_ble_eq_true rfl⟩) (fun _ => ?_)
  refine lv_iinc (v := 12) (lv' := [(1, .int 12), (0, .ref h0)]) hx hb dX9_next_60 hl (k := 0) rfl (by decide) (by decide) rfl (fun ls hl => ?_)
  refine lv_goto (tgt := 49) hx hb dX9_next_63 (by decide) ?_
  refine lv_iload_n hx hb dX9_next_49 rfl (lv_at hl 0 rfl) ?_
  refine lv_bipush (v := 12) hx hb dX9_next_50 (by decide) ?_
  refine lv_icmp_ge (tgt := 66) hx hb dX9_next_52 (by decide) (fun _ => ?_) (fun c_15 => by first | exact absurd c_15 (by decide) | exact absurd (by decide) c_15)
  refine lv_aload_n hx hb dX9_next_66 rfl (lv_at hl 1 rfl) ?_
  refine lv_dup hx hb dX9_next_67 rfl ?_
  refine va_get (D := (dC, dI)) (ci := 9) (v := .int 0) (C := RX9) (T := TX9) (N := 47) hx hb hts hin9 hown hK hP 0 rfl rfl 13 (by decide) (hts (.fieldLink RX9 217 "YamRidersModel" "hour" "I") (by decide +kernel)) (fun _ h9 => h9) rfl dX9_next_68 ?_
  refine lv_iconst (v := 1) hx hb dX9_next_71 (by decide) ?_
  refine lv_iadd hx hb dX9_next_72 ?_
  refine lv_topi (fun y_16 ey_16 => ?_)
  obtain rfl : y_16 = 1 := ey_16.trans (by decide)
  refine va_put (D := (dC, dI)) (ci := 9) (v := .int 1) (ty := (tyX9 13)) (C := RX9) (T := TX9) (N := 47) hx hb hts hin9 tyX9 tyX9_ok nmX9 hown hK hP hD hS 0 rfl rfl 13 (by decide) (hts (.fieldLink RX9 217 "YamRidersModel" "hour" "I") (by decide +kernel)) (fun _ h9 => h9) rfl (by decide +kernel) rfl rfl (Nat.le_of_ble_eq_true rfl) dX9_next_73 (fun H locs hP hD hS => ?_)
  have hP : va_P (dC, dI) vwCl [(h0, .inr (9, [.int 0, .ref m1, .int 0, .int 0, .int 0, .ref m5, .ref m6, .ref m7, .int 0, .int 0, .int 0, .int 0, .int 0, .int 1, .long 0, .ref m15, .ref m16, .ref m17, .ref m18, .ref m19, .ref m20, .int 0, .ref m22, .ref m23, .ref m24, .ref m25, .ref m26, .ref m27, .ref m28, .ref m29, .ref m30, .ref m31, .ref m32, .ref m33, .ref m34, .int 0, .int 0, .ref m37, .ref m38, .ref m39, .ref m40, .ref m41, .ref m42, .ref m43, .ref m44, .ref m45, .ref m46]))] H := hP
  have hD : va_D A [(h0, .inr (9, [.int 0, .ref m1, .int 0, .int 0, .int 0, .ref m5, .ref m6, .ref m7, .int 0, .int 0, .int 0, .int 0, .int 0, .int 1, .long 0, .ref m15, .ref m16, .ref m17, .ref m18, .ref m19, .ref m20, .int 0, .ref m22, .ref m23, .ref m24, .ref m25, .ref m26, .ref m27, .ref m28, .ref m29, .ref m30, .ref m31, .ref m32, .ref m33, .ref m34, .int 0, .int 0, .ref m37, .ref m38, .ref m39, .ref m40, .ref m41, .ref m42, .ref m43, .ref m44, .ref m45, .ref m46]))] := hD
  refine lv_iconst (v := 0) hx hb dX9_next_76 (by decide) ?_
  refine lv_istore_n (lv' := [(1, .int 0), (0, .ref h0)]) hx hb dX9_next_77 rfl hl (by decide) rfl (fun ls hl => ?_)
  refine lv_iload_n hx hb dX9_next_78 rfl (lv_at hl 0 rfl) ?_
  refine lv_aload_n hx hb dX9_next_79 rfl (lv_at hl 1 rfl) ?_
  refine va_get (D := (dC, dI)) (ci := 9) (v := .int 0) (C := RX9) (T := TX9) (N := 47) hx hb hts hin9 hown hK hP 0 rfl rfl 36 (by decide) (hts (.fieldLink RX9 208 "YamRidersModel" "riders" "I") (by decide +kernel)) (fun _ h9 => h9) rfl dX9_next_80 ?_
  refine lv_icmp_ge (tgt := 129) hx hb dX9_next_83 (by decide) (fun _ => ?_) (fun c_17 => by first | exact absurd c_17 (by decide) | exact absurd (by decide) c_17)
  refine lv_aload_n hx hb dX9_next_129 rfl (lv_at hl 1 rfl) ?_
  refine va_get (D := (dC, dI)) (ci := 9) (v := .int 1) (C := RX9) (T := TX9) (N := 47) hx hb hts hin9 hown hK hP 0 rfl rfl 13 (by decide) (hts (.fieldLink RX9 217 "YamRidersModel" "hour" "I") (by decide +kernel)) (fun _ h9 => h9) rfl dX9_next_130 ?_
  have hP9 := hP.sub (ws' := []) [] rfl
  have hD9 := hD.sub (ws' := []) [] (by decide) rfl
  have hK9 := hK.sub (tys' := []) [] rfl
  refine W.widen (k := 0) (n := 0) (Nat.le_of_ble_eq_true rfl) (Nat.le_of_ble_eq_true rfl) ?_
  exact W.iret (v := 1) hx hb hr (fun t9 ht hW => ⟨⟨_, (), rfl, rfl, by rw [ht]; exact hP9, va_K.moved hW.alike hK9, hD9⟩, hS.F ht⟩) hS.2.2 dX9_next_133

set_option maxHeartbeats 4000000 in
set_option maxRecDepth 100000 in
theorem c_X9_peek (l : Launch) (dC : Nat → ClassId) (dI : Nat → Nat → Nat) (h0 : Nat) (m1 : Nat) (m5 : Nat) (m6 : Nat) (m7 : Nat) (m15 : Nat) (m16 : Nat) (m17 : Nat) (m18 : Nat) (m19 : Nat) (m20 : Nat) (m22 : Nat) (m23 : Nat) (m24 : Nat) (m25 : Nat) (m26 : Nat) (m27 : Nat) (m28 : Nat) (m29 : Nat) (m30 : Nat) (m31 : Nat) (m32 : Nat) (m33 : Nat) (m34 : Nat) (m37 : Nat) (m38 : Nat) (m39 : Nat) (m40 : Nat) (m41 : Nat) (m42 : Nat) (m43 : Nat) (m44 : Nat) (m45 : Nat) (m46 : Nat) (sz : Nat) : Met l yX9_peek wsX9_peek ({ frames := 0, cells := 0, slots := 0, locals := 0 }) (va_Pc [.ref h0] (cP dC dI [(h0, .inr (9, [.int 0, .ref m1, .int 0, .int 0, .int 0, .ref m5, .ref m6, .ref m7, .int 0, .int 0, .int 0, .int 0, .int 0, .int 0, .long 0, .ref m15, .ref m16, .ref m17, .ref m18, .ref m19, .ref m20, .int 0, .ref m22, .ref m23, .ref m24, .ref m25, .ref m26, .ref m27, .ref m28, .ref m29, .ref m30, .ref m31, .ref m32, .ref m33, .ref m34, .int 0, .int 0, .ref m37, .ref m38, .ref m39, .ref m40, .ref m41, .ref m42, .ref m43, .ref m44, .ref m45, .ref m46]))] [] sz)) (vp_Si (fun r => r = (-1))) 0 0 (fun _ => False) := by
  refine Met.ofW (cc := cX9_peek) (maxL := 1) (ret := (some .int)) (by decide) rfl ?_
  intro p e s m args below meth c s₁ B hml hv
  obtain ⟨rfl, hsz, hP, hK, hD0, hN⟩ := hv
  have hx := B.exec
  have hb := B.bytes
  have hr := B.returns
  have hts := atoms_spec (ws := wsX9_peek) B.pre
  have hown : s.vm.findClass RX9 = some m.cls := findClass_of_methodNamed B.named
  have hlocks := B.notSynchronized
  subst hsz
  have hin9 : ∀ w ∈ u_ws RX9 TX9 47, w ∈ wsX9_peek := by decide +kernel
  have hD := hD0
  have hP : va_P (dC, dI) vwCl [(h0, .inr (9, [.int 0, .ref m1, .int 0, .int 0, .int 0, .ref m5, .ref m6, .ref m7, .int 0, .int 0, .int 0, .int 0, .int 0, .int 0, .long 0, .ref m15, .ref m16, .ref m17, .ref m18, .ref m19, .ref m20, .int 0, .ref m22, .ref m23, .ref m24, .ref m25, .ref m26, .ref m27, .ref m28, .ref m29, .ref m30, .ref m31, .ref m32, .ref m33, .ref m34, .int 0, .int 0, .ref m37, .ref m38, .ref m39, .ref m40, .ref m41, .ref m42, .ref m43, .ref m44, .ref m45, .ref m46]))] s.heap := hP
  have hl := lv_entry ([.ref h0]) (n := 1) (Nat.le_of_ble_eq_true rfl)
  rw [lg_entry_eq]
  generalize (lg_sl ([.ref h0]) ++ List.replicate (1 - (lg_sl ([.ref h0])).length) Slot.unset).toArray = ls at hl ⊢
  have hl : lv_has ls 1 [(0, .ref h0)] := hl
  refine lv_aload_n hx hb dX9_peek_0 rfl (lv_at hl 0 rfl) ?_
  refine va_get (D := (dC, dI)) (ci := 9) (v := .int 0) (C := RX9) (T := TX9) (N := 47) hx hb hts hin9 hown hK hP 0 rfl rfl 4 (by decide) (hts (.fieldLink RX9 125 "YamRidersModel" "p" "I") (by decide +kernel)) (fun _ h9 => h9) rfl dX9_peek_1 ?_
  refine lv_aload_n hx hb dX9_peek_4 rfl (lv_at hl 0 rfl) ?_
  refine va_get (D := (dC, dI)) (ci := 9) (v := .int 0) (C := RX9) (T := TX9) (N := 47) hx hb hts hin9 hown hK hP 0 rfl rfl 3 (by decide) (hts (.fieldLink RX9 122 "YamRidersModel" "size" "I") (by decide +kernel)) (fun _ h9 => h9) rfl dX9_peek_5 ?_
  refine lv_icmp_ge (tgt := 27) hx hb dX9_peek_8 (by decide) (fun _ => ?_) (fun c_1 => by first | exact absurd c_1 (by decide) | exact absurd (by decide) c_1)
  refine lv_iconst (v := (-1)) hx hb dX9_peek_27 (by decide) ?_
  exact W.iret (v := (-1)) hx hb hr (fun t9 ht hW => ⟨_, rfl, rfl, ht⟩) (fun q h => nomatch h) dX9_peek_28

set_option maxHeartbeats 4000000 in
set_option maxRecDepth 100000 in
theorem c_X9_next0 (l : Launch) (dC : Nat → ClassId) (dI : Nat → Nat → Nat) (h0 : Nat) (m1 : Nat) (m5 : Nat) (m6 : Nat) (m7 : Nat) (m15 : Nat) (m16 : Nat) (m17 : Nat) (m18 : Nat) (m19 : Nat) (m20 : Nat) (m22 : Nat) (m23 : Nat) (m24 : Nat) (m25 : Nat) (m26 : Nat) (m27 : Nat) (m28 : Nat) (m29 : Nat) (m30 : Nat) (m31 : Nat) (m32 : Nat) (m33 : Nat) (m34 : Nat) (m37 : Nat) (m38 : Nat) (m39 : Nat) (m40 : Nat) (m41 : Nat) (m42 : Nat) (m43 : Nat) (m44 : Nat) (m45 : Nat) (m46 : Nat) (sz : Nat) : Met l yX9_next0 wsX9_next0 ({ frames := 1, cells := 0, slots := 0, locals := 20 }) (va_Pc [.ref h0] (cP dC dI [(h0, .inr (9, [.int 0, .ref m1, .int 0, .int 0, .int 0, .ref m5, .ref m6, .ref m7, .int 0, .int 0, .int 0, .int 0, .int 0, .int 0, .long 0, .ref m15, .ref m16, .ref m17, .ref m18, .ref m19, .ref m20, .int 0, .ref m22, .ref m23, .ref m24, .ref m25, .ref m26, .ref m27, .ref m28, .ref m29, .ref m30, .ref m31, .ref m32, .ref m33, .ref m34, .int 0, .int 0, .ref m37, .ref m38, .ref m39, .ref m40, .ref m41, .ref m42, .ref m43, .ref m44, .ref m45, .ref m46]))] [] sz)) (va_Qv (fun (_ : Unit) => True) (fun (_ : Unit) t9 => cQ dC dI [(h0, .inr (9, [.int 0, .ref m1, .int 0, .int 0, .int 0, .ref m5, .ref m6, .ref m7, .int 0, .int 0, .int 0, .int 0, .int 0, .int 0, .long 0, .ref m15, .ref m16, .ref m17, .ref m18, .ref m19, .ref m20, .int 0, .ref m22, .ref m23, .ref m24, .ref m25, .ref m26, .ref m27, .ref m28, .ref m29, .ref m30, .ref m31, .ref m32, .ref m33, .ref m34, .int 0, .int 0, .ref m37, .ref m38, .ref m39, .ref m40, .ref m41, .ref m42, .ref m43, .ref m44, .ref m45, .ref m46]))] [] (va_A [(h0, .inr (9, [.int 0, .ref m1, .int 0, .int 0, .int 0, .ref m5, .ref m6, .ref m7, .int 0, .int 0, .int 0, .int 0, .int 0, .int 0, .long 0, .ref m15, .ref m16, .ref m17, .ref m18, .ref m19, .ref m20, .int 0, .ref m22, .ref m23, .ref m24, .ref m25, .ref m26, .ref m27, .ref m28, .ref m29, .ref m30, .ref m31, .ref m32, .ref m33, .ref m34, .int 0, .int 0, .ref m37, .ref m38, .ref m39, .ref m40, .ref m41, .ref m42, .ref m43, .ref m44, .ref m45, .ref m46]))] sz) t9) (va_A [(h0, .inr (9, [.int 0, .ref m1, .int 0, .int 0, .int 0, .ref m5, .ref m6, .ref m7, .int 0, .int 0, .int 0, .int 0, .int 0, .int 0, .long 0, .ref m15, .ref m16, .ref m17, .ref m18, .ref m19, .ref m20, .int 0, .ref m22, .ref m23, .ref m24, .ref m25, .ref m26, .ref m27, .ref m28, .ref m29, .ref m30, .ref m31, .ref m32, .ref m33, .ref m34, .int 0, .int 0, .ref m37, .ref m38, .ref m39, .ref m40, .ref m41, .ref m42, .ref m43, .ref m44, .ref m45, .ref m46]))] sz)) 0 0 (va_A [(h0, .inr (9, [.int 0, .ref m1, .int 0, .int 0, .int 0, .ref m5, .ref m6, .ref m7, .int 0, .int 0, .int 0, .int 0, .int 0, .int 0, .long 0, .ref m15, .ref m16, .ref m17, .ref m18, .ref m19, .ref m20, .int 0, .ref m22, .ref m23, .ref m24, .ref m25, .ref m26, .ref m27, .ref m28, .ref m29, .ref m30, .ref m31, .ref m32, .ref m33, .ref m34, .int 0, .int 0, .ref m37, .ref m38, .ref m39, .ref m40, .ref m41, .ref m42, .ref m43, .ref m44, .ref m45, .ref m46]))] sz) := by
  refine Met.ofW (cc := cX9_next0) (maxL := 5) (ret := none) (by decide) rfl ?_
  intro p e s m args below meth c s₁ B hml hv
  obtain ⟨rfl, hsz, hP, hK, hD0, hN⟩ := hv
  have hx := B.exec
  have hb := B.bytes
  have hr := B.returns
  have hts := atoms_spec (ws := wsX9_next0) B.pre
  have hown : s.vm.findClass RX9 = some m.cls := findClass_of_methodNamed B.named
  have hlocks := B.notSynchronized
  subst hsz
  have hin9 : ∀ w ∈ u_ws RX9 TX9 47, w ∈ wsX9_next0 := by decide +kernel
  have hD := hD0.self (sz := s.heap.size)
  generalize hAe : va_A [(h0, .inr (9, [.int 0, .ref m1, .int 0, .int 0, .int 0, .ref m5, .ref m6, .ref m7, .int 0, .int 0, .int 0, .int 0, .int 0, .int 0, .long 0, .ref m15, .ref m16, .ref m17, .ref m18, .ref m19, .ref m20, .int 0, .ref m22, .ref m23, .ref m24, .ref m25, .ref m26, .ref m27, .ref m28, .ref m29, .ref m30, .ref m31, .ref m32, .ref m33, .ref m34, .int 0, .int 0, .ref m37, .ref m38, .ref m39, .ref m40, .ref m41, .ref m42, .ref m43, .ref m44, .ref m45, .ref m46]))] s.heap.size = A at hD ⊢
  have hA : ∀ q : Nat, s.heap.size ≤ q → A q := fun q h => by rw [← hAe]; exact Or.inr h
  have hS : va_S A s.heap s.heap [] := va_S.rf
  have hP : va_P (dC, dI) vwCl [(h0, .inr (9, [.int 0, .ref m1, .int 0, .int 0, .int 0, .ref m5, .ref m6, .ref m7, .int 0, .int 0, .int 0, .int 0, .int 0, .int 0, .long 0, .ref m15, .ref m16, .ref m17, .ref m18, .ref m19, .ref m20, .int 0, .ref m22, .ref m23, .ref m24, .ref m25, .ref m26, .ref m27, .ref m28, .ref m29, .ref m30, .ref m31, .ref m32, .ref m33, .ref m34, .int 0, .int 0, .ref m37, .ref m38, .ref m39, .ref m40, .ref m41, .ref m42, .ref m43, .ref m44, .ref m45, .ref m46]))] s.heap := hP
  have hl := lv_entry ([.ref h0]) (n := 5) (Nat.le_of_ble_eq_true rfl)
  rw [lg_entry_eq]
  generalize (lg_sl ([.ref h0]) ++ List.replicate (5 - (lg_sl ([.ref h0])).length) Slot.unset).toArray = ls at hl ⊢
  have hl : lv_has ls 5 [(0, .ref h0)] := hl
  refine lv_aload_n hx hb dX9_next0_0 rfl (lv_at hl 0 rfl) ?_
  have hPc := hP.sub (ws' := [(h0, .inr (9, [.int 0, .ref m1, .int 0, .int 0, .int 0, .ref m5, .ref m6, .ref m7, .int 0, .int 0, .int 0, .int 0, .int 0, .int 0, .long 0, .ref m15, .ref m16, .ref m17, .ref m18, .ref m19, .ref m20, .int 0, .ref m22, .ref m23, .ref m24, .ref m25, .ref m26, .ref m27, .ref m28, .ref m29, .ref m30, .ref m31, .ref m32, .ref m33, .ref m34, .int 0, .int 0, .ref m37, .ref m38, .ref m39, .ref m40, .ref m41, .ref m42, .ref m43, .ref m44, .ref m45, .ref m46]))]) [0] rfl
  have hDc := hD.sub (ws' := [(h0, .inr (9, [.int 0, .ref m1, .int 0, .int 0, .int 0, .ref m5, .ref m6, .ref m7, .int 0, .int 0, .int 0, .int 0, .int 0, .int 0, .long 0, .ref m15, .ref m16, .ref m17, .ref m18, .ref m19, .ref m20, .int 0, .ref m22, .ref m23, .ref m24, .ref m25, .ref m26, .ref m27, .ref m28, .ref m29, .ref m30, .ref m31, .ref m32, .ref m33, .ref m34, .int 0, .int 0, .ref m37, .ref m38, .ref m39, .ref m40, .ref m41, .ref m42, .ref m43, .ref m44, .ref m45, .ref m46]))]) [0] (by decide) rfl
  have hKc := hK.sub (tys' := []) [] rfl
  refine cs_i (va_runV (As := []) (rest := []) ⟨hx, hb, hml, hown, hts⟩ (c_X9_peek l dC dI h0 m1 m5 m6 m7 m15 m16 m17 m18 m19 m20 m22 m23 m24 m25 m26 m27 m28 m29 m30 m31 m32 m33 m34 m37 m38 m39 m40 m41 m42 m43 m44 m45 m46 s.heap.size) (cwV 0 hts gX9_next0_X9_peek rfl rfl rfl (by decide +kernel) ⟨Nat.le_of_ble_eq_true rfl, Nat.le_of_ble_eq_true rfl⟩) ⟨c_blind, va_recv hKc hPc (ci := 9) (q0 := 0) rfl rfl, c_pre hPc hKc hDc hN⟩ rfl rfl hl.1 rfl (lv_room (Nat.le_of_ble_eq_true rfl)) dX9_next0_1 ⟨Nat.le_of_ble_eq_true rfl, Nat.le_of_ble_eq_true rfl⟩) (fun r_1 hr_1 => ?_)
  subst hr_1
  refine lv_bipush (v := 32) hx hb dX9_next0_4 (by decide) ?_
  refine lv_icmp_eq (tgt := 18) hx hb dX9_next0_6 (by decide) (fun c_2 => by first | exact absurd c_2 (by decide) | exact absurd (by decide) c_2) (fun _ => ?_)
  refine lv_aload_n hx hb dX9_next0_9 rfl (lv_at hl 0 rfl) ?_
  have hPc := hP.sub (ws' := [(h0, .inr (9, [.int 0, .ref m1, .int 0, .int 0, .int 0, .ref m5, .ref m6, .ref m7, .int 0, .int 0, .int 0, .int 0, .int 0, .int 0, .long 0, .ref m15, .ref m16, .ref m17, .ref m18, .ref m19, .ref m20, .int 0, .ref m22, .ref m23, .ref m24, .ref m25, .ref m26, .ref m27, .ref m28, .ref m29, .ref m30, .ref m31, .ref m32, .ref m33, .ref m34, .int 0, .int 0, .ref m37, .ref m38, .ref m39, .ref m40, .ref m41, .ref m42, .ref m43, .ref m44, .ref m45, .ref m46]))]) [0] rfl
  have hDc := hD.sub (ws' := [(h0, .inr (9, [.int 0, .ref m1, .int 0, .int 0, .int 0, .ref m5, .ref m6, .ref m7, .int 0, .int 0, .int 0, .int 0, .int 0, .int 0, .long 0, .ref m15, .ref m16, .ref m17, .ref m18, .ref m19, .ref m20, .int 0, .ref m22, .ref m23, .ref m24, .ref m25, .ref m26, .ref m27, .ref m28, .ref m29, .ref m30, .ref m31, .ref m32, .ref m33, .ref m34, .int 0, .int 0, .ref m37, .ref m38, .ref m39, .ref m40, .ref m41, .ref m42, .ref m43, .ref m44, .ref m45, .ref m46]))]) [0] (by decide) rfl
  have hKc := hK.sub (tys' := []) [] rfl
  refine cs_i (va_runV (As := []) (rest := []) ⟨hx, hb, hml, hown, hts⟩ (c_X9_peek l dC dI h0 m1 m5 m6 m7 m15 m16 m17 m18 m19 m20 m22 m23 m24 m25 m26 m27 m28 m29 m30 m31 m32 m33 m34 m37 m38 m39 m40 m41 m42 m43 m44 m45 m46 s.heap.size) (cwV 0 hts gX9_next0_X9_peek rfl rfl rfl (by decide +kernel) ⟨Nat.le_of_ble_eq_true rfl, Nat.le_of_ble_eq_true rfl⟩) ⟨c_blind, va_recv hKc hPc (ci := 9) (q0 := 0) rfl rfl, c_pre hPc hKc hDc hN⟩ rfl rfl hl.1 rfl (lv_room (Nat.le_of_ble_eq_true rfl)) dX9_next0_10 ⟨Nat.le_of_ble_eq_true rfl, Nat.le_of_ble_eq_true rfl⟩) (fun r_3 hr_3 => ?_)
  subst hr_3
  refine lv_bipush (v := 10) hx hb dX9_next0_13 (by decide) ?_
  refine lv_icmp_ne (tgt := 31) hx hb dX9_next0_15 (by decide) (fun _ => ?_) (fun c_4 => by first | exact absurd c_4 (by decide) | exact absurd (by decide) c_4)
  refine lv_aload_n hx hb dX9_next0_31 rfl (lv_at hl 0 rfl) ?_
  refine lv_aload_n hx hb dX9_next0_32 rfl (lv_at hl 0 rfl) ?_
  refine va_get (D := (dC, dI)) (ci := 9) (v := .int 0) (C := RX9) (T := TX9) (N := 47) hx hb hts hin9 hown hK hP 0 rfl rfl 4 (by decide) (hts (.fieldLink RX9 125 "YamRidersModel" "p" "I") (by decide +kernel)) (fun _ h9 => h9) rfl dX9_next0_33 ?_
  refine va_put (D := (dC, dI)) (ci := 9) (v := .int 0) (ty := (tyX9 9)) (C := RX9) (T := TX9) (N := 47) hx hb hts hin9 tyX9 tyX9_ok nmX9 hown hK hP hD hS 0 rfl rfl 9 (by decide) (hts (.fieldLink RX9 132 "YamRidersModel" "at" "I") (by decide +kernel)) (fun _ h9 => h9) rfl (by decide +kernel) rfl rfl (Nat.le_of_ble_eq_true rfl) dX9_next0_36 (fun H locs hP hD hS => ?_)
  have hP : va_P (dC, dI) vwCl [(h0, .inr (9, [.int 0, .ref m1, .int 0, .int 0, .int 0, .ref m5, .ref m6, .ref m7, .int 0, .int 0, .int 0, .int 0, .int 0, .int 0, .long 0, .ref m15, .ref m16, .ref m17, .ref m18, .ref m19, .ref m20, .int 0, .ref m22, .ref m23, .ref m24, .ref m25, .ref m26, .ref m27, .ref m28, .ref m29, .ref m30, .ref m31, .ref m32, .ref m33, .ref m34, .int 0, .int 0, .ref m37, .ref m38, .ref m39, .ref m40, .ref m41, .ref m42, .ref m43, .ref m44, .ref m45, .ref m46]))] H := hP
  have hD : va_D A [(h0, .inr (9, [.int 0, .ref m1, .int 0, .int 0, .int 0, .ref m5, .ref m6, .ref m7, .int 0, .int 0, .int 0, .int 0, .int 0, .int 0, .long 0, .ref m15, .ref m16, .ref m17, .ref m18, .ref m19, .ref m20, .int 0, .ref m22, .ref m23, .ref m24, .ref m25, .ref m26, .ref m27, .ref m28, .ref m29, .ref m30, .ref m31, .ref m32, .ref m33, .ref m34, .int 0, .int 0, .ref m37, .ref m38, .ref m39, .ref m40, .ref m41, .ref m42, .ref m43, .ref m44, .ref m45, .ref m46]))] := hD
  refine lv_aload_n hx hb dX9_next0_39 rfl (lv_at hl 0 rfl) ?_
  have hPc := hP.sub (ws' := [(h0, .inr (9, [.int 0, .ref m1, .int 0, .int 0, .int 0, .ref m5, .ref m6, .ref m7, .int 0, .int 0, .int 0, .int 0, .int 0, .int 0, .long 0, .ref m15, .ref m16, .ref m17, .ref m18, .ref m19, .ref m20, .int 0, .ref m22, .ref m23, .ref m24, .ref m25, .ref m26, .ref m27, .ref m28, .ref m29, .ref m30, .ref m31, .ref m32, .ref m33, .ref m34, .int 0, .int 0, .ref m37, .ref m38, .ref m39, .ref m40, .ref m41, .ref m42, .ref m43, .ref m44, .ref m45, .ref m46]))]) [0] rfl
  have hDc := hD.sub (ws' := [(h0, .inr (9, [.int 0, .ref m1, .int 0, .int 0, .int 0, .ref m5, .ref m6, .ref m7, .int 0, .int 0, .int 0, .int 0, .int 0, .int 0, .long 0, .ref m15, .ref m16, .ref m17, .ref m18, .ref m19, .ref m20, .int 0, .ref m22, .ref m23, .ref m24, .ref m25, .ref m26, .ref m27, .ref m28, .ref m29, .ref m30, .ref m31, .ref m32, .ref m33, .ref m34, .int 0, .int 0, .ref m37, .ref m38, .ref m39, .ref m40, .ref m41, .ref m42, .ref m43, .ref m44, .ref m45, .ref m46]))]) [0] (by decide) rfl
  have hKc := hK.sub (tys' := []) [] rfl
  refine cs_i (va_runV (As := []) (rest := []) ⟨hx, hb, hml, hown, hts⟩ (c_X9_peek l dC dI h0 m1 m5 m6 m7 m15 m16 m17 m18 m19 m20 m22 m23 m24 m25 m26 m27 m28 m29 m30 m31 m32 m33 m34 m37 m38 m39 m40 m41 m42 m43 m44 m45 m46 H.size) (cwV 0 hts gX9_next0_X9_peek rfl rfl rfl (by decide +kernel) ⟨Nat.le_of_ble_eq_true rfl, Nat.le_of_ble_eq_true rfl⟩) ⟨c_blind, va_recv hKc hPc (ci := 9) (q0 := 0) rfl rfl, c_pre hPc hKc hDc hN⟩ rfl rfl hl.1 rfl (lv_room (Nat.le_of_ble_eq_true rfl)) dX9_next0_40 ⟨Nat.le_of_ble_eq_true rfl, Nat.le_of_ble_eq_true rfl⟩) (fun r_5 hr_5 => ?_)
  subst hr_5
  refine lv_istore_n (lv' := [(1, .int (-1)), (0, .ref h0)]) hx hb dX9_next0_43 rfl hl (by decide) rfl (fun ls hl => ?_)
  refine lv_iload_n hx hb dX9_next0_44 rfl (lv_at hl 0 rfl) ?_
  refine lv_if_ge (tgt := 54) hx hb dX9_next0_45 (by decide) (fun c_6 => by first | exact absurd c_6 (by decide) | exact absurd (by decide) c_6) (fun _ => ?_)
  refine lv_aload_n hx hb dX9_next0_48 rfl (lv_at hl 1 rfl) ?_
  refine lv_iconst (v := 0) hx hb dX9_next0_49 (by decide) ?_
  refine va_put (D := (dC, dI)) (ci := 9) (v := .int 0) (ty := (tyX9 8)) (C := RX9) (T := TX9) (N := 47) hx hb hts hin9 tyX9 tyX9_ok nmX9 hown hK hP hD hS 0 rfl rfl 8 (by decide) (hts (.fieldLink RX9 135 "YamRidersModel" "token" "I") (by decide +kernel)) (fun _ h9 => h9) rfl (by decide +kernel) rfl rfl (Nat.le_of_ble_eq_true rfl) dX9_next0_50 (fun H locs hP hD hS => ?_)
  have hP : va_P (dC, dI) vwCl [(h0, .inr (9, [.int 0, .ref m1, .int 0, .int 0, .int 0, .ref m5, .ref m6, .ref m7, .int 0, .int 0, .int 0, .int 0, .int 0, .int 0, .long 0, .ref m15, .ref m16, .ref m17, .ref m18, .ref m19, .ref m20, .int 0, .ref m22, .ref m23, .ref m24, .ref m25, .ref m26, .ref m27, .ref m28, .ref m29, .ref m30, .ref m31, .ref m32, .ref m33, .ref m34, .int 0, .int 0, .ref m37, .ref m38, .ref m39, .ref m40, .ref m41, .ref m42, .ref m43, .ref m44, .ref m45, .ref m46]))] H := hP
  have hD : va_D A [(h0, .inr (9, [.int 0, .ref m1, .int 0, .int 0, .int 0, .ref m5, .ref m6, .ref m7, .int 0, .int 0, .int 0, .int 0, .int 0, .int 0, .long 0, .ref m15, .ref m16, .ref m17, .ref m18, .ref m19, .ref m20, .int 0, .ref m22, .ref m23, .ref m24, .ref m25, .ref m26, .ref m27, .ref m28, .ref m29, .ref m30, .ref m31, .ref m32, .ref m33, .ref m34, .int 0, .int 0, .ref m37, .ref m38, .ref m39, .ref m40, .ref m41, .ref m42, .ref m43, .ref m44, .ref m45, .ref m46]))] := hD
  have hP9 := hP.sub (ws' := [(h0, .inr (9, [.int 0, .ref m1, .int 0, .int 0, .int 0, .ref m5, .ref m6, .ref m7, .int 0, .int 0, .int 0, .int 0, .int 0, .int 0, .long 0, .ref m15, .ref m16, .ref m17, .ref m18, .ref m19, .ref m20, .int 0, .ref m22, .ref m23, .ref m24, .ref m25, .ref m26, .ref m27, .ref m28, .ref m29, .ref m30, .ref m31, .ref m32, .ref m33, .ref m34, .int 0, .int 0, .ref m37, .ref m38, .ref m39, .ref m40, .ref m41, .ref m42, .ref m43, .ref m44, .ref m45, .ref m46]))]) [0] rfl
  have hD9 := hD.sub (ws' := [(h0, .inr (9, [.int 0, .ref m1, .int 0, .int 0, .int 0, .ref m5, .ref m6, .ref m7, .int 0, .int 0, .int 0, .int 0, .int 0, .int 0, .long 0, .ref m15, .ref m16, .ref m17, .ref m18, .ref m19, .ref m20, .int 0, .ref m22, .ref m23, .ref m24, .ref m25, .ref m26, .ref m27, .ref m28, .ref m29, .ref m30, .ref m31, .ref m32, .ref m33, .ref m34, .int 0, .int 0, .ref m37, .ref m38, .ref m39, .ref m40, .ref m41, .ref m42, .ref m43, .ref m44, .ref m45, .ref m46]))]) [0] (by decide) rfl
  have hK9 := hK.sub (tys' := []) [] rfl
  refine W.widen (k := 0) (n := 0) (Nat.le_of_ble_eq_true rfl) (Nat.le_of_ble_eq_true rfl) ?_
  exact W.vret hx hb hr (fun t9 ht hW => ⟨⟨(), rfl, trivial, by rw [ht]; exact hP9, va_K.moved hW.alike hK9, hD9⟩, hS.F ht⟩) hS.2.2 dX9_next0_53

set_option maxHeartbeats 4000000 in
set_option maxRecDepth 100000 in
theorem c_X9_statutes (l : Launch) (dC : Nat → ClassId) (dI : Nat → Nat → Nat) (h0 : Nat) (m1 : Nat) (m5 : Nat) (m6 : Nat) (m7 : Nat) (m15 : Nat) (m16 : Nat) (m17 : Nat) (m18 : Nat) (m19 : Nat) (m20 : Nat) (m22 : Nat) (m23 : Nat) (m24 : Nat) (m25 : Nat) (m26 : Nat) (m27 : Nat) (m28 : Nat) (m29 : Nat) (m30 : Nat) (m31 : Nat) (m32 : Nat) (m33 : Nat) (m34 : Nat) (m37 : Nat) (m38 : Nat) (m39 : Nat) (m40 : Nat) (m41 : Nat) (m42 : Nat) (m43 : Nat) (m44 : Nat) (m45 : Nat) (m46 : Nat) (k_law : ClassId) (k_fresh : ClassId) (k_isTold : ClassId) (f1 : Nat → Int32) (sz : Nat) : Met l yX9_statutes wsX9_statutes ({ frames := 2, cells := 0, slots := 0, locals := 44 }) (va_Pc [.ref h0] (cP dC dI [(h0, .inr (9, [.int 0, .ref m1, .int 0, .int 0, .int 0, .ref m5, .ref m6, .ref m7, .int 0, .int 0, .int 0, .int 0, .int 0, .int 0, .long 0, .ref m15, .ref m16, .ref m17, .ref m18, .ref m19, .ref m20, .int 0, .ref m22, .ref m23, .ref m24, .ref m25, .ref m26, .ref m27, .ref m28, .ref m29, .ref m30, .ref m31, .ref m32, .ref m33, .ref m34, .int 0, .int 0, .ref m37, .ref m38, .ref m39, .ref m40, .ref m41, .ref m42, .ref m43, .ref m44, .ref m45, .ref m46])), (m5, .inl (k_law, 6, .inl f1)), (m6, .inl (k_fresh, 6, .inl (fun _ => 0))), (m7, .inl (k_isTold, 6, .inl (fun _ => 0)))] [(k_law, .int), (k_fresh, .int), (k_isTold, .boolean)] sz)) (va_Qi (fun (r : Int32) (_ : Unit) => r = 0) (fun (_ : Unit) t9 => cQ dC dI [] [] (va_A [(h0, .inr (9, [.int 0, .ref m1, .int 0, .int 0, .int 0, .ref m5, .ref m6, .ref m7, .int 0, .int 0, .int 0, .int 0, .int 0, .int 0, .long 0, .ref m15, .ref m16, .ref m17, .ref m18, .ref m19, .ref m20, .int 0, .ref m22, .ref m23, .ref m24, .ref m25, .ref m26, .ref m27, .ref m28, .ref m29, .ref m30, .ref m31, .ref m32, .ref m33, .ref m34, .int 0, .int 0, .ref m37, .ref m38, .ref m39, .ref m40, .ref m41, .ref m42, .ref m43, .ref m44, .ref m45, .ref m46])), (m5, .inl (k_law, 6, .inl f1)), (m6, .inl (k_fresh, 6, .inl (fun _ => 0))), (m7, .inl (k_isTold, 6, .inl (fun _ => 0)))] sz) t9) (va_A [(h0, .inr (9, [.int 0, .ref m1, .int 0, .int 0, .int 0, .ref m5, .ref m6, .ref m7, .int 0, .int 0, .int 0, .int 0, .int 0, .int 0, .long 0, .ref m15, .ref m16, .ref m17, .ref m18, .ref m19, .ref m20, .int 0, .ref m22, .ref m23, .ref m24, .ref m25, .ref m26, .ref m27, .ref m28, .ref m29, .ref m30, .ref m31, .ref m32, .ref m33, .ref m34, .int 0, .int 0, .ref m37, .ref m38, .ref m39, .ref m40, .ref m41, .ref m42, .ref m43, .ref m44, .ref m45, .ref m46])), (m5, .inl (k_law, 6, .inl f1)), (m6, .inl (k_fresh, 6, .inl (fun _ => 0))), (m7, .inl (k_isTold, 6, .inl (fun _ => 0)))] sz)) 0 0 (va_A [(h0, .inr (9, [.int 0, .ref m1, .int 0, .int 0, .int 0, .ref m5, .ref m6, .ref m7, .int 0, .int 0, .int 0, .int 0, .int 0, .int 0, .long 0, .ref m15, .ref m16, .ref m17, .ref m18, .ref m19, .ref m20, .int 0, .ref m22, .ref m23, .ref m24, .ref m25, .ref m26, .ref m27, .ref m28, .ref m29, .ref m30, .ref m31, .ref m32, .ref m33, .ref m34, .int 0, .int 0, .ref m37, .ref m38, .ref m39, .ref m40, .ref m41, .ref m42, .ref m43, .ref m44, .ref m45, .ref m46])), (m5, .inl (k_law, 6, .inl f1)), (m6, .inl (k_fresh, 6, .inl (fun _ => 0))), (m7, .inl (k_isTold, 6, .inl (fun _ => 0)))] sz) := by
  refine Met.ofW (cc := cX9_statutes) (maxL := 3) (ret := (some .int)) (by decide) rfl ?_
  intro p e s m args below meth c s₁ B hml hv
  obtain ⟨rfl, hsz, hP, hK, hD0, hN⟩ := hv
  have hx := B.exec
  have hb := B.bytes
  have hr := B.returns
  have hts := atoms_spec (ws := wsX9_statutes) B.pre
  have hown : s.vm.findClass RX9 = some m.cls := findClass_of_methodNamed B.named
  have hlocks := B.notSynchronized
  subst hsz
  have hin9 : ∀ w ∈ u_ws RX9 TX9 47, w ∈ wsX9_statutes := by decide +kernel
  have hD := hD0.self (sz := s.heap.size)
  generalize hAe : va_A [(h0, .inr (9, [.int 0, .ref m1, .int 0, .int 0, .int 0, .ref m5, .ref m6, .ref m7, .int 0, .int 0, .int 0, .int 0, .int 0, .int 0, .long 0, .ref m15, .ref m16, .ref m17, .ref m18, .ref m19, .ref m20, .int 0, .ref m22, .ref m23, .ref m24, .ref m25, .ref m26, .ref m27, .ref m28, .ref m29, .ref m30, .ref m31, .ref m32, .ref m33, .ref m34, .int 0, .int 0, .ref m37, .ref m38, .ref m39, .ref m40, .ref m41, .ref m42, .ref m43, .ref m44, .ref m45, .ref m46])), (m5, .inl (k_law, 6, .inl f1)), (m6, .inl (k_fresh, 6, .inl (fun _ => 0))), (m7, .inl (k_isTold, 6, .inl (fun _ => 0)))] s.heap.size = A at hD ⊢
  have hA : ∀ q : Nat, s.heap.size ≤ q → A q := fun q h => by rw [← hAe]; exact Or.inr h
  have hS : va_S A s.heap s.heap [] := va_S.rf
  have hP : va_P (dC, dI) vwCl [(h0, .inr (9, [.int 0, .ref m1, .int 0, .int 0, .int 0, .ref m5, .ref m6, .ref m7, .int 0, .int 0, .int 0, .int 0, .int 0, .int 0, .long 0, .ref m15, .ref m16, .ref m17, .ref m18, .ref m19, .ref m20, .int 0, .ref m22, .ref m23, .ref m24, .ref m25, .ref m26, .ref m27, .ref m28, .ref m29, .ref m30, .ref m31, .ref m32, .ref m33, .ref m34, .int 0, .int 0, .ref m37, .ref m38, .ref m39, .ref m40, .ref m41, .ref m42, .ref m43, .ref m44, .ref m45, .ref m46])), (m5, .inl (k_law, 6, .inl f1)), (m6, .inl (k_fresh, 6, .inl (fun _ => 0))), (m7, .inl (k_isTold, 6, .inl (fun _ => 0)))] s.heap := hP
  have hl := lv_entry ([.ref h0]) (n := 3) (Nat.le_of_ble_eq_true rfl)
  rw [lg_entry_eq]
  generalize (lg_sl ([.ref h0]) ++ List.replicate (3 - (lg_sl ([.ref h0])).length) Slot.unset).toArray = ls at hl ⊢
  have hl : lv_has ls 3 [(0, .ref h0)] := hl
  refine lv_aload_n hx hb dX9_statutes_0 rfl (lv_at hl 0 rfl) ?_
  refine lv_iconst (v := 0) hx hb dX9_statutes_1 (by decide) ?_
  refine va_put (D := (dC, dI)) (ci := 9) (v := .int 0) (ty := (tyX9 0)) (C := RX9) (T := TX9) (N := 47) hx hb hts hin9 tyX9 tyX9_ok nmX9 hown hK hP hD hS 0 rfl rfl 0 (by decide) (hts (.fieldLink RX9 111 "YamRidersModel" "thrown" "I") (by decide +kernel)) (fun _ h9 => h9) rfl (by decide +kernel) rfl rfl (Nat.le_of_ble_eq_true rfl) dX9_statutes_2 (fun H locs hP hD hS => ?_)
  have hP : va_P (dC, dI) vwCl [(h0, .inr (9, [.int 0, .ref m1, .int 0, .int 0, .int 0, .ref m5, .ref m6, .ref m7, .int 0, .int 0, .int 0, .int 0, .int 0, .int 0, .long 0, .ref m15, .ref m16, .ref m17, .ref m18, .ref m19, .ref m20, .int 0, .ref m22, .ref m23, .ref m24, .ref m25, .ref m26, .ref m27, .ref m28, .ref m29, .ref m30, .ref m31, .ref m32, .ref m33, .ref m34, .int 0, .int 0, .ref m37, .ref m38, .ref m39, .ref m40, .ref m41, .ref m42, .ref m43, .ref m44, .ref m45, .ref m46])), (m5, .inl (k_law, 6, .inl f1)), (m6, .inl (k_fresh, 6, .inl (fun _ => 0))), (m7, .inl (k_isTold, 6, .inl (fun _ => 0)))] H := hP
  have hD : va_D A [(h0, .inr (9, [.int 0, .ref m1, .int 0, .int 0, .int 0, .ref m5, .ref m6, .ref m7, .int 0, .int 0, .int 0, .int 0, .int 0, .int 0, .long 0, .ref m15, .ref m16, .ref m17, .ref m18, .ref m19, .ref m20, .int 0, .ref m22, .ref m23, .ref m24, .ref m25, .ref m26, .ref m27, .ref m28, .ref m29, .ref m30, .ref m31, .ref m32, .ref m33, .ref m34, .int 0, .int 0, .ref m37, .ref m38, .ref m39, .ref m40, .ref m41, .ref m42, .ref m43, .ref m44, .ref m45, .ref m46])), (m5, .inl (k_law, 6, .inl f1)), (m6, .inl (k_fresh, 6, .inl (fun _ => 0))), (m7, .inl (k_isTold, 6, .inl (fun _ => 0)))] := hD
  refine lv_aload_n hx hb dX9_statutes_5 rfl (lv_at hl 0 rfl) ?_
  have hPc := hP.sub (ws' := [(h0, .inr (9, [.int 0, .ref m1, .int 0, .int 0, .int 0, .ref m5, .ref m6, .ref m7, .int 0, .int 0, .int 0, .int 0, .int 0, .int 0, .long 0, .ref m15, .ref m16, .ref m17, .ref m18, .ref m19, .ref m20, .int 0, .ref m22, .ref m23, .ref m24, .ref m25, .ref m26, .ref m27, .ref m28, .ref m29, .ref m30, .ref m31, .ref m32, .ref m33, .ref m34, .int 0, .int 0, .ref m37, .ref m38, .ref m39, .ref m40, .ref m41, .ref m42, .ref m43, .ref m44, .ref m45, .ref m46]))]) [0] rfl
  have hDc := hD.sub (ws' := [(h0, .inr (9, [.int 0, .ref m1, .int 0, .int 0, .int 0, .ref m5, .ref m6, .ref m7, .int 0, .int 0, .int 0, .int 0, .int 0, .int 0, .long 0, .ref m15, .ref m16, .ref m17, .ref m18, .ref m19, .ref m20, .int 0, .ref m22, .ref m23, .ref m24, .ref m25, .ref m26, .ref m27, .ref m28, .ref m29, .ref m30, .ref m31, .ref m32, .ref m33, .ref m34, .int 0, .int 0, .ref m37, .ref m38, .ref m39, .ref m40, .ref m41, .ref m42, .ref m43, .ref m44, .ref m45, .ref m46]))]) [0] (by decide) rfl
  have hKc := hK.sub (tys' := []) [] rfl
  have hFc := va_free (wc := [(h0, .inr (9, [.int 0, .ref m1, .int 0, .int 0, .int 0, .ref m5, .ref m6, .ref m7, .int 0, .int 0, .int 0, .int 0, .int 0, .int 0, .long 0, .ref m15, .ref m16, .ref m17, .ref m18, .ref m19, .ref m20, .int 0, .ref m22, .ref m23, .ref m24, .ref m25, .ref m26, .ref m27, .ref m28, .ref m29, .ref m30, .ref m31, .ref m32, .ref m33, .ref m34, .int 0, .int 0, .ref m37, .ref m38, .ref m39, .ref m40, .ref m41, .ref m42, .ref m43, .ref m44, .ref m45, .ref m46]))]) hD hS hA [0] rfl
  refine va_callv (va_runV (As := []) (rest := []) ⟨hx, hb, hml, hown, hts⟩ (c_X9_taken l dC dI h0 m1 m5 m6 m7 m15 m16 m17 m18 m19 m20 m22 m23 m24 m25 m26 m27 m28 m29 m30 m31 m32 m33 m34 m37 m38 m39 m40 m41 m42 m43 m44 m45 m46 H.size) (cwV 0 hts gX9_statutes_X9_taken rfl rfl rfl (by decide +kernel) ⟨Nat.le_of_ble_eq_true rfl, Nat.le_of_ble_eq_true rfl⟩) ⟨c_blind, va_recv hKc hPc (ci := 9) (q0 := 0) rfl rfl, c_pre hPc hKc hDc hN⟩ rfl rfl hl.1 rfl (lv_room (Nat.le_of_ble_eq_true rfl)) dX9_statutes_6 ⟨Nat.le_of_ble_eq_true rfl, Nat.le_of_ble_eq_true rfl⟩) hS (fun q _ h => hFc q h) hFc (fun u9 t9 H1 locs ht hvm hw hB hz1 hk1 hS => ?_)
  obtain ⟨hP1, hK1, hD1⟩ := hB
  rw [ht] at hP1
  have hK1 := va_K.moved hvm.symm hK1
  obtain ⟨hP, hD⟩ := va_join (wr := [(m5, .inl (k_law, 6, .inl f1)), (m6, .inl (k_fresh, 6, .inl (fun _ => 0))), (m7, .inl (k_isTold, 6, .inl (fun _ => 0)))]) (w1 := [(h0, .inr (9, [.int 0, .ref m1, .int 0, .int 0, .int 0, .ref m5, .ref m6, .ref m7, .int 0, .int 0, .int 0, .int 0, .int 0, .int 0, .long 0, .ref m15, .ref m16, .ref m17, .ref m18, .ref m19, .ref m20, .int 0, .ref m22, .ref m23, .ref m24, .ref m25, .ref m26, .ref m27, .ref m28, .ref m29, .ref m30, .ref m31, .ref m32, .ref m33, .ref m34, .int 0, .int 0, .ref m37, .ref m38, .ref m39, .ref m40, .ref m41, .ref m42, .ref m43, .ref m44, .ref m45, .ref m46]))]) hP hD [0] [1, 2, 3] rfl rfl (by decide) (by decide) hk1 hFc hP1 hD1
  have hK := (hK.sub (tys' := [(k_law, .int), (k_fresh, .int), (k_isTold, .boolean)]) [0, 1, 2] rfl).app hK1
  generalize H1 = H at hP hS ⊢
  have hK : va_K (dC, dI) vwCl [(k_law, .int), (k_fresh, .int), (k_isTold, .boolean)] s := hK
  have hP : va_P (dC, dI) vwCl [(m5, .inl (k_law, 6, .inl f1)), (m6, .inl (k_fresh, 6, .inl (fun _ => 0))), (m7, .inl (k_isTold, 6, .inl (fun _ => 0))), (h0, .inr (9, [.int 0, .ref m1, .int 0, .int 0, .int 0, .ref m5, .ref m6, .ref m7, .int 0, .int 0, .int 0, .int 0, .int 0, .int 0, .long 0, .ref m15, .ref m16, .ref m17, .ref m18, .ref m19, .ref m20, .int 0, .ref m22, .ref m23, .ref m24, .ref m25, .ref m26, .ref m27, .ref m28, .ref m29, .ref m30, .ref m31, .ref m32, .ref m33, .ref m34, .int 0, .int 0, .ref m37, .ref m38, .ref m39, .ref m40, .ref m41, .ref m42, .ref m43, .ref m44, .ref m45, .ref m46]))] H := hP
  have hD : va_D A [(m5, .inl (k_law, 6, .inl f1)), (m6, .inl (k_fresh, 6, .inl (fun _ => 0))), (m7, .inl (k_isTold, 6, .inl (fun _ => 0))), (h0, .inr (9, [.int 0, .ref m1, .int 0, .int 0, .int 0, .ref m5, .ref m6, .ref m7, .int 0, .int 0, .int 0, .int 0, .int 0, .int 0, .long 0, .ref m15, .ref m16, .ref m17, .ref m18, .ref m19, .ref m20, .int 0, .ref m22, .ref m23, .ref m24, .ref m25, .ref m26, .ref m27, .ref m28, .ref m29, .ref m30, .ref m31, .ref m32, .ref m33, .ref m34, .int 0, .int 0, .ref m37, .ref m38, .ref m39, .ref m40, .ref m41, .ref m42, .ref m43, .ref m44, .ref m45, .ref m46]))] := hD
  refine W.widen (k := 0) (n := 0) (Nat.le_of_ble_eq_true rfl) (Nat.le_of_ble_eq_true rfl) ?_
  refine lv_aload_n hx hb dX9_statutes_9 rfl (lv_at hl 0 rfl) ?_
  refine lv_iconst (v := 0) hx hb dX9_statutes_10 (by decide) ?_
  refine va_put (D := (dC, dI)) (ci := 9) (v := .int 0) (ty := (tyX9 11)) (C := RX9) (T := TX9) (N := 47) hx hb hts hin9 tyX9 tyX9_ok nmX9 hown hK hP hD hS 3 rfl rfl 11 (by decide) (hts (.fieldLink RX9 152 "YamRidersModel" "fault" "I") (by decide +kernel)) (fun _ h9 => h9) rfl (by decide +kernel) rfl rfl (Nat.le_of_ble_eq_true rfl) dX9_statutes_11 (fun H locs hP hD hS => ?_)
  have hP : va_P (dC, dI) vwCl [(m5, .inl (k_law, 6, .inl f1)), (m6, .inl (k_fresh, 6, .inl (fun _ => 0))), (m7, .inl (k_isTold, 6, .inl (fun _ => 0))), (h0, .inr (9, [.int 0, .ref m1, .int 0, .int 0, .int 0, .ref m5, .ref m6, .ref m7, .int 0, .int 0, .int 0, .int 0, .int 0, .int 0, .long 0, .ref m15, .ref m16, .ref m17, .ref m18, .ref m19, .ref m20, .int 0, .ref m22, .ref m23, .ref m24, .ref m25, .ref m26, .ref m27, .ref m28, .ref m29, .ref m30, .ref m31, .ref m32, .ref m33, .ref m34, .int 0, .int 0, .ref m37, .ref m38, .ref m39, .ref m40, .ref m41, .ref m42, .ref m43, .ref m44, .ref m45, .ref m46]))] H := hP
  have hD : va_D A [(m5, .inl (k_law, 6, .inl f1)), (m6, .inl (k_fresh, 6, .inl (fun _ => 0))), (m7, .inl (k_isTold, 6, .inl (fun _ => 0))), (h0, .inr (9, [.int 0, .ref m1, .int 0, .int 0, .int 0, .ref m5, .ref m6, .ref m7, .int 0, .int 0, .int 0, .int 0, .int 0, .int 0, .long 0, .ref m15, .ref m16, .ref m17, .ref m18, .ref m19, .ref m20, .int 0, .ref m22, .ref m23, .ref m24, .ref m25, .ref m26, .ref m27, .ref m28, .ref m29, .ref m30, .ref m31, .ref m32, .ref m33, .ref m34, .int 0, .int 0, .ref m37, .ref m38, .ref m39, .ref m40, .ref m41, .ref m42, .ref m43, .ref m44, .ref m45, .ref m46]))] := hD
  refine lv_iconst (v := 0) hx hb dX9_statutes_14 (by decide) ?_
  refine lv_istore_n (lv' := [(1, .int 0), (0, .ref h0)]) hx hb dX9_statutes_15 rfl hl (by decide) rfl (fun ls hl => ?_)
  refine lv_iload_n hx hb dX9_statutes_16 rfl (lv_at hl 0 rfl) ?_
  refine lv_bipush (v := 6) hx hb dX9_statutes_17 (by decide) ?_
  refine lv_icmp_ge (tgt := 68) hx hb dX9_statutes_19 (by decide) (fun c_2 => by first | exact absurd c_2 (by decide) | exact absurd (by decide) c_2) (fun _ => ?_)
  refine lv_aload_n hx hb dX9_statutes_22 rfl (lv_at hl 1 rfl) ?_
  refine va_get (D := (dC, dI)) (ci := 9) (v := .ref m7) (C := RX9) (T := TX9) (N := 47) hx hb hts hin9 hown hK hP 3 rfl rfl 7 (by decide) (hts (.fieldLink RX9 20 "YamRidersModel" "isTold" "[Z") (by decide +kernel)) (fun _ h9 => h9) rfl dX9_statutes_23 ?_
  refine lv_iload_n hx hb dX9_statutes_26 rfl (lv_at hl 0 rfl) ?_
  refine lv_iconst (v := 0) hx hb dX9_statutes_27 (by decide) ?_
  refine va_zast hx hb hK hP hD hS 2 2 rfl rfl (by unfold vp_in; decide) dX9_statutes_28 (fun H locs hP hD hS => ?_)
  have hP : va_P (dC, dI) vwCl [(m5, .inl (k_law, 6, .inl f1)), (m6, .inl (k_fresh, 6, .inl (fun _ => 0))), (m7, .inl (k_isTold, 6, .inl (upd (fun _ => 0) (0 : Int32).toNatClampNeg (vp_nar .boolean 0)))), (h0, .inr (9, [.int 0, .ref m1, .int 0, .int 0, .int 0, .ref m5, .ref m6, .ref m7, .int 0, .int 0, .int 0, .int 0, .int 0, .int 0, .long 0, .ref m15, .ref m16, .ref m17, .ref m18, .ref m19, .ref m20, .int 0, .ref m22, .ref m23, .ref m24, .ref m25, .ref m26, .ref m27, .ref m28, .ref m29, .ref m30, .ref m31, .ref m32, .ref m33, .ref m34, .int 0, .int 0, .ref m37, .ref m38, .ref m39, .ref m40, .ref m41, .ref m42, .ref m43, .ref m44, .ref m45, .ref m46]))] H := hP
  have hD : va_D A [(m5, .inl (k_law, 6, .inl f1)), (m6, .inl (k_fresh, 6, .inl (fun _ => 0))), (m7, .inl (k_isTold, 6, .inl (upd (fun _ => 0) (0 : Int32).toNatClampNeg (vp_nar .boolean 0)))), (h0, .inr (9, [.int 0, .ref m1, .int 0, .int 0, .int 0, .ref m5, .ref m6, .ref m7, .int 0, .int 0, .int 0, .int 0, .int 0, .int 0, .long 0, .ref m15, .ref m16, .ref m17, .ref m18, .ref m19, .ref m20, .int 0, .ref m22, .ref m23, .ref m24, .ref m25, .ref m26, .ref m27, .ref m28, .ref m29, .ref m30, .ref m31, .ref m32, .ref m33, .ref m34, .int 0, .int 0, .ref m37, .ref m38, .ref m39, .ref m40, .ref m41, .ref m42, .ref m43, .ref m44, .ref m45, .ref m46]))] := hD
  obtain ⟨f_3, ef_3⟩ : ∃ w9 : Nat → Int32, w9 = upd (fun _ => 0) (0 : Int32).toNatClampNeg (vp_nar .boolean 0) := ⟨_, rfl⟩
  rw [← ef_3] at hP hD
  refine lv_aload_n hx hb dX9_statutes_29 rfl (lv_at hl 1 rfl) ?_
  refine va_get (D := (dC, dI)) (ci := 9) (v := .ref m6) (C := RX9) (T := TX9) (N := 47) hx hb hts hin9 hown hK hP 3 rfl rfl 6 (by decide) (hts (.fieldLink RX9 17 "YamRidersModel" "fresh" "[I") (by decide +kernel)) (fun _ h9 => h9) rfl dX9_statutes_30 ?_
  refine lv_iload_n hx hb dX9_statutes_33 rfl (lv_at hl 0 rfl) ?_
  refine lv_iload_n hx hb dX9_statutes_34 rfl (lv_at hl 0 rfl) ?_
  refine lv_if_ne (tgt := 42) hx hb dX9_statutes_35 (by decide) (fun c_4 => by first | exact absurd c_4 (by decide) | exact absurd (by decide) c_4) (fun _ => ?_)
  refine lv_iconst (v := 2) hx hb dX9_statutes_38 (by decide) ?_
  refine lv_goto (tgt := 61) hx hb dX9_statutes_39 (by decide) ?_
  refine va_iast hx hb hK hP hD hS 1 1 rfl rfl (by unfold vp_in; decide) dX9_statutes_61 (fun H locs hP hD hS => ?_)
  have hP : va_P (dC, dI) vwCl [(m5, .inl (k_law, 6, .inl f1)), (m6, .inl (k_fresh, 6, .inl (upd (fun _ => 0) (0 : Int32).toNatClampNeg 2))), (m7, .inl (k_isTold, 6, .inl f_3)), (h0, .inr (9, [.int 0, .ref m1, .int 0, .int 0, .int 0, .ref m5, .ref m6, .ref m7, .int 0, .int 0, .int 0, .int 0, .int 0, .int 0, .long 0, .ref m15, .ref m16, .ref m17, .ref m18, .ref m19, .ref m20, .int 0, .ref m22, .ref m23, .ref m24, .ref m25, .ref m26, .ref m27, .ref m28, .ref m29, .ref m30, .ref m31, .ref m32, .ref m33, .ref m34, .int 0, .int 0, .ref m37, .ref m38, .ref m39, .ref m40, .ref m41, .ref m42, .ref m43, .ref m44, .ref m45, .ref m46]))] H := hP
  have hD : va_D A [(m5, .inl (k_law, 6, .inl f1)), (m6, .inl (k_fresh, 6, .inl (upd (fun _ => 0) (0 : Int32).toNatClampNeg 2))), (m7, .inl (k_isTold, 6, .inl f_3)), (h0, .inr (9, [.int 0, .ref m1, .int 0, .int 0, .int 0, .ref m5, .ref m6, .ref m7, .int 0, .int 0, .int 0, .int 0, .int 0, .int 0, .long 0, .ref m15, .ref m16, .ref m17, .ref m18, .ref m19, .ref m20, .int 0, .ref m22, .ref m23, .ref m24, .ref m25, .ref m26, .ref m27, .ref m28, .ref m29, .ref m30, .ref m31, .ref m32, .ref m33, .ref m34, .int 0, .int 0, .ref m37, .ref m38, .ref m39, .ref m40, .ref m41, .ref m42, .ref m43, .ref m44, .ref m45, .ref m46]))] := hD
  obtain ⟨f_5, ef_5⟩ : ∃ w9 : Nat → Int32, w9 = upd (fun _ => 0) (0 : Int32).toNatClampNeg 2 := ⟨_, rfl⟩
  rw [← ef_5] at hP hD
  refine lv_iinc (v := 1) (lv' := [(1, .int 1), (0, .ref h0)]) hx hb dX9_statutes_62 hl (k := 0) rfl (by decide) (by decide) rfl (fun ls hl => ?_)
  refine lv_goto (tgt := 16) hx hb dX9_statutes_65 (by decide) ?_
  refine lv_iload_n hx hb dX9_statutes_16 rfl (lv_at hl 0 rfl) ?_
  refine lv_bipush (v := 6) hx hb dX9_statutes_17 (by decide) ?_
  refine lv_icmp_ge (tgt := 68) hx hb dX9_statutes_19 (by decide) (fun c_6 => by first | exact absurd c_6 (by decide) | exact absurd (by decide) c_6) (fun _ => ?_)
  refine lv_aload_n hx hb dX9_statutes_22 rfl (lv_at hl 1 rfl) ?_
  refine va_get (D := (dC, dI)) (ci := 9) (v := .ref m7) (C := RX9) (T := TX9) (N := 47) hx hb hts hin9 hown hK hP 3 rfl rfl 7 (by decide) (hts (.fieldLink RX9 20 "YamRidersModel" "isTold" "[Z") (by decide +kernel)) (fun _ h9 => h9) rfl dX9_statutes_23 ?_
  refine lv_iload_n hx hb dX9_statutes_26 rfl (lv_at hl 0 rfl) ?_
  refine lv_iconst (v := 0) hx hb dX9_statutes_27 (by decide) ?_
  refine va_zast hx hb hK hP hD hS 2 2 rfl rfl (by unfold vp_in; decide) dX9_statutes_28 (fun H locs hP hD hS => ?_)
  have hP : va_P (dC, dI) vwCl [(m5, .inl (k_law, 6, .inl f1)), (m6, .inl (k_fresh, 6, .inl f_5)), (m7, .inl (k_isTold, 6, .inl (upd f_3 (1 : Int32).toNatClampNeg (vp_nar .boolean 0)))), (h0, .inr (9, [.int 0, .ref m1, .int 0, .int 0, .int 0, .ref m5, .ref m6, .ref m7, .int 0, .int 0, .int 0, .int 0, .int 0, .int 0, .long 0, .ref m15, .ref m16, .ref m17, .ref m18, .ref m19, .ref m20, .int 0, .ref m22, .ref m23, .ref m24, .ref m25, .ref m26, .ref m27, .ref m28, .ref m29, .ref m30, .ref m31, .ref m32, .ref m33, .ref m34, .int 0, .int 0, .ref m37, .ref m38, .ref m39, .ref m40, .ref m41, .ref m42, .ref m43, .ref m44, .ref m45, .ref m46]))] H := hP
  have hD : va_D A [(m5, .inl (k_law, 6, .inl f1)), (m6, .inl (k_fresh, 6, .inl f_5)), (m7, .inl (k_isTold, 6, .inl (upd f_3 (1 : Int32).toNatClampNeg (vp_nar .boolean 0)))), (h0, .inr (9, [.int 0, .ref m1, .int 0, .int 0, .int 0, .ref m5, .ref m6, .ref m7, .int 0, .int 0, .int 0, .int 0, .int 0, .int 0, .long 0, .ref m15, .ref m16, .ref m17, .ref m18, .ref m19, .ref m20, .int 0, .ref m22, .ref m23, .ref m24, .ref m25, .ref m26, .ref m27, .ref m28, .ref m29, .ref m30, .ref m31, .ref m32, .ref m33, .ref m34, .int 0, .int 0, .ref m37, .ref m38, .ref m39, .ref m40, .ref m41, .ref m42, .ref m43, .ref m44, .ref m45, .ref m46]))] := hD
  obtain ⟨f_7, ef_7⟩ : ∃ w9 : Nat → Int32, w9 = upd f_3 (1 : Int32).toNatClampNeg (vp_nar .boolean 0) := ⟨_, rfl⟩
  rw [← ef_7] at hP hD
  refine lv_aload_n hx hb dX9_statutes_29 rfl (lv_at hl 1 rfl) ?_
  refine va_get (D := (dC, dI)) (ci := 9) (v := .ref m6) (C := RX9) (T := TX9) (N := 47) hx hb hts hin9 hown hK hP 3 rfl rfl 6 (by decide) (hts (.fieldLink RX9 17 "YamRidersModel" "fresh" "[I") (by decide +kernel)) (fun _ h9 => h9) rfl dX9_statutes_30 ?_
  refine lv_iload_n hx hb dX9_statutes_33 rfl (lv_at hl 0 rfl) ?_
  refine lv_iload_n hx hb dX9_statutes_34 rfl (lv_at hl 0 rfl) ?_
  refine lv_if_ne (tgt := 42) hx hb dX9_statutes_35 (by decide) (fun _ => ?_) (fun c_8 => by first | exact absurd c_8 (by decide) | exact absurd (by decide) c_8)
  refine lv_iload_n hx hb dX9_statutes_42 rfl (lv_at hl 0 rfl) ?_
  refine lv_iconst (v := 1) hx hb dX9_statutes_43 (by decide) ?_
  refine lv_icmp_ne (tgt := 51) hx hb dX9_statutes_44 (by decide) (fun c_9 => by first | exact absurd c_9 (by decide) | exact absurd (by decide) c_9) (fun _ => ?_)
  refine lv_iconst (v := 3) hx hb dX9_statutes_47 (by decide) ?_
  refine lv_goto (tgt := 61) hx hb dX9_statutes_48 (by decide) ?_
  refine va_iast hx hb hK hP hD hS 1 1 rfl rfl (by unfold vp_in; decide) dX9_statutes_61 (fun H locs hP hD hS => ?_)
  have hP : va_P (dC, dI) vwCl [(m5, .inl (k_law, 6, .inl f1)), (m6, .inl (k_fresh, 6, .inl (upd f_5 (1 : Int32).toNatClampNeg 3))), (m7, .inl (k_isTold, 6, .inl f_7)), (h0, .inr (9, [.int 0, .ref m1, .int 0, .int 0, .int 0, .ref m5, .ref m6, .ref m7, .int 0, .int 0, .int 0, .int 0, .int 0, .int 0, .long 0, .ref m15, .ref m16, .ref m17, .ref m18, .ref m19, .ref m20, .int 0, .ref m22, .ref m23, .ref m24, .ref m25, .ref m26, .ref m27, .ref m28, .ref m29, .ref m30, .ref m31, .ref m32, .ref m33, .ref m34, .int 0, .int 0, .ref m37, .ref m38, .ref m39, .ref m40, .ref m41, .ref m42, .ref m43, .ref m44, .ref m45, .ref m46]))] H := hP
  have hD : va_D A [(m5, .inl (k_law, 6, .inl f1)), (m6, .inl (k_fresh, 6, .inl (upd f_5 (1 : Int32).toNatClampNeg 3))), (m7, .inl (k_isTold, 6, .inl f_7)), (h0, .inr (9, [.int 0, .ref m1, .int 0, .int 0, .int 0, .ref m5, .ref m6, .ref m7, .int 0, .int 0, .int 0, .int 0, .int 0, .int 0, .long 0, .ref m15, .ref m16, .ref m17, .ref m18, .ref m19, .ref m20, .int 0, .ref m22, .ref m23, .ref m24, .ref m25, .ref m26, .ref m27, .ref m28, .ref m29, .ref m30, .ref m31, .ref m32, .ref m33, .ref m34, .int 0, .int 0, .ref m37, .ref m38, .ref m39, .ref m40, .ref m41, .ref m42, .ref m43, .ref m44, .ref m45, .ref m46]))] := hD
  obtain ⟨f_10, ef_10⟩ : ∃ w9 : Nat → Int32, w9 = upd f_5 (1 : Int32).toNatClampNeg 3 := ⟨_, rfl⟩
  rw [← ef_10] at hP hD
  refine lv_iinc (v := 2) (lv' := [(1, .int 2), (0, .ref h0)]) hx hb dX9_statutes_62 hl (k := 0) rfl (by decide) (by decide) rfl (fun ls hl => ?_)
  refine lv_goto (tgt := 16) hx hb dX9_statutes_65 (by decide) ?_
  refine lv_iload_n hx hb dX9_statutes_16 rfl (lv_at hl 0 rfl) ?_
  refine lv_bipush (v := 6) hx hb dX9_statutes_17 (by decide) ?_
  refine lv_icmp_ge (tgt := 68) hx hb dX9_statutes_19 (by decide) (fun c_11 => by first | exact absurd c_11 (by decide) | exact absurd (by decide) c_11) (fun _ => ?_)
  refine lv_aload_n hx hb dX9_statutes_22 rfl (lv_at hl 1 rfl) ?_
  refine va_get (D := (dC, dI)) (ci := 9) (v := .ref m7) (C := RX9) (T := TX9) (N := 47) hx hb hts hin9 hown hK hP 3 rfl rfl 7 (by decide) (hts (.fieldLink RX9 20 "YamRidersModel" "isTold" "[Z") (by decide +kernel)) (fun _ h9 => h9) rfl dX9_statutes_23 ?_
  refine lv_iload_n hx hb dX9_statutes_26 rfl (lv_at hl 0 rfl) ?_
  refine lv_iconst (v := 0) hx hb dX9_statutes_27 (by decide) ?_
  refine va_zast hx hb hK hP hD hS 2 2 rfl rfl (by unfold vp_in; decide) dX9_statutes_28 (fun H locs hP hD hS => ?_)
  have hP : va_P (dC, dI) vwCl [(m5, .inl (k_law, 6, .inl f1)), (m6, .inl (k_fresh, 6, .inl f_10)), (m7, .inl (k_isTold, 6, .inl (upd f_7 (2 : Int32).toNatClampNeg (vp_nar .boolean 0)))), (h0, .inr (9, [.int 0, .ref m1, .int 0, .int 0, .int 0, .ref m5, .ref m6, .ref m7, .int 0, .int 0, .int 0, .int 0, .int 0, .int 0, .long 0, .ref m15, .ref m16, .ref m17, .ref m18, .ref m19, .ref m20, .int 0, .ref m22, .ref m23, .ref m24, .ref m25, .ref m26, .ref m27, .ref m28, .ref m29, .ref m30, .ref m31, .ref m32, .ref m33, .ref m34, .int 0, .int 0, .ref m37, .ref m38, .ref m39, .ref m40, .ref m41, .ref m42, .ref m43, .ref m44, .ref m45, .ref m46]))] H := hP
  have hD : va_D A [(m5, .inl (k_law, 6, .inl f1)), (m6, .inl (k_fresh, 6, .inl f_10)), (m7, .inl (k_isTold, 6, .inl (upd f_7 (2 : Int32).toNatClampNeg (vp_nar .boolean 0)))), (h0, .inr (9, [.int 0, .ref m1, .int 0, .int 0, .int 0, .ref m5, .ref m6, .ref m7, .int 0, .int 0, .int 0, .int 0, .int 0, .int 0, .long 0, .ref m15, .ref m16, .ref m17, .ref m18, .ref m19, .ref m20, .int 0, .ref m22, .ref m23, .ref m24, .ref m25, .ref m26, .ref m27, .ref m28, .ref m29, .ref m30, .ref m31, .ref m32, .ref m33, .ref m34, .int 0, .int 0, .ref m37, .ref m38, .ref m39, .ref m40, .ref m41, .ref m42, .ref m43, .ref m44, .ref m45, .ref m46]))] := hD
  obtain ⟨f_12, ef_12⟩ : ∃ w9 : Nat → Int32, w9 = upd f_7 (2 : Int32).toNatClampNeg (vp_nar .boolean 0) := ⟨_, rfl⟩
  rw [← ef_12] at hP hD
  refine lv_aload_n hx hb dX9_statutes_29 rfl (lv_at hl 1 rfl) ?_
  refine va_get (D := (dC, dI)) (ci := 9) (v := .ref m6) (C := RX9) (T := TX9) (N := 47) hx hb hts hin9 hown hK hP 3 rfl rfl 6 (by decide) (hts (.fieldLink RX9 17 "YamRidersModel" "fresh" "[I") (by decide +kernel)) (fun _ h9 => h9) rfl dX9_statutes_30 ?_
  refine lv_iload_n hx hb dX9_statutes_33 rfl (lv_at hl 0 rfl) ?_
  refine lv_iload_n hx hb dX9_statutes_34 rfl (lv_at hl 0 rfl) ?_
  refine lv_if_ne (tgt := 42) hx hb dX9_statutes_35 (by decide) (fun _ => ?_) (fun c_13 => by first | exact absurd c_13 (by decide) | exact absurd (by decide) c_13)
  refine lv_iload_n hx hb dX9_statutes_42 rfl (lv_at hl 0 rfl) ?_
  refine lv_iconst (v := 1) hx hb dX9_statutes_43 (by decide) ?_
  refine lv_icmp_ne (tgt := 51) hx hb dX9_statutes_44 (by decide) (fun _ => ?_) (fun c_14 => by first | exact absurd c_14 (by decide) | exact absurd (by decide) c_14)
  refine lv_iload_n hx hb dX9_statutes_51 rfl (lv_at hl 0 rfl) ?_
  refine lv_iconst (v := 2) hx hb dX9_statutes_52 (by decide) ?_
  refine lv_icmp_ne (tgt := 60) hx hb dX9_statutes_53 (by decide) (fun c_15 => by first | exact absurd c_15 (by decide) | exact absurd (by decide) c_15) (fun _ => ?_)
  refine lv_iconst (v := 1) hx hb dX9_statutes_56 (by decide) ?_
  refine lv_goto (tgt := 61) hx hb dX9_statutes_57 (by decide) ?_
  refine va_iast hx hb hK hP hD hS 1 1 rfl rfl (by unfold vp_in; decide) dX9_statutes_61 (fun H locs hP hD hS => ?_)
  have hP : va_P (dC, dI) vwCl [(m5, .inl (k_law, 6, .inl f1)), (m6, .inl (k_fresh, 6, .inl (upd f_10 (2 : Int32).toNatClampNeg 1))), (m7, .inl (k_isTold, 6, .inl f_12)), (h0, .inr (9, [.int 0, .ref m1, .int 0, .int 0, .int 0, .ref m5, .ref m6, .ref m7, .int 0, .int 0, .int 0, .int 0, .int 0, .int 0, .long 0, .ref m15, .ref m16, .ref m17, .ref m18, .ref m19, .ref m20, .int 0, .ref m22, .ref m23, .ref m24, .ref m25, .ref m26, .ref m27, .ref m28, .ref m29, .ref m30, .ref m31, .ref m32, .ref m33, .ref m34, .int 0, .int 0, .ref m37, .ref m38, .ref m39, .ref m40, .ref m41, .ref m42, .ref m43, .ref m44, .ref m45, .ref m46]))] H := hP
  have hD : va_D A [(m5, .inl (k_law, 6, .inl f1)), (m6, .inl (k_fresh, 6, .inl (upd f_10 (2 : Int32).toNatClampNeg 1))), (m7, .inl (k_isTold, 6, .inl f_12)), (h0, .inr (9, [.int 0, .ref m1, .int 0, .int 0, .int 0, .ref m5, .ref m6, .ref m7, .int 0, .int 0, .int 0, .int 0, .int 0, .int 0, .long 0, .ref m15, .ref m16, .ref m17, .ref m18, .ref m19, .ref m20, .int 0, .ref m22, .ref m23, .ref m24, .ref m25, .ref m26, .ref m27, .ref m28, .ref m29, .ref m30, .ref m31, .ref m32, .ref m33, .ref m34, .int 0, .int 0, .ref m37, .ref m38, .ref m39, .ref m40, .ref m41, .ref m42, .ref m43, .ref m44, .ref m45, .ref m46]))] := hD
  obtain ⟨f_16, ef_16⟩ : ∃ w9 : Nat → Int32, w9 = upd f_10 (2 : Int32).toNatClampNeg 1 := ⟨_, rfl⟩
  rw [← ef_16] at hP hD
  refine lv_iinc (v := 3) (lv' := [(1, .int 3), (0, .ref h0)]) hx hb dX9_statutes_62 hl (k := 0) rfl (by decide) (by decide) rfl (fun ls hl => ?_)
  refine lv_goto (tgt := 16) hx hb dX9_statutes_65 (by decide) ?_
  refine lv_iload_n hx hb dX9_statutes_16 rfl (lv_at hl 0 rfl) ?_
  refine lv_bipush (v := 6) hx hb dX9_statutes_17 (by decide) ?_
  refine lv_icmp_ge (tgt := 68) hx hb dX9_statutes_19 (by decide) (fun c_17 => by first | exact absurd c_17 (by decide) | exact absurd (by decide) c_17) (fun _ => ?_)
  refine lv_aload_n hx hb dX9_statutes_22 rfl (lv_at hl 1 rfl) ?_
  refine va_get (D := (dC, dI)) (ci := 9) (v := .ref m7) (C := RX9) (T := TX9) (N := 47) hx hb hts hin9 hown hK hP 3 rfl rfl 7 (by decide) (hts (.fieldLink RX9 20 "YamRidersModel" "isTold" "[Z") (by decide +kernel)) (fun _ h9 => h9) rfl dX9_statutes_23 ?_
  refine lv_iload_n hx hb dX9_statutes_26 rfl (lv_at hl 0 rfl) ?_
  refine lv_iconst (v := 0) hx hb dX9_statutes_27 (by decide) ?_
  refine va_zast hx hb hK hP hD hS 2 2 rfl rfl (by unfold vp_in; decide) dX9_statutes_28 (fun H locs hP hD hS => ?_)
  have hP : va_P (dC, dI) vwCl [(m5, .inl (k_law, 6, .inl f1)), (m6, .inl (k_fresh, 6, .inl f_16)), (m7, .inl (k_isTold, 6, .inl (upd f_12 (3 : Int32).toNatClampNeg (vp_nar .boolean 0)))), (h0, .inr (9, [.int 0, .ref m1, .int 0, .int 0, .int 0, .ref m5, .ref m6, .ref m7, .int 0, .int 0, .int 0, .int 0, .int 0, .int 0, .long 0, .ref m15, .ref m16, .ref m17, .ref m18, .ref m19, .ref m20, .int 0, .ref m22, .ref m23, .ref m24, .ref m25, .ref m26, .ref m27, .ref m28, .ref m29, .ref m30, .ref m31, .ref m32, .ref m33, .ref m34, .int 0, .int 0, .ref m37, .ref m38, .ref m39, .ref m40, .ref m41, .ref m42, .ref m43, .ref m44, .ref m45, .ref m46]))] H := hP
  have hD : va_D A [(m5, .inl (k_law, 6, .inl f1)), (m6, .inl (k_fresh, 6, .inl f_16)), (m7, .inl (k_isTold, 6, .inl (upd f_12 (3 : Int32).toNatClampNeg (vp_nar .boolean 0)))), (h0, .inr (9, [.int 0, .ref m1, .int 0, .int 0, .int 0, .ref m5, .ref m6, .ref m7, .int 0, .int 0, .int 0, .int 0, .int 0, .int 0, .long 0, .ref m15, .ref m16, .ref m17, .ref m18, .ref m19, .ref m20, .int 0, .ref m22, .ref m23, .ref m24, .ref m25, .ref m26, .ref m27, .ref m28, .ref m29, .ref m30, .ref m31, .ref m32, .ref m33, .ref m34, .int 0, .int 0, .ref m37, .ref m38, .ref m39, .ref m40, .ref m41, .ref m42, .ref m43, .ref m44, .ref m45, .ref m46]))] := hD
  obtain ⟨f_18, ef_18⟩ : ∃ w9 : Nat → Int32, w9 = upd f_12 (3 : Int32).toNatClampNeg (vp_nar .boolean 0) := ⟨_, rfl⟩
  rw [← ef_18] at hP hD
  refine lv_aload_n hx hb dX9_statutes_29 rfl (lv_at hl 1 rfl) ?_
  refine va_get (D := (dC, dI)) (ci := 9) (v := .ref m6) (C := RX9) (T := TX9) (N := 47) hx hb hts hin9 hown hK hP 3 rfl rfl 6 (by decide) (hts (.fieldLink RX9 17 "YamRidersModel" "fresh" "[I") (by decide +kernel)) (fun _ h9 => h9) rfl dX9_statutes_30 ?_
  refine lv_iload_n hx hb dX9_statutes_33 rfl (lv_at hl 0 rfl) ?_
  refine lv_iload_n hx hb dX9_statutes_34 rfl (lv_at hl 0 rfl) ?_
  refine lv_if_ne (tgt := 42) hx hb dX9_statutes_35 (by decide) (fun _ => ?_) (fun c_19 => by first | exact absurd c_19 (by decide) | exact absurd (by decide) c_19)
  refine lv_iload_n hx hb dX9_statutes_42 rfl (lv_at hl 0 rfl) ?_
  refine lv_iconst (v := 1) hx hb dX9_statutes_43 (by decide) ?_
  refine lv_icmp_ne (tgt := 51) hx hb dX9_statutes_44 (by decide) (fun _ => ?_) (fun c_20 => by first | exact absurd c_20 (by decide) | exact absurd (by decide) c_20)
  refine lv_iload_n hx hb dX9_statutes_51 rfl (lv_at hl 0 rfl) ?_
  refine lv_iconst (v := 2) hx hb dX9_statutes_52 (by decide) ?_
  refine lv_icmp_ne (tgt := 60) hx hb dX9_statutes_53 (by decide) (fun _ => ?_) (fun c_21 => by first | exact absurd c_21 (by decide) | exact absurd (by decide) c_21)
  refine lv_iconst (v := 0) hx hb dX9_statutes_60 (by decide) ?_
  refine va_iast hx hb hK hP hD hS 1 1 rfl rfl (by unfold vp_in; decide) dX9_statutes_61 (fun H locs hP hD hS => ?_)
  have hP : va_P (dC, dI) vwCl [(m5, .inl (k_law, 6, .inl f1)), (m6, .inl (k_fresh, 6, .inl (upd f_16 (3 : Int32).toNatClampNeg 0))), (m7, .inl (k_isTold, 6, .inl f_18)), (h0, .inr (9, [.int 0, .ref m1, .int 0, .int 0, .int 0, .ref m5, .ref m6, .ref m7, .int 0, .int 0, .int 0, .int 0, .int 0, .int 0, .long 0, .ref m15, .ref m16, .ref m17, .ref m18, .ref m19, .ref m20, .int 0, .ref m22, .ref m23, .ref m24, .ref m25, .ref m26, .ref m27, .ref m28, .ref m29, .ref m30, .ref m31, .ref m32, .ref m33, .ref m34, .int 0, .int 0, .ref m37, .ref m38, .ref m39, .ref m40, .ref m41, .ref m42, .ref m43, .ref m44, .ref m45, .ref m46]))] H := hP
  have hD : va_D A [(m5, .inl (k_law, 6, .inl f1)), (m6, .inl (k_fresh, 6, .inl (upd f_16 (3 : Int32).toNatClampNeg 0))), (m7, .inl (k_isTold, 6, .inl f_18)), (h0, .inr (9, [.int 0, .ref m1, .int 0, .int 0, .int 0, .ref m5, .ref m6, .ref m7, .int 0, .int 0, .int 0, .int 0, .int 0, .int 0, .long 0, .ref m15, .ref m16, .ref m17, .ref m18, .ref m19, .ref m20, .int 0, .ref m22, .ref m23, .ref m24, .ref m25, .ref m26, .ref m27, .ref m28, .ref m29, .ref m30, .ref m31, .ref m32, .ref m33, .ref m34, .int 0, .int 0, .ref m37, .ref m38, .ref m39, .ref m40, .ref m41, .ref m42, .ref m43, .ref m44, .ref m45, .ref m46]))] := hD
  obtain ⟨f_22, ef_22⟩ : ∃ w9 : Nat → Int32, w9 = upd f_16 (3 : Int32).toNatClampNeg 0 := ⟨_, rfl⟩
  rw [← ef_22] at hP hD
  refine lv_iinc (v := 4) (lv' := [(1, .int 4), (0, .ref h0)]) hx hb dX9_statutes_62 hl (k := 0) rfl (by decide) (by decide) rfl (fun ls hl => ?_)
  refine lv_goto (tgt := 16) hx hb dX9_statutes_65 (by decide) ?_
  refine lv_iload_n hx hb dX9_statutes_16 rfl (lv_at hl 0 rfl) ?_
  refine lv_bipush (v := 6) hx hb dX9_statutes_17 (by decide) ?_
  refine lv_icmp_ge (tgt := 68) hx hb dX9_statutes_19 (by decide) (fun c_23 => by first | exact absurd c_23 (by decide) | exact absurd (by decide) c_23) (fun _ => ?_)
  refine lv_aload_n hx hb dX9_statutes_22 rfl (lv_at hl 1 rfl) ?_
  refine va_get (D := (dC, dI)) (ci := 9) (v := .ref m7) (C := RX9) (T := TX9) (N := 47) hx hb hts hin9 hown hK hP 3 rfl rfl 7 (by decide) (hts (.fieldLink RX9 20 "YamRidersModel" "isTold" "[Z") (by decide +kernel)) (fun _ h9 => h9) rfl dX9_statutes_23 ?_
  refine lv_iload_n hx hb dX9_statutes_26 rfl (lv_at hl 0 rfl) ?_
  refine lv_iconst (v := 0) hx hb dX9_statutes_27 (by decide) ?_
  refine va_zast hx hb hK hP hD hS 2 2 rfl rfl (by unfold vp_in; decide) dX9_statutes_28 (fun H locs hP hD hS => ?_)
  have hP : va_P (dC, dI) vwCl [(m5, .inl (k_law, 6, .inl f1)), (m6, .inl (k_fresh, 6, .inl f_22)), (m7, .inl (k_isTold, 6, .inl (upd f_18 (4 : Int32).toNatClampNeg (vp_nar .boolean 0)))), (h0, .inr (9, [.int 0, .ref m1, .int 0, .int 0, .int 0, .ref m5, .ref m6, .ref m7, .int 0, .int 0, .int 0, .int 0, .int 0, .int 0, .long 0, .ref m15, .ref m16, .ref m17, .ref m18, .ref m19, .ref m20, .int 0, .ref m22, .ref m23, .ref m24, .ref m25, .ref m26, .ref m27, .ref m28, .ref m29, .ref m30, .ref m31, .ref m32, .ref m33, .ref m34, .int 0, .int 0, .ref m37, .ref m38, .ref m39, .ref m40, .ref m41, .ref m42, .ref m43, .ref m44, .ref m45, .ref m46]))] H := hP
  have hD : va_D A [(m5, .inl (k_law, 6, .inl f1)), (m6, .inl (k_fresh, 6, .inl f_22)), (m7, .inl (k_isTold, 6, .inl (upd f_18 (4 : Int32).toNatClampNeg (vp_nar .boolean 0)))), (h0, .inr (9, [.int 0, .ref m1, .int 0, .int 0, .int 0, .ref m5, .ref m6, .ref m7, .int 0, .int 0, .int 0, .int 0, .int 0, .int 0, .long 0, .ref m15, .ref m16, .ref m17, .ref m18, .ref m19, .ref m20, .int 0, .ref m22, .ref m23, .ref m24, .ref m25, .ref m26, .ref m27, .ref m28, .ref m29, .ref m30, .ref m31, .ref m32, .ref m33, .ref m34, .int 0, .int 0, .ref m37, .ref m38, .ref m39, .ref m40, .ref m41, .ref m42, .ref m43, .ref m44, .ref m45, .ref m46]))] := hD
  obtain ⟨f_24, ef_24⟩ : ∃ w9 : Nat → Int32, w9 = upd f_18 (4 : Int32).toNatClampNeg (vp_nar .boolean 0) := ⟨_, rfl⟩
  rw [← ef_24] at hP hD
  refine lv_aload_n hx hb dX9_statutes_29 rfl (lv_at hl 1 rfl) ?_
  refine va_get (D := (dC, dI)) (ci := 9) (v := .ref m6) (C := RX9) (T := TX9) (N := 47) hx hb hts hin9 hown hK hP 3 rfl rfl 6 (by decide) (hts (.fieldLink RX9 17 "YamRidersModel" "fresh" "[I") (by decide +kernel)) (fun _ h9 => h9) rfl dX9_statutes_30 ?_
  refine lv_iload_n hx hb dX9_statutes_33 rfl (lv_at hl 0 rfl) ?_
  refine lv_iload_n hx hb dX9_statutes_34 rfl (lv_at hl 0 rfl) ?_
  refine lv_if_ne (tgt := 42) hx hb dX9_statutes_35 (by decide) (fun _ => ?_) (fun c_25 => by first | exact absurd c_25 (by decide) | exact absurd (by decide) c_25)
  refine lv_iload_n hx hb dX9_statutes_42 rfl (lv_at hl 0 rfl) ?_
  refine lv_iconst (v := 1) hx hb dX9_statutes_43 (by decide) ?_
  refine lv_icmp_ne (tgt := 51) hx hb dX9_statutes_44 (by decide) (fun _ => ?_) (fun c_26 => by first | exact absurd c_26 (by decide) | exact absurd (by decide) c_26)
  refine lv_iload_n hx hb dX9_statutes_51 rfl (lv_at hl 0 rfl) ?_
  refine lv_iconst (v := 2) hx hb dX9_statutes_52 (by decide) ?_
  refine lv_icmp_ne (tgt := 60) hx hb dX9_statutes_53 (by decide) (fun _ => ?_) (fun c_27 => by first | exact absurd c_27 (by decide) | exact absurd (by decide) c_27)
  refine lv_iconst (v := 0) hx hb dX9_statutes_60 (by decide) ?_
  refine va_iast hx hb hK hP hD hS 1 1 rfl rfl (by unfold vp_in; decide) dX9_statutes_61 (fun H locs hP hD hS => ?_)
  have hP : va_P (dC, dI) vwCl [(m5, .inl (k_law, 6, .inl f1)), (m6, .inl (k_fresh, 6, .inl (upd f_22 (4 : Int32).toNatClampNeg 0))), (m7, .inl (k_isTold, 6, .inl f_24)), (h0, .inr (9, [.int 0, .ref m1, .int 0, .int 0, .int 0, .ref m5, .ref m6, .ref m7, .int 0, .int 0, .int 0, .int 0, .int 0, .int 0, .long 0, .ref m15, .ref m16, .ref m17, .ref m18, .ref m19, .ref m20, .int 0, .ref m22, .ref m23, .ref m24, .ref m25, .ref m26, .ref m27, .ref m28, .ref m29, .ref m30, .ref m31, .ref m32, .ref m33, .ref m34, .int 0, .int 0, .ref m37, .ref m38, .ref m39, .ref m40, .ref m41, .ref m42, .ref m43, .ref m44, .ref m45, .ref m46]))] H := hP
  have hD : va_D A [(m5, .inl (k_law, 6, .inl f1)), (m6, .inl (k_fresh, 6, .inl (upd f_22 (4 : Int32).toNatClampNeg 0))), (m7, .inl (k_isTold, 6, .inl f_24)), (h0, .inr (9, [.int 0, .ref m1, .int 0, .int 0, .int 0, .ref m5, .ref m6, .ref m7, .int 0, .int 0, .int 0, .int 0, .int 0, .int 0, .long 0, .ref m15, .ref m16, .ref m17, .ref m18, .ref m19, .ref m20, .int 0, .ref m22, .ref m23, .ref m24, .ref m25, .ref m26, .ref m27, .ref m28, .ref m29, .ref m30, .ref m31, .ref m32, .ref m33, .ref m34, .int 0, .int 0, .ref m37, .ref m38, .ref m39, .ref m40, .ref m41, .ref m42, .ref m43, .ref m44, .ref m45, .ref m46]))] := hD
  obtain ⟨f_28, ef_28⟩ : ∃ w9 : Nat → Int32, w9 = upd f_22 (4 : Int32).toNatClampNeg 0 := ⟨_, rfl⟩
  rw [← ef_28] at hP hD
  refine lv_iinc (v := 5) (lv' := [(1, .int 5), (0, .ref h0)]) hx hb dX9_statutes_62 hl (k := 0) rfl (by decide) (by decide) rfl (fun ls hl => ?_)
  refine lv_goto (tgt := 16) hx hb dX9_statutes_65 (by decide) ?_
  refine lv_iload_n hx hb dX9_statutes_16 rfl (lv_at hl 0 rfl) ?_
  refine lv_bipush (v := 6) hx hb dX9_statutes_17 (by decide) ?_
  refine lv_icmp_ge (tgt := 68) hx hb dX9_statutes_19 (by decide) (fun c_29 => by first | exact absurd c_29 (by decide) | exact absurd (by decide) c_29) (fun _ => ?_)
  refine lv_aload_n hx hb dX9_statutes_22 rfl (lv_at hl 1 rfl) ?_
  refine va_get (D := (dC, dI)) (ci := 9) (v := .ref m7) (C := RX9) (T := TX9) (N := 47) hx hb hts hin9 hown hK hP 3 rfl rfl 7 (by decide) (hts (.fieldLink RX9 20 "YamRidersModel" "isTold" "[Z") (by decide +kernel)) (fun _ h9 => h9) rfl dX9_statutes_23 ?_
  refine lv_iload_n hx hb dX9_statutes_26 rfl (lv_at hl 0 rfl) ?_
  refine lv_iconst (v := 0) hx hb dX9_statutes_27 (by decide) ?_
  refine va_zast hx hb hK hP hD hS 2 2 rfl rfl (by unfold vp_in; decide) dX9_statutes_28 (fun H locs hP hD hS => ?_)
  have hP : va_P (dC, dI) vwCl [(m5, .inl (k_law, 6, .inl f1)), (m6, .inl (k_fresh, 6, .inl f_28)), (m7, .inl (k_isTold, 6, .inl (upd f_24 (5 : Int32).toNatClampNeg (vp_nar .boolean 0)))), (h0, .inr (9, [.int 0, .ref m1, .int 0, .int 0, .int 0, .ref m5, .ref m6, .ref m7, .int 0, .int 0, .int 0, .int 0, .int 0, .int 0, .long 0, .ref m15, .ref m16, .ref m17, .ref m18, .ref m19, .ref m20, .int 0, .ref m22, .ref m23, .ref m24, .ref m25, .ref m26, .ref m27, .ref m28, .ref m29, .ref m30, .ref m31, .ref m32, .ref m33, .ref m34, .int 0, .int 0, .ref m37, .ref m38, .ref m39, .ref m40, .ref m41, .ref m42, .ref m43, .ref m44, .ref m45, .ref m46]))] H := hP
  have hD : va_D A [(m5, .inl (k_law, 6, .inl f1)), (m6, .inl (k_fresh, 6, .inl f_28)), (m7, .inl (k_isTold, 6, .inl (upd f_24 (5 : Int32).toNatClampNeg (vp_nar .boolean 0)))), (h0, .inr (9, [.int 0, .ref m1, .int 0, .int 0, .int 0, .ref m5, .ref m6, .ref m7, .int 0, .int 0, .int 0, .int 0, .int 0, .int 0, .long 0, .ref m15, .ref m16, .ref m17, .ref m18, .ref m19, .ref m20, .int 0, .ref m22, .ref m23, .ref m24, .ref m25, .ref m26, .ref m27, .ref m28, .ref m29, .ref m30, .ref m31, .ref m32, .ref m33, .ref m34, .int 0, .int 0, .ref m37, .ref m38, .ref m39, .ref m40, .ref m41, .ref m42, .ref m43, .ref m44, .ref m45, .ref m46]))] := hD
  obtain ⟨f_30, ef_30⟩ : ∃ w9 : Nat → Int32, w9 = upd f_24 (5 : Int32).toNatClampNeg (vp_nar .boolean 0) := ⟨_, rfl⟩
  rw [← ef_30] at hP hD
  refine lv_aload_n hx hb dX9_statutes_29 rfl (lv_at hl 1 rfl) ?_
  refine va_get (D := (dC, dI)) (ci := 9) (v := .ref m6) (C := RX9) (T := TX9) (N := 47) hx hb hts hin9 hown hK hP 3 rfl rfl 6 (by decide) (hts (.fieldLink RX9 17 "YamRidersModel" "fresh" "[I") (by decide +kernel)) (fun _ h9 => h9) rfl dX9_statutes_30 ?_
  refine lv_iload_n hx hb dX9_statutes_33 rfl (lv_at hl 0 rfl) ?_
  refine lv_iload_n hx hb dX9_statutes_34 rfl (lv_at hl 0 rfl) ?_
  refine lv_if_ne (tgt := 42) hx hb dX9_statutes_35 (by decide) (fun _ => ?_) (fun c_31 => by first | exact absurd c_31 (by decide) | exact absurd (by decide) c_31)
  refine lv_iload_n hx hb dX9_statutes_42 rfl (lv_at hl 0 rfl) ?_
  refine lv_iconst (v := 1) hx hb dX9_statutes_43 (by decide) ?_
  refine lv_icmp_ne (tgt := 51) hx hb dX9_statutes_44 (by decide) (fun _ => ?_) (fun c_32 => by first | exact absurd c_32 (by decide) | exact absurd (by decide) c_32)
  refine lv_iload_n hx hb dX9_statutes_51 rfl (lv_at hl 0 rfl) ?_
  refine lv_iconst (v := 2) hx hb dX9_statutes_52 (by decide) ?_
  refine lv_icmp_ne (tgt := 60) hx hb dX9_statutes_53 (by decide) (fun _ => ?_) (fun c_33 => by first | exact absurd c_33 (by decide) | exact absurd (by decide) c_33)
  refine lv_iconst (v := 0) hx hb dX9_statutes_60 (by decide) ?_
  refine va_iast hx hb hK hP hD hS 1 1 rfl rfl (by unfold vp_in; decide) dX9_statutes_61 (fun H locs hP hD hS => ?_)
  have hP : va_P (dC, dI) vwCl [(m5, .inl (k_law, 6, .inl f1)), (m6, .inl (k_fresh, 6, .inl (upd f_28 (5 : Int32).toNatClampNeg 0))), (m7, .inl (k_isTold, 6, .inl f_30)), (h0, .inr (9, [.int 0, .ref m1, .int 0, .int 0, .int 0, .ref m5, .ref m6, .ref m7, .int 0, .int 0, .int 0, .int 0, .int 0, .int 0, .long 0, .ref m15, .ref m16, .ref m17, .ref m18, .ref m19, .ref m20, .int 0, .ref m22, .ref m23, .ref m24, .ref m25, .ref m26, .ref m27, .ref m28, .ref m29, .ref m30, .ref m31, .ref m32, .ref m33, .ref m34, .int 0, .int 0, .ref m37, .ref m38, .ref m39, .ref m40, .ref m41, .ref m42, .ref m43, .ref m44, .ref m45, .ref m46]))] H := hP
  have hD : va_D A [(m5, .inl (k_law, 6, .inl f1)), (m6, .inl (k_fresh, 6, .inl (upd f_28 (5 : Int32).toNatClampNeg 0))), (m7, .inl (k_isTold, 6, .inl f_30)), (h0, .inr (9, [.int 0, .ref m1, .int 0, .int 0, .int 0, .ref m5, .ref m6, .ref m7, .int 0, .int 0, .int 0, .int 0, .int 0, .int 0, .long 0, .ref m15, .ref m16, .ref m17, .ref m18, .ref m19, .ref m20, .int 0, .ref m22, .ref m23, .ref m24, .ref m25, .ref m26, .ref m27, .ref m28, .ref m29, .ref m30, .ref m31, .ref m32, .ref m33, .ref m34, .int 0, .int 0, .ref m37, .ref m38, .ref m39, .ref m40, .ref m41, .ref m42, .ref m43, .ref m44, .ref m45, .ref m46]))] := hD
  obtain ⟨f_34, ef_34⟩ : ∃ w9 : Nat → Int32, w9 = upd f_28 (5 : Int32).toNatClampNeg 0 := ⟨_, rfl⟩
  rw [← ef_34] at hP hD
  refine lv_iinc (v := 6) (lv' := [(1, .int 6), (0, .ref h0)]) hx hb dX9_statutes_62 hl (k := 0) rfl (by decide) (by decide) rfl (fun ls hl => ?_)
  refine lv_goto (tgt := 16) hx hb dX9_statutes_65 (by decide) ?_
  refine lv_iload_n hx hb dX9_statutes_16 rfl (lv_at hl 0 rfl) ?_
  refine lv_bipush (v := 6) hx hb dX9_statutes_17 (by decide) ?_
  refine lv_icmp_ge (tgt := 68) hx hb dX9_statutes_19 (by decide) (fun _ => ?_) (fun c_35 => by first | exact absurd c_35 (by decide) | exact absurd (by decide) c_35)
  refine lv_iconst (v := 0) hx hb dX9_statutes_68 (by decide) ?_
  refine lv_istore_n (lv' := [(1, .int 0), (0, .ref h0)]) hx hb dX9_statutes_69 rfl hl (by decide) rfl (fun ls hl => ?_)
  refine lv_aload_n hx hb dX9_statutes_70 rfl (lv_at hl 1 rfl) ?_
  have hPc := hP.sub (ws' := [(h0, .inr (9, [.int 0, .ref m1, .int 0, .int 0, .int 0, .ref m5, .ref m6, .ref m7, .int 0, .int 0, .int 0, .int 0, .int 0, .int 0, .long 0, .ref m15, .ref m16, .ref m17, .ref m18, .ref m19, .ref m20, .int 0, .ref m22, .ref m23, .ref m24, .ref m25, .ref m26, .ref m27, .ref m28, .ref m29, .ref m30, .ref m31, .ref m32, .ref m33, .ref m34, .int 0, .int 0, .ref m37, .ref m38, .ref m39, .ref m40, .ref m41, .ref m42, .ref m43, .ref m44, .ref m45, .ref m46]))]) [3] rfl
  have hDc := hD.sub (ws' := [(h0, .inr (9, [.int 0, .ref m1, .int 0, .int 0, .int 0, .ref m5, .ref m6, .ref m7, .int 0, .int 0, .int 0, .int 0, .int 0, .int 0, .long 0, .ref m15, .ref m16, .ref m17, .ref m18, .ref m19, .ref m20, .int 0, .ref m22, .ref m23, .ref m24, .ref m25, .ref m26, .ref m27, .ref m28, .ref m29, .ref m30, .ref m31, .ref m32, .ref m33, .ref m34, .int 0, .int 0, .ref m37, .ref m38, .ref m39, .ref m40, .ref m41, .ref m42, .ref m43, .ref m44, .ref m45, .ref m46]))]) [3] (by decide) rfl
  have hKc := hK.sub (tys' := []) [] rfl
  have hFc := va_free (wc := [(h0, .inr (9, [.int 0, .ref m1, .int 0, .int 0, .int 0, .ref m5, .ref m6, .ref m7, .int 0, .int 0, .int 0, .int 0, .int 0, .int 0, .long 0, .ref m15, .ref m16, .ref m17, .ref m18, .ref m19, .ref m20, .int 0, .ref m22, .ref m23, .ref m24, .ref m25, .ref m26, .ref m27, .ref m28, .ref m29, .ref m30, .ref m31, .ref m32, .ref m33, .ref m34, .int 0, .int 0, .ref m37, .ref m38, .ref m39, .ref m40, .ref m41, .ref m42, .ref m43, .ref m44, .ref m45, .ref m46]))]) hD hS hA [3] rfl
  refine va_callv (va_runV (As := []) (rest := []) ⟨hx, hb, hml, hown, hts⟩ (c_X9_next0 l dC dI h0 m1 m5 m6 m7 m15 m16 m17 m18 m19 m20 m22 m23 m24 m25 m26 m27 m28 m29 m30 m31 m32 m33 m34 m37 m38 m39 m40 m41 m42 m43 m44 m45 m46 H.size) (cwV 0 hts gX9_statutes_X9_next0 rfl rfl rfl (by decide +kernel) ⟨Nat.le_of_ble_eq_true rfl, Nat.le_of_ble_eq_true rfl⟩) ⟨c_blind, va_recv hKc hPc (ci := 9) (q0 := 0) rfl rfl, c_pre hPc hKc hDc hN⟩ rfl rfl hl.1 rfl (lv_room (Nat.le_of_ble_eq_true rfl)) dX9_statutes_71 ⟨Nat.le_of_ble_eq_true rfl, Nat.le_of_ble_eq_true rfl⟩) hS (fun q _ h => hFc q h) hFc (fun u9 t9 H1 locs ht hvm hw hB hz1 hk1 hS => ?_)
  obtain ⟨hP1, hK1, hD1⟩ := hB
  rw [ht] at hP1
  have hK1 := va_K.moved hvm.symm hK1
  obtain ⟨hP, hD⟩ := va_join (wr := [(m5, .inl (k_law, 6, .inl f1)), (m6, .inl (k_fresh, 6, .inl f_34)), (m7, .inl (k_isTold, 6, .inl f_30))]) (w1 := [(h0, .inr (9, [.int 0, .ref m1, .int 0, .int 0, .int 0, .ref m5, .ref m6, .ref m7, .int 0, .int 0, .int 0, .int 0, .int 0, .int 0, .long 0, .ref m15, .ref m16, .ref m17, .ref m18, .ref m19, .ref m20, .int 0, .ref m22, .ref m23, .ref m24, .ref m25, .ref m26, .ref m27, .ref m28, .ref m29, .ref m30, .ref m31, .ref m32, .ref m33, .ref m34, .int 0, .int 0, .ref m37, .ref m38, .ref m39, .ref m40, .ref m41, .ref m42, .ref m43, .ref m44, .ref m45, .ref m46]))]) hP hD [3] [0, 1, 2] rfl rfl (by decide) (by decide) hk1 hFc hP1 hD1
  have hK := (hK.sub (tys' := [(k_law, .int), (k_fresh, .int), (k_isTold, .boolean)]) [0, 1, 2] rfl).app hK1
  generalize H1 = H at hP hS ⊢
  have hK : va_K (dC, dI) vwCl [(k_law, .int), (k_fresh, .int), (k_isTold, .boolean)] s := hK
  have hP : va_P (dC, dI) vwCl [(m5, .inl (k_law, 6, .inl f1)), (m6, .inl (k_fresh, 6, .inl f_34)), (m7, .inl (k_isTold, 6, .inl f_30)), (h0, .inr (9, [.int 0, .ref m1, .int 0, .int 0, .int 0, .ref m5, .ref m6, .ref m7, .int 0, .int 0, .int 0, .int 0, .int 0, .int 0, .long 0, .ref m15, .ref m16, .ref m17, .ref m18, .ref m19, .ref m20, .int 0, .ref m22, .ref m23, .ref m24, .ref m25, .ref m26, .ref m27, .ref m28, .ref m29, .ref m30, .ref m31, .ref m32, .ref m33, .ref m34, .int 0, .int 0, .ref m37, .ref m38, .ref m39, .ref m40, .ref m41, .ref m42, .ref m43, .ref m44, .ref m45, .ref m46]))] H := hP
  have hD : va_D A [(m5, .inl (k_law, 6, .inl f1)), (m6, .inl (k_fresh, 6, .inl f_34)), (m7, .inl (k_isTold, 6, .inl f_30)), (h0, .inr (9, [.int 0, .ref m1, .int 0, .int 0, .int 0, .ref m5, .ref m6, .ref m7, .int 0, .int 0, .int 0, .int 0, .int 0, .int 0, .long 0, .ref m15, .ref m16, .ref m17, .ref m18, .ref m19, .ref m20, .int 0, .ref m22, .ref m23, .ref m24, .ref m25, .ref m26, .ref m27, .ref m28, .ref m29, .ref m30, .ref m31, .ref m32, .ref m33, .ref m34, .int 0, .int 0, .ref m37, .ref m38, .ref m39, .ref m40, .ref m41, .ref m42, .ref m43, .ref m44, .ref m45, .ref m46]))] := hD
  refine W.widen (k := 0) (n := 0) (Nat.le_of_ble_eq_true rfl) (Nat.le_of_ble_eq_true rfl) ?_
  refine lv_aload_n hx hb dX9_statutes_74 rfl (lv_at hl 1 rfl) ?_
  refine va_get (D := (dC, dI)) (ci := 9) (v := .int 0) (C := RX9) (T := TX9) (N := 47) hx hb hts hin9 hown hK hP 3 rfl rfl 8 (by decide) (hts (.fieldLink RX9 135 "YamRidersModel" "token" "I") (by decide +kernel)) (fun _ h9 => h9) rfl dX9_statutes_75 ?_
  refine lv_if_eq (tgt := 101) hx hb dX9_statutes_78 (by decide) (fun _ => ?_) (fun c_37 => by first | exact absurd c_37 (by decide) | exact absurd (by decide) c_37)
  refine lv_iconst (v := 0) hx hb dX9_statutes_101 (by decide) ?_
  refine lv_istore_n (lv' := [(2, .int 0), (1, .int 0), (0, .ref h0)]) hx hb dX9_statutes_102 rfl hl (by decide) rfl (fun ls hl => ?_)
  refine lv_iload_n hx hb dX9_statutes_103 rfl (lv_at hl 0 rfl) ?_
  refine lv_bipush (v := 6) hx hb dX9_statutes_104 (by decide) ?_
  refine lv_icmp_ge (tgt := 127) hx hb dX9_statutes_106 (by decide) (fun c_38 => by first | exact absurd c_38 (by decide) | exact absurd (by decide) c_38) (fun _ => ?_)
  refine lv_aload_n hx hb dX9_statutes_109 rfl (lv_at hl 2 rfl) ?_
  refine va_get (D := (dC, dI)) (ci := 9) (v := .ref m5) (C := RX9) (T := TX9) (N := 47) hx hb hts hin9 hown hK hP 3 rfl rfl 5 (by decide) (hts (.fieldLink RX9 13 "YamRidersModel" "law" "[I") (by decide +kernel)) (fun _ h9 => h9) rfl dX9_statutes_110 ?_
  refine lv_iload_n hx hb dX9_statutes_113 rfl (lv_at hl 0 rfl) ?_
  refine lv_aload_n hx hb dX9_statutes_114 rfl (lv_at hl 2 rfl) ?_
  refine va_get (D := (dC, dI)) (ci := 9) (v := .ref m6) (C := RX9) (T := TX9) (N := 47) hx hb hts hin9 hown hK hP 3 rfl rfl 6 (by decide) (hts (.fieldLink RX9 17 "YamRidersModel" "fresh" "[I") (by decide +kernel)) (fun _ h9 => h9) rfl dX9_statutes_115 ?_
  refine lv_iload_n hx hb dX9_statutes_118 rfl (lv_at hl 0 rfl) ?_
  refine va_iald hx hb hK hP 1 1 rfl rfl (by unfold vp_in; decide) dX9_statutes_119 ?_
  refine lv_topi (fun v_39 ev_39 => ?_)
  refine va_iast hx hb hK hP hD hS 0 0 rfl rfl (by unfold vp_in; decide) dX9_statutes_120 (fun H locs hP hD hS => ?_)
  have hP : va_P (dC, dI) vwCl [(m5, .inl (k_law, 6, .inl (upd f1 (0 : Int32).toNatClampNeg v_39))), (m6, .inl (k_fresh, 6, .inl f_34)), (m7, .inl (k_isTold, 6, .inl f_30)), (h0, .inr (9, [.int 0, .ref m1, .int 0, .int 0, .int 0, .ref m5, .ref m6, .ref m7, .int 0, .int 0, .int 0, .int 0, .int 0, .int 0, .long 0, .ref m15, .ref m16, .ref m17, .ref m18, .ref m19, .ref m20, .int 0, .ref m22, .ref m23, .ref m24, .ref m25, .ref m26, .ref m27, .ref m28, .ref m29, .ref m30, .ref m31, .ref m32, .ref m33, .ref m34, .int 0, .int 0, .ref m37, .ref m38, .ref m39, .ref m40, .ref m41, .ref m42, .ref m43, .ref m44, .ref m45, .ref m46]))] H := hP
  have hD : va_D A [(m5, .inl (k_law, 6, .inl (upd f1 (0 : Int32).toNatClampNeg v_39))), (m6, .inl (k_fresh, 6, .inl f_34)), (m7, .inl (k_isTold, 6, .inl f_30)), (h0, .inr (9, [.int 0, .ref m1, .int 0, .int 0, .int 0, .ref m5, .ref m6, .ref m7, .int 0, .int 0, .int 0, .int 0, .int 0, .int 0, .long 0, .ref m15, .ref m16, .ref m17, .ref m18, .ref m19, .ref m20, .int 0, .ref m22, .ref m23, .ref m24, .ref m25, .ref m26, .ref m27, .ref m28, .ref m29, .ref m30, .ref m31, .ref m32, .ref m33, .ref m34, .int 0, .int 0, .ref m37, .ref m38, .ref m39, .ref m40, .ref m41, .ref m42, .ref m43, .ref m44, .ref m45, .ref m46]))] := hD
  obtain ⟨f_40, ef_40⟩ : ∃ w9 : Nat → Int32, w9 = upd f1 (0 : Int32).toNatClampNeg v_39 := ⟨_, rfl⟩
  rw [← ef_40] at hP hD
  refine lv_iinc (v := 1) (lv' := [(2, .int 1), (1, .int 0), (0, .ref h0)]) hx hb dX9_statutes_121 hl (k := 0) rfl (by decide) (by decide) rfl (fun ls hl => ?_)
  refine lv_goto (tgt := 103) hx hb dX9_statutes_124 (by decide) ?_
  refine lv_iload_n hx hb dX9_statutes_103 rfl (lv_at hl 0 rfl) ?_
  refine lv_bipush (v := 6) hx hb dX9_statutes_104 (by decide) ?_
  refine lv_icmp_ge (tgt := 127) hx hb dX9_statutes_106 (by decide) (fun c_41 => by first | exact absurd c_41 (by decide) | exact absurd (by decide) c_41) (fun _ => ?_)
  refine lv_aload_n hx hb dX9_statutes_109 rfl (lv_at hl 2 rfl) ?_
  refine va_get (D := (dC, dI)) (ci := 9) (v := .ref m5) (C := RX9) (T := TX9) (N := 47) hx hb hts hin9 hown hK hP 3 rfl rfl 5 (by decide) (hts (.fieldLink RX9 13 "YamRidersModel" "law" "[I") (by decide +kernel)) (fun _ h9 => h9) rfl dX9_statutes_110 ?_
  refine lv_iload_n hx hb dX9_statutes_113 rfl (lv_at hl 0 rfl) ?_
  refine lv_aload_n hx hb dX9_statutes_114 rfl (lv_at hl 2 rfl) ?_
  refine va_get (D := (dC, dI)) (ci := 9) (v := .ref m6) (C := RX9) (T := TX9) (N := 47) hx hb hts hin9 hown hK hP 3 rfl rfl 6 (by decide) (hts (.fieldLink RX9 17 "YamRidersModel" "fresh" "[I") (by decide +kernel)) (fun _ h9 => h9) rfl dX9_statutes_115 ?_
  refine lv_iload_n hx hb dX9_statutes_118 rfl (lv_at hl 0 rfl) ?_
  refine va_iald hx hb hK hP 1 1 rfl rfl (by unfold vp_in; decide) dX9_statutes_119 ?_
  refine lv_topi (fun v_42 ev_42 => ?_)
  refine va_iast hx hb hK hP hD hS 0 0 rfl rfl (by unfold vp_in; decide) dX9_statutes_120 (fun H locs hP hD hS => ?_)
  have hP : va_P (dC, dI) vwCl [(m5, .inl (k_law, 6, .inl (upd f_40 (1 : Int32).toNatClampNeg v_42))), (m6, .inl (k_fresh, 6, .inl f_34)), (m7, .inl (k_isTold, 6, .inl f_30)), (h0, .inr (9, [.int 0, .ref m1, .int 0, .int 0, .int 0, .ref m5, .ref m6, .ref m7, .int 0, .int 0, .int 0, .int 0, .int 0, .int 0, .long 0, .ref m15, .ref m16, .ref m17, .ref m18, .ref m19, .ref m20, .int 0, .ref m22, .ref m23, .ref m24, .ref m25, .ref m26, .ref m27, .ref m28, .ref m29, .ref m30, .ref m31, .ref m32, .ref m33, .ref m34, .int 0, .int 0, .ref m37, .ref m38, .ref m39, .ref m40, .ref m41, .ref m42, .ref m43, .ref m44, .ref m45, .ref m46]))] H := hP
  have hD : va_D A [(m5, .inl (k_law, 6, .inl (upd f_40 (1 : Int32).toNatClampNeg v_42))), (m6, .inl (k_fresh, 6, .inl f_34)), (m7, .inl (k_isTold, 6, .inl f_30)), (h0, .inr (9, [.int 0, .ref m1, .int 0, .int 0, .int 0, .ref m5, .ref m6, .ref m7, .int 0, .int 0, .int 0, .int 0, .int 0, .int 0, .long 0, .ref m15, .ref m16, .ref m17, .ref m18, .ref m19, .ref m20, .int 0, .ref m22, .ref m23, .ref m24, .ref m25, .ref m26, .ref m27, .ref m28, .ref m29, .ref m30, .ref m31, .ref m32, .ref m33, .ref m34, .int 0, .int 0, .ref m37, .ref m38, .ref m39, .ref m40, .ref m41, .ref m42, .ref m43, .ref m44, .ref m45, .ref m46]))] := hD
  obtain ⟨f_43, ef_43⟩ : ∃ w9 : Nat → Int32, w9 = upd f_40 (1 : Int32).toNatClampNeg v_42 := ⟨_, rfl⟩
  rw [← ef_43] at hP hD
  refine lv_iinc (v := 2) (lv' := [(2, .int 2), (1, .int 0), (0, .ref h0)]) hx hb dX9_statutes_121 hl (k := 0) rfl (by decide) (by decide) rfl (fun ls hl => ?_)
  refine lv_goto (tgt := 103) hx hb dX9_statutes_124 (by decide) ?_
  refine lv_iload_n hx hb dX9_statutes_103 rfl (lv_at hl 0 rfl) ?_
  refine lv_bipush (v := 6) hx hb dX9_statutes_104 (by decide) ?_
  refine lv_icmp_ge (tgt := 127) hx hb dX9_statutes_106 (by decide) (fun c_44 => by first | exact absurd c_44 (by decide) | exact absurd (by decide) c_44) (fun _ => ?_)
  refine lv_aload_n hx hb dX9_statutes_109 rfl (lv_at hl 2 rfl) ?_
  refine va_get (D := (dC, dI)) (ci := 9) (v := .ref m5) (C := RX9) (T := TX9) (N := 47) hx hb hts hin9 hown hK hP 3 rfl rfl 5 (by decide) (hts (.fieldLink RX9 13 "YamRidersModel" "law" "[I") (by decide +kernel)) (fun _ h9 => h9) rfl dX9_statutes_110 ?_
  refine lv_iload_n hx hb dX9_statutes_113 rfl (lv_at hl 0 rfl) ?_
  refine lv_aload_n hx hb dX9_statutes_114 rfl (lv_at hl 2 rfl) ?_
  refine va_get (D := (dC, dI)) (ci := 9) (v := .ref m6) (C := RX9) (T := TX9) (N := 47) hx hb hts hin9 hown hK hP 3 rfl rfl 6 (by decide) (hts (.fieldLink RX9 17 "YamRidersModel" "fresh" "[I") (by decide +kernel)) (fun _ h9 => h9) rfl dX9_statutes_115 ?_
  refine lv_iload_n hx hb dX9_statutes_118 rfl (lv_at hl 0 rfl) ?_
  refine va_iald hx hb hK hP 1 1 rfl rfl (by unfold vp_in; decide) dX9_statutes_119 ?_
  refine lv_topi (fun v_45 ev_45 => ?_)
  refine va_iast hx hb hK hP hD hS 0 0 rfl rfl (by unfold vp_in; decide) dX9_statutes_120 (fun H locs hP hD hS => ?_)
  have hP : va_P (dC, dI) vwCl [(m5, .inl (k_law, 6, .inl (upd f_43 (2 : Int32).toNatClampNeg v_45))), (m6, .inl (k_fresh, 6, .inl f_34)), (m7, .inl (k_isTold, 6, .inl f_30)), (h0, .inr (9, [.int 0, .ref m1, .int 0, .int 0, .int 0, .ref m5, .ref m6, .ref m7, .int 0, .int 0, .int 0, .int 0, .int 0, .int 0, .long 0, .ref m15, .ref m16, .ref m17, .ref m18, .ref m19, .ref m20, .int 0, .ref m22, .ref m23, .ref m24, .ref m25, .ref m26, .ref m27, .ref m28, .ref m29, .ref m30, .ref m31, .ref m32, .ref m33, .ref m34, .int 0, .int 0, .ref m37, .ref m38, .ref m39, .ref m40, .ref m41, .ref m42, .ref m43, .ref m44, .ref m45, .ref m46]))] H := hP
  have hD : va_D A [(m5, .inl (k_law, 6, .inl (upd f_43 (2 : Int32).toNatClampNeg v_45))), (m6, .inl (k_fresh, 6, .inl f_34)), (m7, .inl (k_isTold, 6, .inl f_30)), (h0, .inr (9, [.int 0, .ref m1, .int 0, .int 0, .int 0, .ref m5, .ref m6, .ref m7, .int 0, .int 0, .int 0, .int 0, .int 0, .int 0, .long 0, .ref m15, .ref m16, .ref m17, .ref m18, .ref m19, .ref m20, .int 0, .ref m22, .ref m23, .ref m24, .ref m25, .ref m26, .ref m27, .ref m28, .ref m29, .ref m30, .ref m31, .ref m32, .ref m33, .ref m34, .int 0, .int 0, .ref m37, .ref m38, .ref m39, .ref m40, .ref m41, .ref m42, .ref m43, .ref m44, .ref m45, .ref m46]))] := hD
  obtain ⟨f_46, ef_46⟩ : ∃ w9 : Nat → Int32, w9 = upd f_43 (2 : Int32).toNatClampNeg v_45 := ⟨_, rfl⟩
  rw [← ef_46] at hP hD
  refine lv_iinc (v := 3) (lv' := [(2, .int 3), (1, .int 0), (0, .ref h0)]) hx hb dX9_statutes_121 hl (k := 0) rfl (by decide) (by decide) rfl (fun ls hl => ?_)
  refine lv_goto (tgt := 103) hx hb dX9_statutes_124 (by decide) ?_
  refine lv_iload_n hx hb dX9_statutes_103 rfl (lv_at hl 0 rfl) ?_
  refine lv_bipush (v := 6) hx hb dX9_statutes_104 (by decide) ?_
  refine lv_icmp_ge (tgt := 127) hx hb dX9_statutes_106 (by decide) (fun c_47 => by first | exact absurd c_47 (by decide) | exact absurd (by decide) c_47) (fun _ => ?_)
  refine lv_aload_n hx hb dX9_statutes_109 rfl (lv_at hl 2 rfl) ?_
  refine va_get (D := (dC, dI)) (ci := 9) (v := .ref m5) (C := RX9) (T := TX9) (N := 47) hx hb hts hin9 hown hK hP 3 rfl rfl 5 (by decide) (hts (.fieldLink RX9 13 "YamRidersModel" "law" "[I") (by decide +kernel)) (fun _ h9 => h9) rfl dX9_statutes_110 ?_
  refine lv_iload_n hx hb dX9_statutes_113 rfl (lv_at hl 0 rfl) ?_
  refine lv_aload_n hx hb dX9_statutes_114 rfl (lv_at hl 2 rfl) ?_
  refine va_get (D := (dC, dI)) (ci := 9) (v := .ref m6) (C := RX9) (T := TX9) (N := 47) hx hb hts hin9 hown hK hP 3 rfl rfl 6 (by decide) (hts (.fieldLink RX9 17 "YamRidersModel" "fresh" "[I") (by decide +kernel)) (fun _ h9 => h9) rfl dX9_statutes_115 ?_
  refine lv_iload_n hx hb dX9_statutes_118 rfl (lv_at hl 0 rfl) ?_
  refine va_iald hx hb hK hP 1 1 rfl rfl (by unfold vp_in; decide) dX9_statutes_119 ?_
  refine lv_topi (fun v_48 ev_48 => ?_)
  refine va_iast hx hb hK hP hD hS 0 0 rfl rfl (by unfold vp_in; decide) dX9_statutes_120 (fun H locs hP hD hS => ?_)
  have hP : va_P (dC, dI) vwCl [(m5, .inl (k_law, 6, .inl (upd f_46 (3 : Int32).toNatClampNeg v_48))), (m6, .inl (k_fresh, 6, .inl f_34)), (m7, .inl (k_isTold, 6, .inl f_30)), (h0, .inr (9, [.int 0, .ref m1, .int 0, .int 0, .int 0, .ref m5, .ref m6, .ref m7, .int 0, .int 0, .int 0, .int 0, .int 0, .int 0, .long 0, .ref m15, .ref m16, .ref m17, .ref m18, .ref m19, .ref m20, .int 0, .ref m22, .ref m23, .ref m24, .ref m25, .ref m26, .ref m27, .ref m28, .ref m29, .ref m30, .ref m31, .ref m32, .ref m33, .ref m34, .int 0, .int 0, .ref m37, .ref m38, .ref m39, .ref m40, .ref m41, .ref m42, .ref m43, .ref m44, .ref m45, .ref m46]))] H := hP
  have hD : va_D A [(m5, .inl (k_law, 6, .inl (upd f_46 (3 : Int32).toNatClampNeg v_48))), (m6, .inl (k_fresh, 6, .inl f_34)), (m7, .inl (k_isTold, 6, .inl f_30)), (h0, .inr (9, [.int 0, .ref m1, .int 0, .int 0, .int 0, .ref m5, .ref m6, .ref m7, .int 0, .int 0, .int 0, .int 0, .int 0, .int 0, .long 0, .ref m15, .ref m16, .ref m17, .ref m18, .ref m19, .ref m20, .int 0, .ref m22, .ref m23, .ref m24, .ref m25, .ref m26, .ref m27, .ref m28, .ref m29, .ref m30, .ref m31, .ref m32, .ref m33, .ref m34, .int 0, .int 0, .ref m37, .ref m38, .ref m39, .ref m40, .ref m41, .ref m42, .ref m43, .ref m44, .ref m45, .ref m46]))] := hD
  obtain ⟨f_49, ef_49⟩ : ∃ w9 : Nat → Int32, w9 = upd f_46 (3 : Int32).toNatClampNeg v_48 := ⟨_, rfl⟩
  rw [← ef_49] at hP hD
  refine lv_iinc (v := 4) (lv' := [(2, .int 4), (1, .int 0), (0, .ref h0)]) hx hb dX9_statutes_121 hl (k := 0) rfl (by decide) (by decide) rfl (fun ls hl => ?_)
  refine lv_goto (tgt := 103) hx hb dX9_statutes_124 (by decide) ?_
  refine lv_iload_n hx hb dX9_statutes_103 rfl (lv_at hl 0 rfl) ?_
  refine lv_bipush (v := 6) hx hb dX9_statutes_104 (by decide) ?_
  refine lv_icmp_ge (tgt := 127) hx hb dX9_statutes_106 (by decide) (fun c_50 => by first | exact absurd c_50 (by decide) | exact absurd (by decide) c_50) (fun _ => ?_)
  refine lv_aload_n hx hb dX9_statutes_109 rfl (lv_at hl 2 rfl) ?_
  refine va_get (D := (dC, dI)) (ci := 9) (v := .ref m5) (C := RX9) (T := TX9) (N := 47) hx hb hts hin9 hown hK hP 3 rfl rfl 5 (by decide) (hts (.fieldLink RX9 13 "YamRidersModel" "law" "[I") (by decide +kernel)) (fun _ h9 => h9) rfl dX9_statutes_110 ?_
  refine lv_iload_n hx hb dX9_statutes_113 rfl (lv_at hl 0 rfl) ?_
  refine lv_aload_n hx hb dX9_statutes_114 rfl (lv_at hl 2 rfl) ?_
  refine va_get (D := (dC, dI)) (ci := 9) (v := .ref m6) (C := RX9) (T := TX9) (N := 47) hx hb hts hin9 hown hK hP 3 rfl rfl 6 (by decide) (hts (.fieldLink RX9 17 "YamRidersModel" "fresh" "[I") (by decide +kernel)) (fun _ h9 => h9) rfl dX9_statutes_115 ?_
  refine lv_iload_n hx hb dX9_statutes_118 rfl (lv_at hl 0 rfl) ?_
  refine va_iald hx hb hK hP 1 1 rfl rfl (by unfold vp_in; decide) dX9_statutes_119 ?_
  refine lv_topi (fun v_51 ev_51 => ?_)
  refine va_iast hx hb hK hP hD hS 0 0 rfl rfl (by unfold vp_in; decide) dX9_statutes_120 (fun H locs hP hD hS => ?_)
  have hP : va_P (dC, dI) vwCl [(m5, .inl (k_law, 6, .inl (upd f_49 (4 : Int32).toNatClampNeg v_51))), (m6, .inl (k_fresh, 6, .inl f_34)), (m7, .inl (k_isTold, 6, .inl f_30)), (h0, .inr (9, [.int 0, .ref m1, .int 0, .int 0, .int 0, .ref m5, .ref m6, .ref m7, .int 0, .int 0, .int 0, .int 0, .int 0, .int 0, .long 0, .ref m15, .ref m16, .ref m17, .ref m18, .ref m19, .ref m20, .int 0, .ref m22, .ref m23, .ref m24, .ref m25, .ref m26, .ref m27, .ref m28, .ref m29, .ref m30, .ref m31, .ref m32, .ref m33, .ref m34, .int 0, .int 0, .ref m37, .ref m38, .ref m39, .ref m40, .ref m41, .ref m42, .ref m43, .ref m44, .ref m45, .ref m46]))] H := hP
  have hD : va_D A [(m5, .inl (k_law, 6, .inl (upd f_49 (4 : Int32).toNatClampNeg v_51))), (m6, .inl (k_fresh, 6, .inl f_34)), (m7, .inl (k_isTold, 6, .inl f_30)), (h0, .inr (9, [.int 0, .ref m1, .int 0, .int 0, .int 0, .ref m5, .ref m6, .ref m7, .int 0, .int 0, .int 0, .int 0, .int 0, .int 0, .long 0, .ref m15, .ref m16, .ref m17, .ref m18, .ref m19, .ref m20, .int 0, .ref m22, .ref m23, .ref m24, .ref m25, .ref m26, .ref m27, .ref m28, .ref m29, .ref m30, .ref m31, .ref m32, .ref m33, .ref m34, .int 0, .int 0, .ref m37, .ref m38, .ref m39, .ref m40, .ref m41, .ref m42, .ref m43, .ref m44, .ref m45, .ref m46]))] := hD
  obtain ⟨f_52, ef_52⟩ : ∃ w9 : Nat → Int32, w9 = upd f_49 (4 : Int32).toNatClampNeg v_51 := ⟨_, rfl⟩
  rw [← ef_52] at hP hD
  refine lv_iinc (v := 5) (lv' := [(2, .int 5), (1, .int 0), (0, .ref h0)]) hx hb dX9_statutes_121 hl (k := 0) rfl (by decide) (by decide) rfl (fun ls hl => ?_)
  refine lv_goto (tgt := 103) hx hb dX9_statutes_124 (by decide) ?_
  refine lv_iload_n hx hb dX9_statutes_103 rfl (lv_at hl 0 rfl) ?_
  refine lv_bipush (v := 6) hx hb dX9_statutes_104 (by decide) ?_
  refine lv_icmp_ge (tgt := 127) hx hb dX9_statutes_106 (by decide) (fun c_53 => by first | exact absurd c_53 (by decide) | exact absurd (by decide) c_53) (fun _ => ?_)
  refine lv_aload_n hx hb dX9_statutes_109 rfl (lv_at hl 2 rfl) ?_
  refine va_get (D := (dC, dI)) (ci := 9) (v := .ref m5) (C := RX9) (T := TX9) (N := 47) hx hb hts hin9 hown hK hP 3 rfl rfl 5 (by decide) (hts (.fieldLink RX9 13 "YamRidersModel" "law" "[I") (by decide +kernel)) (fun _ h9 => h9) rfl dX9_statutes_110 ?_
  refine lv_iload_n hx hb dX9_statutes_113 rfl (lv_at hl 0 rfl) ?_
  refine lv_aload_n hx hb dX9_statutes_114 rfl (lv_at hl 2 rfl) ?_
  refine va_get (D := (dC, dI)) (ci := 9) (v := .ref m6) (C := RX9) (T := TX9) (N := 47) hx hb hts hin9 hown hK hP 3 rfl rfl 6 (by decide) (hts (.fieldLink RX9 17 "YamRidersModel" "fresh" "[I") (by decide +kernel)) (fun _ h9 => h9) rfl dX9_statutes_115 ?_
  refine lv_iload_n hx hb dX9_statutes_118 rfl (lv_at hl 0 rfl) ?_
  refine va_iald hx hb hK hP 1 1 rfl rfl (by unfold vp_in; decide) dX9_statutes_119 ?_
  refine lv_topi (fun v_54 ev_54 => ?_)
  obtain rfl : v_54 = 0 := ev_54.trans (by rw [ef_34]; exact pk_us)
  refine va_iast hx hb hK hP hD hS 0 0 rfl rfl (by unfold vp_in; decide) dX9_statutes_120 (fun H locs hP hD hS => ?_)
  have hP : va_P (dC, dI) vwCl [(m5, .inl (k_law, 6, .inl (upd f_52 (5 : Int32).toNatClampNeg 0))), (m6, .inl (k_fresh, 6, .inl f_34)), (m7, .inl (k_isTold, 6, .inl f_30)), (h0, .inr (9, [.int 0, .ref m1, .int 0, .int 0, .int 0, .ref m5, .ref m6, .ref m7, .int 0, .int 0, .int 0, .int 0, .int 0, .int 0, .long 0, .ref m15, .ref m16, .ref m17, .ref m18, .ref m19, .ref m20, .int 0, .ref m22, .ref m23, .ref m24, .ref m25, .ref m26, .ref m27, .ref m28, .ref m29, .ref m30, .ref m31, .ref m32, .ref m33, .ref m34, .int 0, .int 0, .ref m37, .ref m38, .ref m39, .ref m40, .ref m41, .ref m42, .ref m43, .ref m44, .ref m45, .ref m46]))] H := hP
  have hD : va_D A [(m5, .inl (k_law, 6, .inl (upd f_52 (5 : Int32).toNatClampNeg 0))), (m6, .inl (k_fresh, 6, .inl f_34)), (m7, .inl (k_isTold, 6, .inl f_30)), (h0, .inr (9, [.int 0, .ref m1, .int 0, .int 0, .int 0, .ref m5, .ref m6, .ref m7, .int 0, .int 0, .int 0, .int 0, .int 0, .int 0, .long 0, .ref m15, .ref m16, .ref m17, .ref m18, .ref m19, .ref m20, .int 0, .ref m22, .ref m23, .ref m24, .ref m25, .ref m26, .ref m27, .ref m28, .ref m29, .ref m30, .ref m31, .ref m32, .ref m33, .ref m34, .int 0, .int 0, .ref m37, .ref m38, .ref m39, .ref m40, .ref m41, .ref m42, .ref m43, .ref m44, .ref m45, .ref m46]))] := hD
  obtain ⟨f_55, ef_55⟩ : ∃ w9 : Nat → Int32, w9 = upd f_52 (5 : Int32).toNatClampNeg 0 := ⟨_, rfl⟩
  rw [← ef_55] at hP hD
  refine lv_iinc (v := 6) (lv' := [(2, .int 6), (1, .int 0), (0, .ref h0)]) hx hb dX9_statutes_121 hl (k := 0) rfl (by decide) (by decide) rfl (fun ls hl => ?_)
  refine lv_goto (tgt := 103) hx hb dX9_statutes_124 (by decide) ?_
  refine lv_iload_n hx hb dX9_statutes_103 rfl (lv_at hl 0 rfl) ?_
  refine lv_bipush (v := 6) hx hb dX9_statutes_104 (by decide) ?_
  refine lv_icmp_ge (tgt := 127) hx hb dX9_statutes_106 (by decide) (fun _ => ?_) (fun c_56 => by first | exact absurd c_56 (by decide) | exact absurd (by decide) c_56)
  refine lv_iload_n hx hb dX9_statutes_127 rfl (lv_at hl 1 rfl) ?_
  have hP9 := hP.sub (ws' := []) [] rfl
  have hD9 := hD.sub (ws' := []) [] (by decide) rfl
  have hK9 := hK.sub (tys' := []) [] rfl
  refine W.widen (k := 0) (n := 0) (Nat.le_of_ble_eq_true rfl) (Nat.le_of_ble_eq_true rfl) ?_
  exact W.iret (v := 0) hx hb hr (fun t9 ht hW => ⟨⟨_, (), rfl, rfl, by rw [ht]; exact hP9, va_K.moved hW.alike hK9, hD9⟩, hS.F ht⟩) hS.2.2 dX9_statutes_128
