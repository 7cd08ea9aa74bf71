theorem t_lt {n : Nat} (h : n ≤ 20) (c : ¬ nI n = 20) : n < 20 := by
  rcases Nat.lt_or_ge n 20 with q | q
  · exact q
  · exact absurd (show nI n = nI 20 by rw [show n = 20 by omega]) c

set_option maxHeartbeats 4000000 in
set_option maxRecDepth 100000 in
theorem g_X9_tablet (l : Launch) (dC : Nat → ClassId) (dI : Nat → Nat → Nat) (h0 : Nat) (m1 : Nat) (m5 : Nat) (m6 : Nat) (m7 : Nat) (m15 : Nat) (m16 : Nat) (m17 : Nat) (m18 : Nat) (m19 : Nat) (m20 : Nat) (m22 : Nat) (m23 : Nat) (m24 : Nat) (m25 : Nat) (m26 : Nat) (m27 : Nat) (m28 : Nat) (m29 : Nat) (m30 : Nat) (m31 : Nat) (m32 : Nat) (m33 : Nat) (m34 : Nat) (m37 : Nat) (m38 : Nat) (m39 : Nat) (m40 : Nat) (m41 : Nat) (m42 : Nat) (m43 : Nat) (m44 : Nat) (m45 : Nat) (m46 : Nat) (i_thrown : Int32) (i_length : Int32) (i_size : Int32) (i_p : Int32) (i_token : Int32) (i_at : Int32) (i_number : Int32) (i_fault : Int32) (i_faultAt : Int32) (i_hour : Int32) (i_horses : Int32) (i_riders : Int32) (i_word : Int64) (k_rank : ClassId) (k_voidSince : ClassId) (a_rank : Nat → Int32) (a_voidSince : Nat → Int32) (p0 : Int32) (tn9 : Nat) (sz : Nat) (htn9 : tn9 ≤ 20) : Met l yX9_tablet wsX9_tablet ({ frames := 0, cells := 0, slots := 0, locals := 0 }) (va_Pc [.ref h0, .int p0] (cP dC dI [(h0, .inr (9, [.int i_thrown, .ref m1, .int i_length, .int i_size, .int i_p, .ref m5, .ref m6, .ref m7, .int i_token, .int i_at, .int i_number, .int i_fault, .int i_faultAt, .int i_hour, .long i_word, .ref m15, .ref m16, .ref m17, .ref m18, .ref m19, .ref m20, .int i_horses, .ref m22, .ref m23, .ref m24, .ref m25, .ref m26, .ref m27, .ref m28, .ref m29, .ref m30, .ref m31, .ref m32, .ref m33, .ref m34, .int (nI tn9), .int i_riders, .ref m37, .ref m38, .ref m39, .ref m40, .ref m41, .ref m42, .ref m43, .ref m44, .ref m45, .ref m46])), (m22, .inl (k_rank, 20, .inl a_rank)), (m23, .inl (k_voidSince, 240, .inl a_voidSince))] [(k_rank, .int), (k_voidSince, .int)] sz)) (va_Qi (fun (r : Int32) (_ : Unit) => r = (if (nI tn9) = 20 then (-1) else (if p0 < 1 then (-1) else (if p0 ≤ 3 then ((nI tn9) + 1) - 1 else (-1))))) (fun (_ : Unit) t9 => ∃ (v2 : Int32) (f2 : Nat → Int32) (f3 : Nat → Int32), (v2 = (if (nI tn9) = 20 then nI tn9 else (if p0 < 1 then nI tn9 else (if p0 ≤ 3 then (nI tn9) + 1 else nI tn9)))) ∧ (f2 = (if (nI tn9) = 20 then a_rank else (if p0 < 1 then a_rank else (if p0 ≤ 3 then upd a_rank (nI tn9).toNatClampNeg p0 else a_rank)))) ∧ (f3 = (if (nI tn9) = 20 then a_voidSince else (if p0 < 1 then a_voidSince else (if p0 ≤ 3 then upd (upd (upd (upd (upd (upd (upd (upd (upd (upd (upd (upd a_voidSince ((12 * (nI tn9)) + 0).toNatClampNeg (-1)) ((12 * (nI tn9)) + 1).toNatClampNeg (-1)) ((12 * (nI tn9)) + 2).toNatClampNeg (-1)) ((12 * (nI tn9)) + 3).toNatClampNeg (-1)) ((12 * (nI tn9)) + 4).toNatClampNeg (-1)) ((12 * (nI tn9)) + 5).toNatClampNeg (-1)) ((12 * (nI tn9)) + 6).toNatClampNeg (-1)) ((12 * (nI tn9)) + 7).toNatClampNeg (-1)) ((12 * (nI tn9)) + 8).toNatClampNeg (-1)) ((12 * (nI tn9)) + 9).toNatClampNeg (-1)) ((12 * (nI tn9)) + 10).toNatClampNeg (-1)) ((12 * (nI tn9)) + 11).toNatClampNeg (-1) else a_voidSince)))) ∧ cQ dC dI [(h0, .inr (9, [.int 0, .ref m1, .int i_length, .int i_size, .int i_p, .ref m5, .ref m6, .ref m7, .int i_token, .int i_at, .int i_number, .int i_fault, .int i_faultAt, .int i_hour, .long i_word, .ref m15, .ref m16, .ref m17, .ref m18, .ref m19, .ref m20, .int i_horses, .ref m22, .ref m23, .ref m24, .ref m25, .ref m26, .ref m27, .ref m28, .ref m29, .ref m30, .ref m31, .ref m32, .ref m33, .ref m34, .int v2, .int i_riders, .ref m37, .ref m38, .ref m39, .ref m40, .ref m41, .ref m42, .ref m43, .ref m44, .ref m45, .ref m46])), (m22, .inl (k_rank, 20, .inl f2)), (m23, .inl (k_voidSince, 240, .inl f3))] [] (va_A [(h0, .inr (9, [.int i_thrown, .ref m1, .int i_length, .int i_size, .int i_p, .ref m5, .ref m6, .ref m7, .int i_token, .int i_at, .int i_number, .int i_fault, .int i_faultAt, .int i_hour, .long i_word, .ref m15, .ref m16, .ref m17, .ref m18, .ref m19, .ref m20, .int i_horses, .ref m22, .ref m23, .ref m24, .ref m25, .ref m26, .ref m27, .ref m28, .ref m29, .ref m30, .ref m31, .ref m32, .ref m33, .ref m34, .int (nI tn9), .int i_riders, .ref m37, .ref m38, .ref m39, .ref m40, .ref m41, .ref m42, .ref m43, .ref m44, .ref m45, .ref m46])), (m22, .inl (k_rank, 20, .inl a_rank)), (m23, .inl (k_voidSince, 240, .inl a_voidSince))] sz) t9) (va_A [(h0, .inr (9, [.int i_thrown, .ref m1, .int i_length, .int i_size, .int i_p, .ref m5, .ref m6, .ref m7, .int i_token, .int i_at, .int i_number, .int i_fault, .int i_faultAt, .int i_hour, .long i_word, .ref m15, .ref m16, .ref m17, .ref m18, .ref m19, .ref m20, .int i_horses, .ref m22, .ref m23, .ref m24, .ref m25, .ref m26, .ref m27, .ref m28, .ref m29, .ref m30, .ref m31, .ref m32, .ref m33, .ref m34, .int (nI tn9), .int i_riders, .ref m37, .ref m38, .ref m39, .ref m40, .ref m41, .ref m42, .ref m43, .ref m44, .ref m45, .ref m46])), (m22, .inl (k_rank, 20, .inl a_rank)), (m23, .inl (k_voidSince, 240, .inl a_voidSince))] sz)) 0 0 (va_A [(h0, .inr (9, [.int i_thrown, .ref m1, .int i_length, .int i_size, .int i_p, .ref m5, .ref m6, .ref m7, .int i_token, .int i_at, .int i_number, .int i_fault, .int i_faultAt, .int i_hour, .long i_word, .ref m15, .ref m16, .ref m17, .ref m18, .ref m19, .ref m20, .int i_horses, .ref m22, .ref m23, .ref m24, .ref m25, .ref m26, .ref m27, .ref m28, .ref m29, .ref m30, .ref m31, .ref m32, .ref m33, .ref m34, .int (nI tn9), .int i_riders, .ref m37, .ref m38, .ref m39, .ref m40, .ref m41, .ref m42, .ref m43, .ref m44, .ref m45, .ref m46])), (m22, .inl (k_rank, 20, .inl a_rank)), (m23, .inl (k_voidSince, 240, .inl a_voidSince))] sz) := by
  refine Met.ofW (cc := cX9_tablet) (maxL := 3) (ret := (some .int)) (by decide) rfl ?_
  intro p e s m args below meth c s₁ B hml hv
  obtain ⟨rfl, hsz, hP, hK, hD0, hN⟩ := hv
  have hx := B.exec
  have hb := B.bytes
  have hr := B.returns
  have hts := atoms_spec (ws := wsX9_tablet) B.pre
  have hown : s.vm.findClass RX9 = some m.cls := findClass_of_methodNamed B.named
  have hlocks := B.notSynchronized
  subst hsz
  have hin9 : ∀ w ∈ u_ws RX9 TX9 47, w ∈ wsX9_tablet := by decide +kernel
  have hD := hD0.self (sz := s.heap.size)
  generalize hAe : va_A [(h0, .inr (9, [.int i_thrown, .ref m1, .int i_length, .int i_size, .int i_p, .ref m5, .ref m6, .ref m7, .int i_token, .int i_at, .int i_number, .int i_fault, .int i_faultAt, .int i_hour, .long i_word, .ref m15, .ref m16, .ref m17, .ref m18, .ref m19, .ref m20, .int i_horses, .ref m22, .ref m23, .ref m24, .ref m25, .ref m26, .ref m27, .ref m28, .ref m29, .ref m30, .ref m31, .ref m32, .ref m33, .ref m34, .int (nI tn9), .int i_riders, .ref m37, .ref m38, .ref m39, .ref m40, .ref m41, .ref m42, .ref m43, .ref m44, .ref m45, .ref m46])), (m22, .inl (k_rank, 20, .inl a_rank)), (m23, .inl (k_voidSince, 240, .inl a_voidSince))] s.heap.size = A at hD ⊢
  have hA : ∀ q : Nat, s.heap.size ≤ q → A q := fun q h => by rw [← hAe]; exact Or.inr h
  have hS : va_S A s.heap s.heap [] := va_S.rf
  have hP : va_P (dC, dI) vwCl [(h0, .inr (9, [.int i_thrown, .ref m1, .int i_length, .int i_size, .int i_p, .ref m5, .ref m6, .ref m7, .int i_token, .int i_at, .int i_number, .int i_fault, .int i_faultAt, .int i_hour, .long i_word, .ref m15, .ref m16, .ref m17, .ref m18, .ref m19, .ref m20, .int i_horses, .ref m22, .ref m23, .ref m24, .ref m25, .ref m26, .ref m27, .ref m28, .ref m29, .ref m30, .ref m31, .ref m32, .ref m33, .ref m34, .int (nI tn9), .int i_riders, .ref m37, .ref m38, .ref m39, .ref m40, .ref m41, .ref m42, .ref m43, .ref m44, .ref m45, .ref m46])), (m22, .inl (k_rank, 20, .inl a_rank)), (m23, .inl (k_voidSince, 240, .inl a_voidSince))] s.heap := hP
  have hl := lv_entry ([.ref h0, .int p0]) (n := 3) (Nat.le_of_ble_eq_true rfl)
  rw [lg_entry_eq]
  generalize (lg_sl ([.ref h0, .int p0]) ++ List.replicate (3 - (lg_sl ([.ref h0, .int p0])).length) Slot.unset).toArray = ls at hl ⊢
  have hl : lv_has ls 3 [(0, .ref h0), (1, .int p0)] := hl
  refine lv_aload_n hx hb dX9_tablet_0 rfl (lv_at hl 0 rfl) ?_
  refine lv_iconst (v := 0) hx hb dX9_tablet_1 (by decide) ?_
  refine va_put (D := (dC, dI)) (ci := 9) (v := .int 0) (ty := (tyX9 0)) (C := RX9) (T := TX9) (N := 47) hx hb hts hin9 tyX9 tyX9_ok nmX9 hown hK hP hD hS 0 rfl rfl 0 (by decide) (hts (.fieldLink RX9 111 "YamRidersModel" "thrown" "I") (by decide +kernel)) (fun _ h9 => h9) rfl (by decide +kernel) rfl rfl (Nat.le_of_ble_eq_true rfl) dX9_tablet_2 (fun H locs hP hD hS => ?_)
  have hP : va_P (dC, dI) vwCl [(h0, .inr (9, [.int 0, .ref m1, .int i_length, .int i_size, .int i_p, .ref m5, .ref m6, .ref m7, .int i_token, .int i_at, .int i_number, .int i_fault, .int i_faultAt, .int i_hour, .long i_word, .ref m15, .ref m16, .ref m17, .ref m18, .ref m19, .ref m20, .int i_horses, .ref m22, .ref m23, .ref m24, .ref m25, .ref m26, .ref m27, .ref m28, .ref m29, .ref m30, .ref m31, .ref m32, .ref m33, .ref m34, .int (nI tn9), .int i_riders, .ref m37, .ref m38, .ref m39, .ref m40, .ref m41, .ref m42, .ref m43, .ref m44, .ref m45, .ref m46])), (m22, .inl (k_rank, 20, .inl a_rank)), (m23, .inl (k_voidSince, 240, .inl a_voidSince))] H := hP
  have hD : va_D A [(h0, .inr (9, [.int 0, .ref m1, .int i_length, .int i_size, .int i_p, .ref m5, .ref m6, .ref m7, .int i_token, .int i_at, .int i_number, .int i_fault, .int i_faultAt, .int i_hour, .long i_word, .ref m15, .ref m16, .ref m17, .ref m18, .ref m19, .ref m20, .int i_horses, .ref m22, .ref m23, .ref m24, .ref m25, .ref m26, .ref m27, .ref m28, .ref m29, .ref m30, .ref m31, .ref m32, .ref m33, .ref m34, .int (nI tn9), .int i_riders, .ref m37, .ref m38, .ref m39, .ref m40, .ref m41, .ref m42, .ref m43, .ref m44, .ref m45, .ref m46])), (m22, .inl (k_rank, 20, .inl a_rank)), (m23, .inl (k_voidSince, 240, .inl a_voidSince))] := hD
  refine lv_aload_n hx hb dX9_tablet_5 rfl (lv_at hl 0 rfl) ?_
  refine va_get (D := (dC, dI)) (ci := 9) (v := .int (nI tn9)) (C := RX9) (T := TX9) (N := 47) hx hb hts hin9 hown hK hP 0 rfl rfl 35 (by decide) (hts (.fieldLink RX9 205 "YamRidersModel" "tablets" "I") (by decide +kernel)) (fun _ h9 => h9) rfl dX9_tablet_6 ?_
  refine lv_bipush (v := 20) hx hb dX9_tablet_9 (by decide) ?_
  refine lv_icmp_eq (tgt := 24) hx hb dX9_tablet_11 (by decide) (fun c_1 => ?_) (fun c_1 => ?_)
  · refine lv_iconst (v := (-1)) hx hb dX9_tablet_24 (by decide) ?_
    have hP9 := hP.sub (ws' := [(h0, .inr (9, [.int 0, .ref m1, .int i_length, .int i_size, .int i_p, .ref m5, .ref m6, .ref m7, .int i_token, .int i_at, .int i_number, .int i_fault, .int i_faultAt, .int i_hour, .long i_word, .ref m15, .ref m16, .ref m17, .ref m18, .ref m19, .ref m20, .int i_horses, .ref m22, .ref m23, .ref m24, .ref m25, .ref m26, .ref m27, .ref m28, .ref m29, .ref m30, .ref m31, .ref m32, .ref m33, .ref m34, .int (nI tn9), .int i_riders, .ref m37, .ref m38, .ref m39, .ref m40, .ref m41, .ref m42, .ref m43, .ref m44, .ref m45, .ref m46])), (m22, .inl (k_rank, 20, .inl a_rank)), (m23, .inl (k_voidSince, 240, .inl a_voidSince))]) [0, 1, 2] rfl
    have hD9 := hD.sub (ws' := [(h0, .inr (9, [.int 0, .ref m1, .int i_length, .int i_size, .int i_p, .ref m5, .ref m6, .ref m7, .int i_token, .int i_at, .int i_number, .int i_fault, .int i_faultAt, .int i_hour, .long i_word, .ref m15, .ref m16, .ref m17, .ref m18, .ref m19, .ref m20, .int i_horses, .ref m22, .ref m23, .ref m24, .ref m25, .ref m26, .ref m27, .ref m28, .ref m29, .ref m30, .ref m31, .ref m32, .ref m33, .ref m34, .int (nI tn9), .int i_riders, .ref m37, .ref m38, .ref m39, .ref m40, .ref m41, .ref m42, .ref m43, .ref m44, .ref m45, .ref m46])), (m22, .inl (k_rank, 20, .inl a_rank)), (m23, .inl (k_voidSince, 240, .inl a_voidSince))]) [0, 1, 2] (by decide) rfl
    have hK9 := hK.sub (tys' := []) [] rfl
    refine W.widen (k := 0) (n := 0) (Nat.le_of_ble_eq_true rfl) (Nat.le_of_ble_eq_true rfl) ?_
    exact W.iret (v := (-1)) hx hb hr (fun t9 ht hW => ⟨⟨_, (), rfl, (by rw [if_pos c_1]), (nI tn9), a_rank, a_voidSince, (by first | rfl | simp only [if_pos c_1]), (by first | rfl | simp only [if_pos c_1]), (by first | rfl | simp only [if_pos c_1]), by rw [ht]; exact hP9, va_K.moved hW.alike hK9, hD9⟩, hS.F ht⟩) hS.2.2 dX9_tablet_25
  · refine lv_iload_n hx hb dX9_tablet_14 rfl (lv_at hl 1 rfl) ?_
    refine lv_iconst (v := 1) hx hb dX9_tablet_15 (by decide) ?_
    refine lv_icmp_lt (tgt := 24) hx hb dX9_tablet_16 (by decide) (fun c_2 => ?_) (fun c_2 => ?_)
    · refine lv_iconst (v := (-1)) hx hb dX9_tablet_24 (by decide) ?_
      have hP9 := hP.sub (ws' := [(h0, .inr (9, [.int 0, .ref m1, .int i_length, .int i_size, .int i_p, .ref m5, .ref m6, .ref m7, .int i_token, .int i_at, .int i_number, .int i_fault, .int i_faultAt, .int i_hour, .long i_word, .ref m15, .ref m16, .ref m17, .ref m18, .ref m19, .ref m20, .int i_horses, .ref m22, .ref m23, .ref m24, .ref m25, .ref m26, .ref m27, .ref m28, .ref m29, .ref m30, .ref m31, .ref m32, .ref m33, .ref m34, .int (nI tn9), .int i_riders, .ref m37, .ref m38, .ref m39, .ref m40, .ref m41, .ref m42, .ref m43, .ref m44, .ref m45, .ref m46])), (m22, .inl (k_rank, 20, .inl a_rank)), (m23, .inl (k_voidSince, 240, .inl a_voidSince))]) [0, 1, 2] rfl
      have hD9 := hD.sub (ws' := [(h0, .inr (9, [.int 0, .ref m1, .int i_length, .int i_size, .int i_p, .ref m5, .ref m6, .ref m7, .int i_token, .int i_at, .int i_number, .int i_fault, .int i_faultAt, .int i_hour, .long i_word, .ref m15, .ref m16, .ref m17, .ref m18, .ref m19, .ref m20, .int i_horses, .ref m22, .ref m23, .ref m24, .ref m25, .ref m26, .ref m27, .ref m28, .ref m29, .ref m30, .ref m31, .ref m32, .ref m33, .ref m34, .int (nI tn9), .int i_riders, .ref m37, .ref m38, .ref m39, .ref m40, .ref m41, .ref m42, .ref m43, .ref m44, .ref m45, .ref m46])), (m22, .inl (k_rank, 20, .inl a_rank)), (m23, .inl (k_voidSince, 240, .inl a_voidSince))]) [0, 1, 2] (by decide) rfl
      have hK9 := hK.sub (tys' := []) [] rfl
      refine W.widen (k := 0) (n := 0) (Nat.le_of_ble_eq_true rfl) (Nat.le_of_ble_eq_true rfl) ?_
      exact W.iret (v := (-1)) hx hb hr (fun t9 ht hW => ⟨⟨_, (), rfl, (by rw [if_neg c_1, if_pos c_2]), (nI tn9), a_rank, a_voidSince, (by first | rfl | simp only [if_neg c_1, if_pos c_2]), (by first | rfl | simp only [if_neg c_1, if_pos c_2]), (by first | rfl | simp only [if_neg c_1, if_pos c_2]), by rw [ht]; exact hP9, va_K.moved hW.alike hK9, hD9⟩, hS.F ht⟩) hS.2.2 dX9_tablet_25
    · refine lv_iload_n hx hb dX9_tablet_19 rfl (lv_at hl 1 rfl) ?_
      refine lv_iconst (v := 3) hx hb dX9_tablet_20 (by decide) ?_
      refine lv_icmp_le (tgt := 26) hx hb dX9_tablet_21 (by decide) (fun c_3 => ?_) (fun c_3 => ?_)
      · refine lv_aload_n hx hb dX9_tablet_26 rfl (lv_at hl 0 rfl) ?_
        refine va_get (D := (dC, dI)) (ci := 9) (v := .ref m22) (C := RX9) (T := TX9) (N := 47) hx hb hts hin9 hown hK hP 0 rfl rfl 22 (by decide) (hts (.fieldLink RX9 42 "YamRidersModel" "rank" "[I") (by decide +kernel)) (fun _ h9 => h9) rfl dX9_tablet_27 ?_
        refine lv_aload_n hx hb dX9_tablet_30 rfl (lv_at hl 0 rfl) ?_
        refine va_get (D := (dC, dI)) (ci := 9) (v := .int (nI tn9)) (C := RX9) (T := TX9) (N := 47) hx hb hts hin9 hown hK hP 0 rfl rfl 35 (by decide) (hts (.fieldLink RX9 205 "YamRidersModel" "tablets" "I") (by decide +kernel)) (fun _ h9 => h9) rfl dX9_tablet_31 ?_
        refine lv_iload_n hx hb dX9_tablet_34 rfl (lv_at hl 1 rfl) ?_
        refine va_iast hx hb hK hP hD hS 1 0 rfl rfl (vp_in_nI (t_lt htn9 c_1) (by decide)) dX9_tablet_35 (fun H locs hP hD hS => ?_)
        have hP : va_P (dC, dI) vwCl [(h0, .inr (9, [.int 0, .ref m1, .int i_length, .int i_size, .int i_p, .ref m5, .ref m6, .ref m7, .int i_token, .int i_at, .int i_number, .int i_fault, .int i_faultAt, .int i_hour, .long i_word, .ref m15, .ref m16, .ref m17, .ref m18, .ref m19, .ref m20, .int i_horses, .ref m22, .ref m23, .ref m24, .ref m25, .ref m26, .ref m27, .ref m28, .ref m29, .ref m30, .ref m31, .ref m32, .ref m33, .ref m34, .int (nI tn9), .int i_riders, .ref m37, .ref m38, .ref m39, .ref m40, .ref m41, .ref m42, .ref m43, .ref m44, .ref m45, .ref m46])), (m22, .inl (k_rank, 20, .inl (upd a_rank (nI tn9).toNatClampNeg p0))), (m23, .inl (k_voidSince, 240, .inl a_voidSince))] H := hP
        have hD : va_D A [(h0, .inr (9, [.int 0, .ref m1, .int i_length, .int i_size, .int i_p, .ref m5, .ref m6, .ref m7, .int i_token, .int i_at, .int i_number, .int i_fault, .int i_faultAt, .int i_hour, .long i_word, .ref m15, .ref m16, .ref m17, .ref m18, .ref m19, .ref m20, .int i_horses, .ref m22, .ref m23, .ref m24, .ref m25, .ref m26, .ref m27, .ref m28, .ref m29, .ref m30, .ref m31, .ref m32, .ref m33, .ref m34, .int (nI tn9), .int i_riders, .ref m37, .ref m38, .ref m39, .ref m40, .ref m41, .ref m42, .ref m43, .ref m44, .ref m45, .ref m46])), (m22, .inl (k_rank, 20, .inl (upd a_rank (nI tn9).toNatClampNeg p0))), (m23, .inl (k_voidSince, 240, .inl a_voidSince))] := hD
        obtain ⟨f_4, ef_4⟩ : ∃ w9 : Nat → Int32, w9 = upd a_rank (nI tn9).toNatClampNeg p0 := ⟨_, rfl⟩
        rw [← ef_4] at hP hD
        refine lv_iconst (v := 0) hx hb dX9_tablet_36 (by decide) ?_
        refine lv_istore_n (lv' := [(2, .int 0), (0, .ref h0), (1, .int p0)]) hx hb dX9_tablet_37 rfl hl (by decide) rfl (fun ls hl => ?_)
        refine lv_iload_n hx hb dX9_tablet_38 rfl (lv_at hl 0 rfl) ?_
        refine lv_bipush (v := 12) hx hb dX9_tablet_39 (by decide) ?_
        refine lv_icmp_ge (tgt := 65) hx hb dX9_tablet_41 (by decide) (fun c_5 => by first | exact absurd c_5 (by decide) | exact absurd (by decide) c_5) (fun _ => ?_)
        refine lv_aload_n hx hb dX9_tablet_44 rfl (lv_at hl 1 rfl) ?_
        refine va_get (D := (dC, dI)) (ci := 9) (v := .ref m23) (C := RX9) (T := TX9) (N := 47) hx hb hts hin9 hown hK hP 0 rfl rfl 23 (by decide) (hts (.fieldLink RX9 45 "YamRidersModel" "voidSince" "[I") (by decide +kernel)) (fun _ h9 => h9) rfl dX9_tablet_45 ?_
        refine lv_bipush (v := 12) hx hb dX9_tablet_48 (by decide) ?_
        refine lv_aload_n hx hb dX9_tablet_50 rfl (lv_at hl 1 rfl) ?_
        refine va_get (D := (dC, dI)) (ci := 9) (v := .int (nI tn9)) (C := RX9) (T := TX9) (N := 47) hx hb hts hin9 hown hK hP 0 rfl rfl 35 (by decide) (hts (.fieldLink RX9 205 "YamRidersModel" "tablets" "I") (by decide +kernel)) (fun _ h9 => h9) rfl dX9_tablet_51 ?_
        refine lv_imul hx hb dX9_tablet_54 ?_
        refine lv_iload_n hx hb dX9_tablet_55 rfl (lv_at hl 0 rfl) ?_
        refine lv_iadd hx hb dX9_tablet_56 ?_
        refine lv_iconst (v := (-1)) hx hb dX9_tablet_57 (by decide) ?_
        refine va_iast hx hb hK hP hD hS 2 1 rfl rfl (ix240 (k := 0) (t_lt htn9 c_1) (by decide) rfl) dX9_tablet_58 (fun H locs hP hD hS => ?_)
        have hP : va_P (dC, dI) vwCl [(h0, .inr (9, [.int 0, .ref m1, .int i_length, .int i_size, .int i_p, .ref m5, .ref m6, .ref m7, .int i_token, .int i_at, .int i_number, .int i_fault, .int i_faultAt, .int i_hour, .long i_word, .ref m15, .ref m16, .ref m17, .ref m18, .ref m19, .ref m20, .int i_horses, .ref m22, .ref m23, .ref m24, .ref m25, .ref m26, .ref m27, .ref m28, .ref m29, .ref m30, .ref m31, .ref m32, .ref m33, .ref m34, .int (nI tn9), .int i_riders, .ref m37, .ref m38, .ref m39, .ref m40, .ref m41, .ref m42, .ref m43, .ref m44, .ref m45, .ref m46])), (m22, .inl (k_rank, 20, .inl f_4)), (m23, .inl (k_voidSince, 240, .inl (upd a_voidSince ((12 * (nI tn9)) + 0).toNatClampNeg (-1))))] H := hP
        have hD : va_D A [(h0, .inr (9, [.int 0, .ref m1, .int i_length, .int i_size, .int i_p, .ref m5, .ref m6, .ref m7, .int i_token, .int i_at, .int i_number, .int i_fault, .int i_faultAt, .int i_hour, .long i_word, .ref m15, .ref m16, .ref m17, .ref m18, .ref m19, .ref m20, .int i_horses, .ref m22, .ref m23, .ref m24, .ref m25, .ref m26, .ref m27, .ref m28, .ref m29, .ref m30, .ref m31, .ref m32, .ref m33, .ref m34, .int (nI tn9), .int i_riders, .ref m37, .ref m38, .ref m39, .ref m40, .ref m41, .ref m42, .ref m43, .ref m44, .ref m45, .ref m46])), (m22, .inl (k_rank, 20, .inl f_4)), (m23, .inl (k_voidSince, 240, .inl (upd a_voidSince ((12 * (nI tn9)) + 0).toNatClampNeg (-1))))] := hD
        obtain ⟨f_6, ef_6⟩ : ∃ w9 : Nat → Int32, w9 = upd a_voidSince ((12 * (nI tn9)) + 0).toNatClampNeg (-1) := ⟨_, rfl⟩
        rw [← ef_6] at hP hD
        refine lv_iinc (v := 1) (lv' := [(2, .int 1), (0, .ref h0), (1, .int p0)]) hx hb dX9_tablet_59 hl (k := 0) rfl (by decide) (by decide) rfl (fun ls hl => ?_)
        refine lv_goto (tgt := 38) hx hb dX9_tablet_62 (by decide) ?_
        refine lv_iload_n hx hb dX9_tablet_38 rfl (lv_at hl 0 rfl) ?_
        refine lv_bipush (v := 12) hx hb dX9_tablet_39 (by decide) ?_
        refine lv_icmp_ge (tgt := 65) hx hb dX9_tablet_41 (by decide) (fun c_7 => by first | exact absurd c_7 (by decide) | exact absurd (by decide) c_7) (fun _ => ?_)
        refine lv_aload_n hx hb dX9_tablet_44 rfl (lv_at hl 1 rfl) ?_
        refine va_get (D := (dC, dI)) (ci := 9) (v := .ref m23) (C := RX9) (T := TX9) (N := 47) hx hb hts hin9 hown hK hP 0 rfl rfl 23 (by decide) (hts (.fieldLink RX9 45 "YamRidersModel" "voidSince" "[I") (by decide +kernel)) (fun _ h9 => h9) rfl dX9_tablet_45 ?_
        refine lv_bipush (v := 12) hx hb dX9_tablet_48 (by decide) ?_
        refine lv_aload_n hx hb dX9_tablet_50 rfl (lv_at hl 1 rfl) ?_
        refine va_get (D := (dC, dI)) (ci := 9) (v := .int (nI tn9)) (C := RX9) (T := TX9) (N := 47) hx hb hts hin9 hown hK hP 0 rfl rfl 35 (by decide) (hts (.fieldLink RX9 205 "YamRidersModel" "tablets" "I") (by decide +kernel)) (fun _ h9 => h9) rfl dX9_tablet_51 ?_
        refine lv_imul hx hb dX9_tablet_54 ?_
        refine lv_iload_n hx hb dX9_tablet_55 rfl (lv_at hl 0 rfl) ?_
        refine lv_iadd hx hb dX9_tablet_56 ?_
        refine lv_iconst (v := (-1)) hx hb dX9_tablet_57 (by decide) ?_
        refine va_iast hx hb hK hP hD hS 2 1 rfl rfl (ix240 (k := 1) (t_lt htn9 c_1) (by decide) rfl) dX9_tablet_58 (fun H locs hP hD hS => ?_)
        have hP : va_P (dC, dI) vwCl [(h0, .inr (9, [.int 0, .ref m1, .int i_length, .int i_size, .int i_p, .ref m5, .ref m6, .ref m7, .int i_token, .int i_at, .int i_number, .int i_fault, .int i_faultAt, .int i_hour, .long i_word, .ref m15, .ref m16, .ref m17, .ref m18, .ref m19, .ref m20, .int i_horses, .ref m22, .ref m23, .ref m24, .ref m25, .ref m26, .ref m27, .ref m28, .ref m29, .ref m30, .ref m31, .ref m32, .ref m33, .ref m34, .int (nI tn9), .int i_riders, .ref m37, .ref m38, .ref m39, .ref m40, .ref m41, .ref m42, .ref m43, .ref m44, .ref m45, .ref m46])), (m22, .inl (k_rank, 20, .inl f_4)), (m23, .inl (k_voidSince, 240, .inl (upd f_6 ((12 * (nI tn9)) + 1).toNatClampNeg (-1))))] H := hP
        have hD : va_D A [(h0, .inr (9, [.int 0, .ref m1, .int i_length, .int i_size, .int i_p, .ref m5, .ref m6, .ref m7, .int i_token, .int i_at, .int i_number, .int i_fault, .int i_faultAt, .int i_hour, .long i_word, .ref m15, .ref m16, .ref m17, .ref m18, .ref m19, .ref m20, .int i_horses, .ref m22, .ref m23, .ref m24, .ref m25, .ref m26, .ref m27, .ref m28, .ref m29, .ref m30, .ref m31, .ref m32, .ref m33, .ref m34, .int (nI tn9), .int i_riders, .ref m37, .ref m38, .ref m39, .ref m40, .ref m41, .ref m42, .ref m43, .ref m44, .ref m45, .ref m46])), (m22, .inl (k_rank, 20, .inl f_4)), (m23, .inl (k_voidSince, 240, .inl (upd f_6 ((12 * (nI tn9)) + 1).toNatClampNeg (-1))))] := hD
        obtain ⟨f_8, ef_8⟩ : ∃ w9 : Nat → Int32, w9 = upd f_6 ((12 * (nI tn9)) + 1).toNatClampNeg (-1) := ⟨_, rfl⟩
        rw [← ef_8] at hP hD
        refine lv_iinc (v := 2) (lv' := [(2, .int 2), (0, .ref h0), (1, .int p0)]) hx hb dX9_tablet_59 hl (k := 0) rfl (by decide) (by decide) rfl (fun ls hl => ?_)
        refine lv_goto (tgt := 38) hx hb dX9_tablet_62 (by decide) ?_
        refine lv_iload_n hx hb dX9_tablet_38 rfl (lv_at hl 0 rfl) ?_
        refine lv_bipush (v := 12) hx hb dX9_tablet_39 (by decide) ?_
        refine lv_icmp_ge (tgt := 65) hx hb dX9_tablet_41 (by decide) (fun c_9 => by first | exact absurd c_9 (by decide) | exact absurd (by decide) c_9) (fun _ => ?_)
        refine lv_aload_n hx hb dX9_tablet_44 rfl (lv_at hl 1 rfl) ?_
        refine va_get (D := (dC, dI)) (ci := 9) (v := .ref m23) (C := RX9) (T := TX9) (N := 47) hx hb hts hin9 hown hK hP 0 rfl rfl 23 (by decide) (hts (.fieldLink RX9 45 "YamRidersModel" "voidSince" "[I") (by decide +kernel)) (fun _ h9 => h9) rfl dX9_tablet_45 ?_
        refine lv_bipush (v := 12) hx hb dX9_tablet_48 (by decide) ?_
        refine lv_aload_n hx hb dX9_tablet_50 rfl (lv_at hl 1 rfl) ?_
        refine va_get (D := (dC, dI)) (ci := 9) (v := .int (nI tn9)) (C := RX9) (T := TX9) (N := 47) hx hb hts hin9 hown hK hP 0 rfl rfl 35 (by decide) (hts (.fieldLink RX9 205 "YamRidersModel" "tablets" "I") (by decide +kernel)) (fun _ h9 => h9) rfl dX9_tablet_51 ?_
        refine lv_imul hx hb dX9_tablet_54 ?_
        refine lv_iload_n hx hb dX9_tablet_55 rfl (lv_at hl 0 rfl) ?_
        refine lv_iadd hx hb dX9_tablet_56 ?_
        refine lv_iconst (v := (-1)) hx hb dX9_tablet_57 (by decide) ?_
        refine va_iast hx hb hK hP hD hS 2 1 rfl rfl (ix240 (k := 2) (t_lt htn9 c_1) (by decide) rfl) dX9_tablet_58 (fun H locs hP hD hS => ?_)
        have hP : va_P (dC, dI) vwCl [(h0, .inr (9, [.int 0, .ref m1, .int i_length, .int i_size, .int i_p, .ref m5, .ref m6, .ref m7, .int i_token, .int i_at, .int i_number, .int i_fault, .int i_faultAt, .int i_hour, .long i_word, .ref m15, .ref m16, .ref m17, .ref m18, .ref m19, .ref m20, .int i_horses, .ref m22, .ref m23, .ref m24, .ref m25, .ref m26, .ref m27, .ref m28, .ref m29, .ref m30, .ref m31, .ref m32, .ref m33, .ref m34, .int (nI tn9), .int i_riders, .ref m37, .ref m38, .ref m39, .ref m40, .ref m41, .ref m42, .ref m43, .ref m44, .ref m45, .ref m46])), (m22, .inl (k_rank, 20, .inl f_4)), (m23, .inl (k_voidSince, 240, .inl (upd f_8 ((12 * (nI tn9)) + 2).toNatClampNeg (-1))))] H := hP
        have hD : va_D A [(h0, .inr (9, [.int 0, .ref m1, .int i_length, .int i_size, .int i_p, .ref m5, .ref m6, .ref m7, .int i_token, .int i_at, .int i_number, .int i_fault, .int i_faultAt, .int i_hour, .long i_word, .ref m15, .ref m16, .ref m17, .ref m18, .ref m19, .ref m20, .int i_horses, .ref m22, .ref m23, .ref m24, .ref m25, .ref m26, .ref m27, .ref m28, .ref m29, .ref m30, .ref m31, .ref m32, .ref m33, .ref m34, .int (nI tn9), .int i_riders, .ref m37, .ref m38, .ref m39, .ref m40, .ref m41, .ref m42, .ref m43, .ref m44, .ref m45, .ref m46])), (m22, .inl (k_rank, 20, .inl f_4)), (m23, .inl (k_voidSince, 240, .inl (upd f_8 ((12 * (nI tn9)) + 2).toNatClampNeg (-1))))] := hD
        obtain ⟨f_10, ef_10⟩ : ∃ w9 : Nat → Int32, w9 = upd f_8 ((12 * (nI tn9)) + 2).toNatClampNeg (-1) := ⟨_, rfl⟩
        rw [← ef_10] at hP hD
        refine lv_iinc (v := 3) (lv' := [(2, .int 3), (0, .ref h0), (1, .int p0)]) hx hb dX9_tablet_59 hl (k := 0) rfl (by decide) (by decide) rfl (fun ls hl => ?_)
        refine lv_goto (tgt := 38) hx hb dX9_tablet_62 (by decide) ?_
        refine lv_iload_n hx hb dX9_tablet_38 rfl (lv_at hl 0 rfl) ?_
        refine lv_bipush (v := 12) hx hb dX9_tablet_39 (by decide) ?_
        refine lv_icmp_ge (tgt := 65) hx hb dX9_tablet_41 (by decide) (fun c_11 => by first | exact absurd c_11 (by decide) | exact absurd (by decide) c_11) (fun _ => ?_)
        refine lv_aload_n hx hb dX9_tablet_44 rfl (lv_at hl 1 rfl) ?_
        refine va_get (D := (dC, dI)) (ci := 9) (v := .ref m23) (C := RX9) (T := TX9) (N := 47) hx hb hts hin9 hown hK hP 0 rfl rfl 23 (by decide) (hts (.fieldLink RX9 45 "YamRidersModel" "voidSince" "[I") (by decide +kernel)) (fun _ h9 => h9) rfl dX9_tablet_45 ?_
        refine lv_bipush (v := 12) hx hb dX9_tablet_48 (by decide) ?_
        refine lv_aload_n hx hb dX9_tablet_50 rfl (lv_at hl 1 rfl) ?_
        refine va_get (D := (dC, dI)) (ci := 9) (v := .int (nI tn9)) (C := RX9) (T := TX9) (N := 47) hx hb hts hin9 hown hK hP 0 rfl rfl 35 (by decide) (hts (.fieldLink RX9 205 "YamRidersModel" "tablets" "I") (by decide +kernel)) (fun _ h9 => h9) rfl dX9_tablet_51 ?_
        refine lv_imul hx hb dX9_tablet_54 ?_
        refine lv_iload_n hx hb dX9_tablet_55 rfl (lv_at hl 0 rfl) ?_
        refine lv_iadd hx hb dX9_tablet_56 ?_
        refine lv_iconst (v := (-1)) hx hb dX9_tablet_57 (by decide) ?_
        refine va_iast hx hb hK hP hD hS 2 1 rfl rfl (ix240 (k := 3) (t_lt htn9 c_1) (by decide) rfl) dX9_tablet_58 (fun H locs hP hD hS => ?_)
        have hP : va_P (dC, dI) vwCl [(h0, .inr (9, [.int 0, .ref m1, .int i_length, .int i_size, .int i_p, .ref m5, .ref m6, .ref m7, .int i_token, .int i_at, .int i_number, .int i_fault, .int i_faultAt, .int i_hour, .long i_word, .ref m15, .ref m16, .ref m17, .ref m18, .ref m19, .ref m20, .int i_horses, .ref m22, .ref m23, .ref m24, .ref m25, .ref m26, .ref m27, .ref m28, .ref m29, .ref m30, .ref m31, .ref m32, .ref m33, .ref m34, .int (nI tn9), .int i_riders, .ref m37, .ref m38, .ref m39, .ref m40, .ref m41, .ref m42, .ref m43, .ref m44, .ref m45, .ref m46])), (m22, .inl (k_rank, 20, .inl f_4)), (m23, .inl (k_voidSince, 240, .inl (upd f_10 ((12 * (nI tn9)) + 3).toNatClampNeg (-1))))] H := hP
        have hD : va_D A [(h0, .inr (9, [.int 0, .ref m1, .int i_length, .int i_size, .int i_p, .ref m5, .ref m6, .ref m7, .int i_token, .int i_at, .int i_number, .int i_fault, .int i_faultAt, .int i_hour, .long i_word, .ref m15, .ref m16, .ref m17, .ref m18, .ref m19, .ref m20, .int i_horses, .ref m22, .ref m23, .ref m24, .ref m25, .ref m26, .ref m27, .ref m28, .ref m29, .ref m30, .ref m31, .ref m32, .ref m33, .ref m34, .int (nI tn9), .int i_riders, .ref m37, .ref m38, .ref m39, .ref m40, .ref m41, .ref m42, .ref m43, .ref m44, .ref m45, .ref m46])), (m22, .inl (k_rank, 20, .inl f_4)), (m23, .inl (k_voidSince, 240, .inl (upd f_10 ((12 * (nI tn9)) + 3).toNatClampNeg (-1))))] := hD
        obtain ⟨f_12, ef_12⟩ : ∃ w9 : Nat → Int32, w9 = upd f_10 ((12 * (nI tn9)) + 3).toNatClampNeg (-1) := ⟨_, rfl⟩
        rw [← ef_12] at hP hD
        refine lv_iinc (v := 4) (lv' := [(2, .int 4), (0, .ref h0), (1, .int p0)]) hx hb dX9_tablet_59 hl (k := 0) rfl (by decide) (by decide) rfl (fun ls hl => ?_)
        refine lv_goto (tgt := 38) hx hb dX9_tablet_62 (by decide) ?_
        refine lv_iload_n hx hb dX9_tablet_38 rfl (lv_at hl 0 rfl) ?_
        refine lv_bipush (v := 12) hx hb dX9_tablet_39 (by decide) ?_
        refine lv_icmp_ge (tgt := 65) hx hb dX9_tablet_41 (by decide) (fun c_13 => by first | exact absurd c_13 (by decide) | exact absurd (by decide) c_13) (fun _ => ?_)
        refine lv_aload_n hx hb dX9_tablet_44 rfl (lv_at hl 1 rfl) ?_
        refine va_get (D := (dC, dI)) (ci := 9) (v := .ref m23) (C := RX9) (T := TX9) (N := 47) hx hb hts hin9 hown hK hP 0 rfl rfl 23 (by decide) (hts (.fieldLink RX9 45 "YamRidersModel" "voidSince" "[I") (by decide +kernel)) (fun _ h9 => h9) rfl dX9_tablet_45 ?_
        refine lv_bipush (v := 12) hx hb dX9_tablet_48 (by decide) ?_
        refine lv_aload_n hx hb dX9_tablet_50 rfl (lv_at hl 1 rfl) ?_
        refine va_get (D := (dC, dI)) (ci := 9) (v := .int (nI tn9)) (C := RX9) (T := TX9) (N := 47) hx hb hts hin9 hown hK hP 0 rfl rfl 35 (by decide) (hts (.fieldLink RX9 205 "YamRidersModel" "tablets" "I") (by decide +kernel)) (fun _ h9 => h9) rfl dX9_tablet_51 ?_
        refine lv_imul hx hb dX9_tablet_54 ?_
        refine lv_iload_n hx hb dX9_tablet_55 rfl (lv_at hl 0 rfl) ?_
        refine lv_iadd hx hb dX9_tablet_56 ?_
        refine lv_iconst (v := (-1)) hx hb dX9_tablet_57 (by decide) ?_
        refine va_iast hx hb hK hP hD hS 2 1 rfl rfl (ix240 (k := 4) (t_lt htn9 c_1) (by decide) rfl) dX9_tablet_58 (fun H locs hP hD hS => ?_)
        have hP : va_P (dC, dI) vwCl [(h0, .inr (9, [.int 0, .ref m1, .int i_length, .int i_size, .int i_p, .ref m5, .ref m6, .ref m7, .int i_token, .int i_at, .int i_number, .int i_fault, .int i_faultAt, .int i_hour, .long i_word, .ref m15, .ref m16, .ref m17, .ref m18, .ref m19, .ref m20, .int i_horses, .ref m22, .ref m23, .ref m24, .ref m25, .ref m26, .ref m27, .ref m28, .ref m29, .ref m30, .ref m31, .ref m32, .ref m33, .ref m34, .int (nI tn9), .int i_riders, .ref m37, .ref m38, .ref m39, .ref m40, .ref m41, .ref m42, .ref m43, .ref m44, .ref m45, .ref m46])), (m22, .inl (k_rank, 20, .inl f_4)), (m23, .inl (k_voidSince, 240, .inl (upd f_12 ((12 * (nI tn9)) + 4).toNatClampNeg (-1))))] H := hP
        have hD : va_D A [(h0, .inr (9, [.int 0, .ref m1, .int i_length, .int i_size, .int i_p, .ref m5, .ref m6, .ref m7, .int i_token, .int i_at, .int i_number, .int i_fault, .int i_faultAt, .int i_hour, .long i_word, .ref m15, .ref m16, .ref m17, .ref m18, .ref m19, .ref m20, .int i_horses, .ref m22, .ref m23, .ref m24, .ref m25, .ref m26, .ref m27, .ref m28, .ref m29, .ref m30, .ref m31, .ref m32, .ref m33, .ref m34, .int (nI tn9), .int i_riders, .ref m37, .ref m38, .ref m39, .ref m40, .ref m41, .ref m42, .ref m43, .ref m44, .ref m45, .ref m46])), (m22, .inl (k_rank, 20, .inl f_4)), (m23, .inl (k_voidSince, 240, .inl (upd f_12 ((12 * (nI tn9)) + 4).toNatClampNeg (-1))))] := hD
        obtain ⟨f_14, ef_14⟩ : ∃ w9 : Nat → Int32, w9 = upd f_12 ((12 * (nI tn9)) + 4).toNatClampNeg (-1) := ⟨_, rfl⟩
        rw [← ef_14] at hP hD
        refine lv_iinc (v := 5) (lv' := [(2, .int 5), (0, .ref h0), (1, .int p0)]) hx hb dX9_tablet_59 hl (k := 0) rfl (by decide) (by decide) rfl (fun ls hl => ?_)
        refine lv_goto (tgt := 38) hx hb dX9_tablet_62 (by decide) ?_
        refine lv_iload_n hx hb dX9_tablet_38 rfl (lv_at hl 0 rfl) ?_
        refine lv_bipush (v := 12) hx hb dX9_tablet_39 (by decide) ?_
        refine lv_icmp_ge (tgt := 65) hx hb dX9_tablet_41 (by decide) (fun c_15 => by first | exact absurd c_15 (by decide) | exact absurd (by decide) c_15) (fun _ => ?_)
        refine lv_aload_n hx hb dX9_tablet_44 rfl (lv_at hl 1 rfl) ?_
        refine va_get (D := (dC, dI)) (ci := 9) (v := .ref m23) (C := RX9) (T := TX9) (N := 47) hx hb hts hin9 hown hK hP 0 rfl rfl 23 (by decide) (hts (.fieldLink RX9 45 "YamRidersModel" "voidSince" "[I") (by decide +kernel)) (fun _ h9 => h9) rfl dX9_tablet_45 ?_
        refine lv_bipush (v := 12) hx hb dX9_tablet_48 (by decide) ?_
        refine lv_aload_n hx hb dX9_tablet_50 rfl (lv_at hl 1 rfl) ?_
        refine va_get (D := (dC, dI)) (ci := 9) (v := .int (nI tn9)) (C := RX9) (T := TX9) (N := 47) hx hb hts hin9 hown hK hP 0 rfl rfl 35 (by decide) (hts (.fieldLink RX9 205 "YamRidersModel" "tablets" "I") (by decide +kernel)) (fun _ h9 => h9) rfl dX9_tablet_51 ?_
        refine lv_imul hx hb dX9_tablet_54 ?_
        refine lv_iload_n hx hb dX9_tablet_55 rfl (lv_at hl 0 rfl) ?_
        refine lv_iadd hx hb dX9_tablet_56 ?_
        refine lv_iconst (v := (-1)) hx hb dX9_tablet_57 (by decide) ?_
        refine va_iast hx hb hK hP hD hS 2 1 rfl rfl (ix240 (k := 5) (t_lt htn9 c_1) (by decide) rfl) dX9_tablet_58 (fun H locs hP hD hS => ?_)
        have hP : va_P (dC, dI) vwCl [(h0, .inr (9, [.int 0, .ref m1, .int i_length, .int i_size, .int i_p, .ref m5, .ref m6, .ref m7, .int i_token, .int i_at, .int i_number, .int i_fault, .int i_faultAt, .int i_hour, .long i_word, .ref m15, .ref m16, .ref m17, .ref m18, .ref m19, .ref m20, .int i_horses, .ref m22, .ref m23, .ref m24, .ref m25, .ref m26, .ref m27, .ref m28, .ref m29, .ref m30, .ref m31, .ref m32, .ref m33, .ref m34, .int (nI tn9), .int i_riders, .ref m37, .ref m38, .ref m39, .ref m40, .ref m41, .ref m42, .ref m43, .ref m44, .ref m45, .ref m46])), (m22, .inl (k_rank, 20, .inl f_4)), (m23, .inl (k_voidSince, 240, .inl (upd f_14 ((12 * (nI tn9)) + 5).toNatClampNeg (-1))))] H := hP
        have hD : va_D A [(h0, .inr (9, [.int 0, .ref m1, .int i_length, .int i_size, .int i_p, .ref m5, .ref m6, .ref m7, .int i_token, .int i_at, .int i_number, .int i_fault, .int i_faultAt, .int i_hour, .long i_word, .ref m15, .ref m16, .ref m17, .ref m18, .ref m19, .ref m20, .int i_horses, .ref m22, .ref m23, .ref m24, .ref m25, .ref m26, .ref m27, .ref m28, .ref m29, .ref m30, .ref m31, .ref m32, .ref m33, .ref m34, .int (nI tn9), .int i_riders, .ref m37, .ref m38, .ref m39, .ref m40, .ref m41, .ref m42, .ref m43, .ref m44, .ref m45, .ref m46])), (m22, .inl (k_rank, 20, .inl f_4)), (m23, .inl (k_voidSince, 240, .inl (upd f_14 ((12 * (nI tn9)) + 5).toNatClampNeg (-1))))] := hD
        obtain ⟨f_16, ef_16⟩ : ∃ w9 : Nat → Int32, w9 = upd f_14 ((12 * (nI tn9)) + 5).toNatClampNeg (-1) := ⟨_, rfl⟩
        rw [← ef_16] at hP hD
        refine lv_iinc (v := 6) (lv' := [(2, .int 6), (0, .ref h0), (1, .int p0)]) hx hb dX9_tablet_59 hl (k := 0) rfl (by decide) (by decide) rfl (fun ls hl => ?_)
        refine lv_goto (tgt := 38) hx hb dX9_tablet_62 (by decide) ?_
        refine lv_iload_n hx hb dX9_tablet_38 rfl (lv_at hl 0 rfl) ?_
        refine lv_bipush (v := 12) hx hb dX9_tablet_39 (by decide) ?_
        refine lv_icmp_ge (tgt := 65) hx hb dX9_tablet_41 (by decide) (fun c_17 => by first | exact absurd c_17 (by decide) | exact absurd (by decide) c_17) (fun _ => ?_)
        refine lv_aload_n hx hb dX9_tablet_44 rfl (lv_at hl 1 rfl) ?_
        refine va_get (D := (dC, dI)) (ci := 9) (v := .ref m23) (C := RX9) (T := TX9) (N := 47) hx hb hts hin9 hown hK hP 0 rfl rfl 23 (by decide) (hts (.fieldLink RX9 45 "YamRidersModel" "voidSince" "[I") (by decide +kernel)) (fun _ h9 => h9) rfl dX9_tablet_45 ?_
        refine lv_bipush (v := 12) hx hb dX9_tablet_48 (by decide) ?_
        refine lv_aload_n hx hb dX9_tablet_50 rfl (lv_at hl 1 rfl) ?_
        refine va_get (D := (dC, dI)) (ci := 9) (v := .int (nI tn9)) (C := RX9) (T := TX9) (N := 47) hx hb hts hin9 hown hK hP 0 rfl rfl 35 (by decide) (hts (.fieldLink RX9 205 "YamRidersModel" "tablets" "I") (by decide +kernel)) (fun _ h9 => h9) rfl dX9_tablet_51 ?_
        refine lv_imul hx hb dX9_tablet_54 ?_
        refine lv_iload_n hx hb dX9_tablet_55 rfl (lv_at hl 0 rfl) ?_
        refine lv_iadd hx hb dX9_tablet_56 ?_
        refine lv_iconst (v := (-1)) hx hb dX9_tablet_57 (by decide) ?_
        refine va_iast hx hb hK hP hD hS 2 1 rfl rfl (ix240 (k := 6) (t_lt htn9 c_1) (by decide) rfl) dX9_tablet_58 (fun H locs hP hD hS => ?_)
        have hP : va_P (dC, dI) vwCl [(h0, .inr (9, [.int 0, .ref m1, .int i_length, .int i_size, .int i_p, .ref m5, .ref m6, .ref m7, .int i_token, .int i_at, .int i_number, .int i_fault, .int i_faultAt, .int i_hour, .long i_word, .ref m15, .ref m16, .ref m17, .ref m18, .ref m19, .ref m20, .int i_horses, .ref m22, .ref m23, .ref m24, .ref m25, .ref m26, .ref m27, .ref m28, .ref m29, .ref m30, .ref m31, .ref m32, .ref m33, .ref m34, .int (nI tn9), .int i_riders, .ref m37, .ref m38, .ref m39, .ref m40, .ref m41, .ref m42, .ref m43, .ref m44, .ref m45, .ref m46])), (m22, .inl (k_rank, 20, .inl f_4)), (m23, .inl (k_voidSince, 240, .inl (upd f_16 ((12 * (nI tn9)) + 6).toNatClampNeg (-1))))] H := hP
        have hD : va_D A [(h0, .inr (9, [.int 0, .ref m1, .int i_length, .int i_size, .int i_p, .ref m5, .ref m6, .ref m7, .int i_token, .int i_at, .int i_number, .int i_fault, .int i_faultAt, .int i_hour, .long i_word, .ref m15, .ref m16, .ref m17, .ref m18, .ref m19, .ref m20, .int i_horses, .ref m22, .ref m23, .ref m24, .ref m25, .ref m26, .ref m27, .ref m28, .ref m29, .ref m30, .ref m31, .ref m32, .ref m33, .ref m34, .int (nI tn9), .int i_riders, .ref m37, .ref m38, .ref m39, .ref m40, .ref m41, .ref m42, .ref m43, .ref m44, .ref m45, .ref m46])), (m22, .inl (k_rank, 20, .inl f_4)), (m23, .inl (k_voidSince, 240, .inl (upd f_16 ((12 * (nI tn9)) + 6).toNatClampNeg (-1))))] := hD
        obtain ⟨f_18, ef_18⟩ : ∃ w9 : Nat → Int32, w9 = upd f_16 ((12 * (nI tn9)) + 6).toNatClampNeg (-1) := ⟨_, rfl⟩
        rw [← ef_18] at hP hD
        refine lv_iinc (v := 7) (lv' := [(2, .int 7), (0, .ref h0), (1, .int p0)]) hx hb dX9_tablet_59 hl (k := 0) rfl (by decide) (by decide) rfl (fun ls hl => ?_)
        refine lv_goto (tgt := 38) hx hb dX9_tablet_62 (by decide) ?_
        refine lv_iload_n hx hb dX9_tablet_38 rfl (lv_at hl 0 rfl) ?_
        refine lv_bipush (v := 12) hx hb dX9_tablet_39 (by decide) ?_
        refine lv_icmp_ge (tgt := 65) hx hb dX9_tablet_41 (by decide) (fun c_19 => by first | exact absurd c_19 (by decide) | exact absurd (by decide) c_19) (fun _ => ?_)
        refine lv_aload_n hx hb dX9_tablet_44 rfl (lv_at hl 1 rfl) ?_
        refine va_get (D := (dC, dI)) (ci := 9) (v := .ref m23) (C := RX9) (T := TX9) (N := 47) hx hb hts hin9 hown hK hP 0 rfl rfl 23 (by decide) (hts (.fieldLink RX9 45 "YamRidersModel" "voidSince" "[I") (by decide +kernel)) (fun _ h9 => h9) rfl dX9_tablet_45 ?_
        refine lv_bipush (v := 12) hx hb dX9_tablet_48 (by decide) ?_
        refine lv_aload_n hx hb dX9_tablet_50 rfl (lv_at hl 1 rfl) ?_
        refine va_get (D := (dC, dI)) (ci := 9) (v := .int (nI tn9)) (C := RX9) (T := TX9) (N := 47) hx hb hts hin9 hown hK hP 0 rfl rfl 35 (by decide) (hts (.fieldLink RX9 205 "YamRidersModel" "tablets" "I") (by decide +kernel)) (fun _ h9 => h9) rfl dX9_tablet_51 ?_
        refine lv_imul hx hb dX9_tablet_54 ?_
        refine lv_iload_n hx hb dX9_tablet_55 rfl (lv_at hl 0 rfl) ?_
        refine lv_iadd hx hb dX9_tablet_56 ?_
        refine lv_iconst (v := (-1)) hx hb dX9_tablet_57 (by decide) ?_
        refine va_iast hx hb hK hP hD hS 2 1 rfl rfl (ix240 (k := 7) (t_lt htn9 c_1) (by decide) rfl) dX9_tablet_58 (fun H locs hP hD hS => ?_)
        have hP : va_P (dC, dI) vwCl [(h0, .inr (9, [.int 0, .ref m1, .int i_length, .int i_size, .int i_p, .ref m5, .ref m6, .ref m7, .int i_token, .int i_at, .int i_number, .int i_fault, .int i_faultAt, .int i_hour, .long i_word, .ref m15, .ref m16, .ref m17, .ref m18, .ref m19, .ref m20, .int i_horses, .ref m22, .ref m23, .ref m24, .ref m25, .ref m26, .ref m27, .ref m28, .ref m29, .ref m30, .ref m31, .ref m32, .ref m33, .ref m34, .int (nI tn9), .int i_riders, .ref m37, .ref m38, .ref m39, .ref m40, .ref m41, .ref m42, .ref m43, .ref m44, .ref m45, .ref m46])), (m22, .inl (k_rank, 20, .inl f_4)), (m23, .inl (k_voidSince, 240, .inl (upd f_18 ((12 * (nI tn9)) + 7).toNatClampNeg (-1))))] H := hP
        have hD : va_D A [(h0, .inr (9, [.int 0, .ref m1, .int i_length, .int i_size, .int i_p, .ref m5, .ref m6, .ref m7, .int i_token, .int i_at, .int i_number, .int i_fault, .int i_faultAt, .int i_hour, .long i_word, .ref m15, .ref m16, .ref m17, .ref m18, .ref m19, .ref m20, .int i_horses, .ref m22, .ref m23, .ref m24, .ref m25, .ref m26, .ref m27, .ref m28, .ref m29, .ref m30, .ref m31, .ref m32, .ref m33, .ref m34, .int (nI tn9), .int i_riders, .ref m37, .ref m38, .ref m39, .ref m40, .ref m41, .ref m42, .ref m43, .ref m44, .ref m45, .ref m46])), (m22, .inl (k_rank, 20, .inl f_4)), (m23, .inl (k_voidSince, 240, .inl (upd f_18 ((12 * (nI tn9)) + 7).toNatClampNeg (-1))))] := hD
        obtain ⟨f_20, ef_20⟩ : ∃ w9 : Nat → Int32, w9 = upd f_18 ((12 * (nI tn9)) + 7).toNatClampNeg (-1) := ⟨_, rfl⟩
        rw [← ef_20] at hP hD
        refine lv_iinc (v := 8) (lv' := [(2, .int 8), (0, .ref h0), (1, .int p0)]) hx hb dX9_tablet_59 hl (k := 0) rfl (by decide) (by decide) rfl (fun ls hl => ?_)
        refine lv_goto (tgt := 38) hx hb dX9_tablet_62 (by decide) ?_
        refine lv_iload_n hx hb dX9_tablet_38 rfl (lv_at hl 0 rfl) ?_
        refine lv_bipush (v := 12) hx hb dX9_tablet_39 (by decide) ?_
        refine lv_icmp_ge (tgt := 65) hx hb dX9_tablet_41 (by decide) (fun c_21 => by first | exact absurd c_21 (by decide) | exact absurd (by decide) c_21) (fun _ => ?_)
        refine lv_aload_n hx hb dX9_tablet_44 rfl (lv_at hl 1 rfl) ?_
        refine va_get (D := (dC, dI)) (ci := 9) (v := .ref m23) (C := RX9) (T := TX9) (N := 47) hx hb hts hin9 hown hK hP 0 rfl rfl 23 (by decide) (hts (.fieldLink RX9 45 "YamRidersModel" "voidSince" "[I") (by decide +kernel)) (fun _ h9 => h9) rfl dX9_tablet_45 ?_
        refine lv_bipush (v := 12) hx hb dX9_tablet_48 (by decide) ?_
        refine lv_aload_n hx hb dX9_tablet_50 rfl (lv_at hl 1 rfl) ?_
        refine va_get (D := (dC, dI)) (ci := 9) (v := .int (nI tn9)) (C := RX9) (T := TX9) (N := 47) hx hb hts hin9 hown hK hP 0 rfl rfl 35 (by decide) (hts (.fieldLink RX9 205 "YamRidersModel" "tablets" "I") (by decide +kernel)) (fun _ h9 => h9) rfl dX9_tablet_51 ?_
        refine lv_imul hx hb dX9_tablet_54 ?_
        refine lv_iload_n hx hb dX9_tablet_55 rfl (lv_at hl 0 rfl) ?_
        refine lv_iadd hx hb dX9_tablet_56 ?_
        refine lv_iconst (v := (-1)) hx hb dX9_tablet_57 (by decide) ?_
        refine va_iast hx hb hK hP hD hS 2 1 rfl rfl (ix240 (k := 8) (t_lt htn9 c_1) (by decide) rfl) dX9_tablet_58 (fun H locs hP hD hS => ?_)
        have hP : va_P (dC, dI) vwCl [(h0, .inr (9, [.int 0, .ref m1, .int i_length, .int i_size, .int i_p, .ref m5, .ref m6, .ref m7, .int i_token, .int i_at, .int i_number, .int i_fault, .int i_faultAt, .int i_hour, .long i_word, .ref m15, .ref m16, .ref m17, .ref m18, .ref m19, .ref m20, .int i_horses, .ref m22, .ref m23, .ref m24, .ref m25, .ref m26, .ref m27, .ref m28, .ref m29, .ref m30, .ref m31, .ref m32, .ref m33, .ref m34, .int (nI tn9), .int i_riders, .ref m37, .ref m38, .ref m39, .ref m40, .ref m41, .ref m42, .ref m43, .ref m44, .ref m45, .ref m46])), (m22, .inl (k_rank, 20, .inl f_4)), (m23, .inl (k_voidSince, 240, .inl (upd f_20 ((12 * (nI tn9)) + 8).toNatClampNeg (-1))))] H := hP
        have hD : va_D A [(h0, .inr (9, [.int 0, .ref m1, .int i_length, .int i_size, .int i_p, .ref m5, .ref m6, .ref m7, .int i_token, .int i_at, .int i_number, .int i_fault, .int i_faultAt, .int i_hour, .long i_word, .ref m15, .ref m16, .ref m17, .ref m18, .ref m19, .ref m20, .int i_horses, .ref m22, .ref m23, .ref m24, .ref m25, .ref m26, .ref m27, .ref m28, .ref m29, .ref m30, .ref m31, .ref m32, .ref m33, .ref m34, .int (nI tn9), .int i_riders, .ref m37, .ref m38, .ref m39, .ref m40, .ref m41, .ref m42, .ref m43, .ref m44, .ref m45, .ref m46])), (m22, .inl (k_rank, 20, .inl f_4)), (m23, .inl (k_voidSince, 240, .inl (upd f_20 ((12 * (nI tn9)) + 8).toNatClampNeg (-1))))] := hD
        obtain ⟨f_22, ef_22⟩ : ∃ w9 : Nat → Int32, w9 = upd f_20 ((12 * (nI tn9)) + 8).toNatClampNeg (-1) := ⟨_, rfl⟩
        rw [← ef_22] at hP hD
        refine lv_iinc (v := 9) (lv' := [(2, .int 9), (0, .ref h0), (1, .int p0)]) hx hb dX9_tablet_59 hl (k := 0) rfl (by decide) (by decide) rfl (fun ls hl => ?_)
        refine lv_goto (tgt := 38) hx hb dX9_tablet_62 (by decide) ?_
        refine lv_iload_n hx hb dX9_tablet_38 rfl (lv_at hl 0 rfl) ?_
        refine lv_bipush (v := 12) hx hb dX9_tablet_39 (by decide) ?_
        refine lv_icmp_ge (tgt := 65) hx hb dX9_tablet_41 (by decide) (fun c_23 => by first | exact absurd c_23 (by decide) | exact absurd (by decide) c_23) (fun _ => ?_)
        refine lv_aload_n hx hb dX9_tablet_44 rfl (lv_at hl 1 rfl) ?_
        refine va_get (D := (dC, dI)) (ci := 9) (v := .ref m23) (C := RX9) (T := TX9) (N := 47) hx hb hts hin9 hown hK hP 0 rfl rfl 23 (by decide) (hts (.fieldLink RX9 45 "YamRidersModel" "voidSince" "[I") (by decide +kernel)) (fun _ h9 => h9) rfl dX9_tablet_45 ?_
        refine lv_bipush (v := 12) hx hb dX9_tablet_48 (by decide) ?_
        refine lv_aload_n hx hb dX9_tablet_50 rfl (lv_at hl 1 rfl) ?_
        refine va_get (D := (dC, dI)) (ci := 9) (v := .int (nI tn9)) (C := RX9) (T := TX9) (N := 47) hx hb hts hin9 hown hK hP 0 rfl rfl 35 (by decide) (hts (.fieldLink RX9 205 "YamRidersModel" "tablets" "I") (by decide +kernel)) (fun _ h9 => h9) rfl dX9_tablet_51 ?_
        refine lv_imul hx hb dX9_tablet_54 ?_
        refine lv_iload_n hx hb dX9_tablet_55 rfl (lv_at hl 0 rfl) ?_
        refine lv_iadd hx hb dX9_tablet_56 ?_
        refine lv_iconst (v := (-1)) hx hb dX9_tablet_57 (by decide) ?_
        refine va_iast hx hb hK hP hD hS 2 1 rfl rfl (ix240 (k := 9) (t_lt htn9 c_1) (by decide) rfl) dX9_tablet_58 (fun H locs hP hD hS => ?_)
        have hP : va_P (dC, dI) vwCl [(h0, .inr (9, [.int 0, .ref m1, .int i_length, .int i_size, .int i_p, .ref m5, .ref m6, .ref m7, .int i_token, .int i_at, .int i_number, .int i_fault, .int i_faultAt, .int i_hour, .long i_word, .ref m15, .ref m16, .ref m17, .ref m18, .ref m19, .ref m20, .int i_horses, .ref m22, .ref m23, .ref m24, .ref m25, .ref m26, .ref m27, .ref m28, .ref m29, .ref m30, .ref m31, .ref m32, .ref m33, .ref m34, .int (nI tn9), .int i_riders, .ref m37, .ref m38, .ref m39, .ref m40, .ref m41, .ref m42, .ref m43, .ref m44, .ref m45, .ref m46])), (m22, .inl (k_rank, 20, .inl f_4)), (m23, .inl (k_voidSince, 240, .inl (upd f_22 ((12 * (nI tn9)) + 9).toNatClampNeg (-1))))] H := hP
        have hD : va_D A [(h0, .inr (9, [.int 0, .ref m1, .int i_length, .int i_size, .int i_p, .ref m5, .ref m6, .ref m7, .int i_token, .int i_at, .int i_number, .int i_fault, .int i_faultAt, .int i_hour, .long i_word, .ref m15, .ref m16, .ref m17, .ref m18, .ref m19, .ref m20, .int i_horses, .ref m22, .ref m23, .ref m24, .ref m25, .ref m26, .ref m27, .ref m28, .ref m29, .ref m30, .ref m31, .ref m32, .ref m33, .ref m34, .int (nI tn9), .int i_riders, .ref m37, .ref m38, .ref m39, .ref m40, .ref m41, .ref m42, .ref m43, .ref m44, .ref m45, .ref m46])), (m22, .inl (k_rank, 20, .inl f_4)), (m23, .inl (k_voidSince, 240, .inl (upd f_22 ((12 * (nI tn9)) + 9).toNatClampNeg (-1))))] := hD
        obtain ⟨f_24, ef_24⟩ : ∃ w9 : Nat → Int32, w9 = upd f_22 ((12 * (nI tn9)) + 9).toNatClampNeg (-1) := ⟨_, rfl⟩
        rw [← ef_24] at hP hD
        refine lv_iinc (v := 10) (lv' := [(2, .int 10), (0, .ref h0), (1, .int p0)]) hx hb dX9_tablet_59 hl (k := 0) rfl (by decide) (by decide) rfl (fun ls hl => ?_)
        refine lv_goto (tgt := 38) hx hb dX9_tablet_62 (by decide) ?_
        refine lv_iload_n hx hb dX9_tablet_38 rfl (lv_at hl 0 rfl) ?_
        refine lv_bipush (v := 12) hx hb dX9_tablet_39 (by decide) ?_
        refine lv_icmp_ge (tgt := 65) hx hb dX9_tablet_41 (by decide) (fun c_25 => by first | exact absurd c_25 (by decide) | exact absurd (by decide) c_25) (fun _ => ?_)
        refine lv_aload_n hx hb dX9_tablet_44 rfl (lv_at hl 1 rfl) ?_
        refine va_get (D := (dC, dI)) (ci := 9) (v := .ref m23) (C := RX9) (T := TX9) (N := 47) hx hb hts hin9 hown hK hP 0 rfl rfl 23 (by decide) (hts (.fieldLink RX9 45 "YamRidersModel" "voidSince" "[I") (by decide +kernel)) (fun _ h9 => h9) rfl dX9_tablet_45 ?_
        refine lv_bipush (v := 12) hx hb dX9_tablet_48 (by decide) ?_
        refine lv_aload_n hx hb dX9_tablet_50 rfl (lv_at hl 1 rfl) ?_
        refine va_get (D := (dC, dI)) (ci := 9) (v := .int (nI tn9)) (C := RX9) (T := TX9) (N := 47) hx hb hts hin9 hown hK hP 0 rfl rfl 35 (by decide) (hts (.fieldLink RX9 205 "YamRidersModel" "tablets" "I") (by decide +kernel)) (fun _ h9 => h9) rfl dX9_tablet_51 ?_
        refine lv_imul hx hb dX9_tablet_54 ?_
        refine lv_iload_n hx hb dX9_tablet_55 rfl (lv_at hl 0 rfl) ?_
        refine lv_iadd hx hb dX9_tablet_56 ?_
        refine lv_iconst (v := (-1)) hx hb dX9_tablet_57 (by decide) ?_
        refine va_iast hx hb hK hP hD hS 2 1 rfl rfl (ix240 (k := 10) (t_lt htn9 c_1) (by decide) rfl) dX9_tablet_58 (fun H locs hP hD hS => ?_)
        have hP : va_P (dC, dI) vwCl [(h0, .inr (9, [.int 0, .ref m1, .int i_length, .int i_size, .int i_p, .ref m5, .ref m6, .ref m7, .int i_token, .int i_at, .int i_number, .int i_fault, .int i_faultAt, .int i_hour, .long i_word, .ref m15, .ref m16, .ref m17, .ref m18, .ref m19, .ref m20, .int i_horses, .ref m22, .ref m23, .ref m24, .ref m25, .ref m26, .ref m27, .ref m28, .ref m29, .ref m30, .ref m31, .ref m32, .ref m33, .ref m34, .int (nI tn9), .int i_riders, .ref m37, .ref m38, .ref m39, .ref m40, .ref m41, .ref m42, .ref m43, .ref m44, .ref m45, .ref m46])), (m22, .inl (k_rank, 20, .inl f_4)), (m23, .inl (k_voidSince, 240, .inl (upd f_24 ((12 * (nI tn9)) + 10).toNatClampNeg (-1))))] H := hP
        have hD : va_D A [(h0, .inr (9, [.int 0, .ref m1, .int i_length, .int i_size, .int i_p, .ref m5, .ref m6, .ref m7, .int i_token, .int i_at, .int i_number, .int i_fault, .int i_faultAt, .int i_hour, .long i_word, .ref m15, .ref m16, .ref m17, .ref m18, .ref m19, .ref m20, .int i_horses, .ref m22, .ref m23, .ref m24, .ref m25, .ref m26, .ref m27, .ref m28, .ref m29, .ref m30, .ref m31, .ref m32, .ref m33, .ref m34, .int (nI tn9), .int i_riders, .ref m37, .ref m38, .ref m39, .ref m40, .ref m41, .ref m42, .ref m43, .ref m44, .ref m45, .ref m46])), (m22, .inl (k_rank, 20, .inl f_4)), (m23, .inl (k_voidSince, 240, .inl (upd f_24 ((12 * (nI tn9)) + 10).toNatClampNeg (-1))))] := hD
        obtain ⟨f_26, ef_26⟩ : ∃ w9 : Nat → Int32, w9 = upd f_24 ((12 * (nI tn9)) + 10).toNatClampNeg (-1) := ⟨_, rfl⟩
        rw [← ef_26] at hP hD
        refine lv_iinc (v := 11) (lv' := [(2, .int 11), (0, .ref h0), (1, .int p0)]) hx hb dX9_tablet_59 hl (k := 0) rfl (by decide) (by decide) rfl (fun ls hl => ?_)
        refine lv_goto (tgt := 38) hx hb dX9_tablet_62 (by decide) ?_
        refine lv_iload_n hx hb dX9_tablet_38 rfl (lv_at hl 0 rfl) ?_
        refine lv_bipush (v := 12) hx hb dX9_tablet_39 (by decide) ?_
        refine lv_icmp_ge (tgt := 65) hx hb dX9_tablet_41 (by decide) (fun c_27 => by first | exact absurd c_27 (by decide) | exact absurd (by decide) c_27) (fun _ => ?_)
        refine lv_aload_n hx hb dX9_tablet_44 rfl (lv_at hl 1 rfl) ?_
        refine va_get (D := (dC, dI)) (ci := 9) (v := .ref m23) (C := RX9) (T := TX9) (N := 47) hx hb hts hin9 hown hK hP 0 rfl rfl 23 (by decide) (hts (.fieldLink RX9 45 "YamRidersModel" "voidSince" "[I") (by decide +kernel)) (fun _ h9 => h9) rfl dX9_tablet_45 ?_
        refine lv_bipush (v := 12) hx hb dX9_tablet_48 (by decide) ?_
        refine lv_aload_n hx hb dX9_tablet_50 rfl (lv_at hl 1 rfl) ?_
        refine va_get (D := (dC, dI)) (ci := 9) (v := .int (nI tn9)) (C := RX9) (T := TX9) (N := 47) hx hb hts hin9 hown hK hP 0 rfl rfl 35 (by decide) (hts (.fieldLink RX9 205 "YamRidersModel" "tablets" "I") (by decide +kernel)) (fun _ h9 => h9) rfl dX9_tablet_51 ?_
        refine lv_imul hx hb dX9_tablet_54 ?_
        refine lv_iload_n hx hb dX9_tablet_55 rfl (lv_at hl 0 rfl) ?_
        refine lv_iadd hx hb dX9_tablet_56 ?_
        refine lv_iconst (v := (-1)) hx hb dX9_tablet_57 (by decide) ?_
        refine va_iast hx hb hK hP hD hS 2 1 rfl rfl (ix240 (k := 11) (t_lt htn9 c_1) (by decide) rfl) dX9_tablet_58 (fun H locs hP hD hS => ?_)
        have hP : va_P (dC, dI) vwCl [(h0, .inr (9, [.int 0, .ref m1, .int i_length, .int i_size, .int i_p, .ref m5, .ref m6, .ref m7, .int i_token, .int i_at, .int i_number, .int i_fault, .int i_faultAt, .int i_hour, .long i_word, .ref m15, .ref m16, .ref m17, .ref m18, .ref m19, .ref m20, .int i_horses, .ref m22, .ref m23, .ref m24, .ref m25, .ref m26, .ref m27, .ref m28, .ref m29, .ref m30, .ref m31, .ref m32, .ref m33, .ref m34, .int (nI tn9), .int i_riders, .ref m37, .ref m38, .ref m39, .ref m40, .ref m41, .ref m42, .ref m43, .ref m44, .ref m45, .ref m46])), (m22, .inl (k_rank, 20, .inl f_4)), (m23, .inl (k_voidSince, 240, .inl (upd f_26 ((12 * (nI tn9)) + 11).toNatClampNeg (-1))))] H := hP
        have hD : va_D A [(h0, .inr (9, [.int 0, .ref m1, .int i_length, .int i_size, .int i_p, .ref m5, .ref m6, .ref m7, .int i_token, .int i_at, .int i_number, .int i_fault, .int i_faultAt, .int i_hour, .long i_word, .ref m15, .ref m16, .ref m17, .ref m18, .ref m19, .ref m20, .int i_horses, .ref m22, .ref m23, .ref m24, .ref m25, .ref m26, .ref m27, .ref m28, .ref m29, .ref m30, .ref m31, .ref m32, .ref m33, .ref m34, .int (nI tn9), .int i_riders, .ref m37, .ref m38, .ref m39, .ref m40, .ref m41, .ref m42, .ref m43, .ref m44, .ref m45, .ref m46])), (m22, .inl (k_rank, 20, .inl f_4)), (m23, .inl (k_voidSince, 240, .inl (upd f_26 ((12 * (nI tn9)) + 11).toNatClampNeg (-1))))] := hD
        obtain ⟨f_28, ef_28⟩ : ∃ w9 : Nat → Int32, w9 = upd f_26 ((12 * (nI tn9)) + 11).toNatClampNeg (-1) := ⟨_, rfl⟩
        rw [← ef_28] at hP hD
        refine lv_iinc (v := 12) (lv' := [(2, .int 12), (0, .ref h0), (1, .int p0)]) hx hb dX9_tablet_59 hl (k := 0) rfl (by decide) (by decide) rfl (fun ls hl => ?_)
        refine lv_goto (tgt := 38) hx hb dX9_tablet_62 (by decide) ?_
        refine lv_iload_n hx hb dX9_tablet_38 rfl (lv_at hl 0 rfl) ?_
        refine lv_bipush (v := 12) hx hb dX9_tablet_39 (by decide) ?_
        refine lv_icmp_ge (tgt := 65) hx hb dX9_tablet_41 (by decide) (fun _ => ?_) (fun c_29 => by first | exact absurd c_29 (by decide) | exact absurd (by decide) c_29)
        refine lv_aload_n hx hb dX9_tablet_65 rfl (lv_at hl 1 rfl) ?_
        refine lv_dup hx hb dX9_tablet_66 rfl ?_
        refine va_get (D := (dC, dI)) (ci := 9) (v := .int (nI tn9)) (C := RX9) (T := TX9) (N := 47) hx hb hts hin9 hown hK hP 0 rfl rfl 35 (by decide) (hts (.fieldLink RX9 205 "YamRidersModel" "tablets" "I") (by decide +kernel)) (fun _ h9 => h9) rfl dX9_tablet_67 ?_
        refine lv_iconst (v := 1) hx hb dX9_tablet_70 (by decide) ?_
        refine lv_iadd hx hb dX9_tablet_71 ?_
        refine va_put (D := (dC, dI)) (ci := 9) (v := .int ((nI tn9) + 1)) (ty := (tyX9 35)) (C := RX9) (T := TX9) (N := 47) hx hb hts hin9 tyX9 tyX9_ok nmX9 hown hK hP hD hS 0 rfl rfl 35 (by decide) (hts (.fieldLink RX9 205 "YamRidersModel" "tablets" "I") (by decide +kernel)) (fun _ h9 => h9) rfl (by decide +kernel) rfl rfl (Nat.le_of_ble_eq_true rfl) dX9_tablet_72 (fun H locs hP hD hS => ?_)
        have hP : va_P (dC, dI) vwCl [(h0, .inr (9, [.int 0, .ref m1, .int i_length, .int i_size, .int i_p, .ref m5, .ref m6, .ref m7, .int i_token, .int i_at, .int i_number, .int i_fault, .int i_faultAt, .int i_hour, .long i_word, .ref m15, .ref m16, .ref m17, .ref m18, .ref m19, .ref m20, .int i_horses, .ref m22, .ref m23, .ref m24, .ref m25, .ref m26, .ref m27, .ref m28, .ref m29, .ref m30, .ref m31, .ref m32, .ref m33, .ref m34, .int ((nI tn9) + 1), .int i_riders, .ref m37, .ref m38, .ref m39, .ref m40, .ref m41, .ref m42, .ref m43, .ref m44, .ref m45, .ref m46])), (m22, .inl (k_rank, 20, .inl f_4)), (m23, .inl (k_voidSince, 240, .inl f_28))] H := hP
        have hD : va_D A [(h0, .inr (9, [.int 0, .ref m1, .int i_length, .int i_size, .int i_p, .ref m5, .ref m6, .ref m7, .int i_token, .int i_at, .int i_number, .int i_fault, .int i_faultAt, .int i_hour, .long i_word, .ref m15, .ref m16, .ref m17, .ref m18, .ref m19, .ref m20, .int i_horses, .ref m22, .ref m23, .ref m24, .ref m25, .ref m26, .ref m27, .ref m28, .ref m29, .ref m30, .ref m31, .ref m32, .ref m33, .ref m34, .int ((nI tn9) + 1), .int i_riders, .ref m37, .ref m38, .ref m39, .ref m40, .ref m41, .ref m42, .ref m43, .ref m44, .ref m45, .ref m46])), (m22, .inl (k_rank, 20, .inl f_4)), (m23, .inl (k_voidSince, 240, .inl f_28))] := hD
        refine lv_aload_n hx hb dX9_tablet_75 rfl (lv_at hl 1 rfl) ?_
        refine va_get (D := (dC, dI)) (ci := 9) (v := .int ((nI tn9) + 1)) (C := RX9) (T := TX9) (N := 47) hx hb hts hin9 hown hK hP 0 rfl rfl 35 (by decide) (hts (.fieldLink RX9 205 "YamRidersModel" "tablets" "I") (by decide +kernel)) (fun _ h9 => h9) rfl dX9_tablet_76 ?_
        refine lv_iconst (v := 1) hx hb dX9_tablet_79 (by decide) ?_
        refine lv_isub hx hb dX9_tablet_80 ?_
        have hP9 := hP.sub (ws' := [(h0, .inr (9, [.int 0, .ref m1, .int i_length, .int i_size, .int i_p, .ref m5, .ref m6, .ref m7, .int i_token, .int i_at, .int i_number, .int i_fault, .int i_faultAt, .int i_hour, .long i_word, .ref m15, .ref m16, .ref m17, .ref m18, .ref m19, .ref m20, .int i_horses, .ref m22, .ref m23, .ref m24, .ref m25, .ref m26, .ref m27, .ref m28, .ref m29, .ref m30, .ref m31, .ref m32, .ref m33, .ref m34, .int ((nI tn9) + 1), .int i_riders, .ref m37, .ref m38, .ref m39, .ref m40, .ref m41, .ref m42, .ref m43, .ref m44, .ref m45, .ref m46])), (m22, .inl (k_rank, 20, .inl f_4)), (m23, .inl (k_voidSince, 240, .inl f_28))]) [0, 1, 2] rfl
        have hD9 := hD.sub (ws' := [(h0, .inr (9, [.int 0, .ref m1, .int i_length, .int i_size, .int i_p, .ref m5, .ref m6, .ref m7, .int i_token, .int i_at, .int i_number, .int i_fault, .int i_faultAt, .int i_hour, .long i_word, .ref m15, .ref m16, .ref m17, .ref m18, .ref m19, .ref m20, .int i_horses, .ref m22, .ref m23, .ref m24, .ref m25, .ref m26, .ref m27, .ref m28, .ref m29, .ref m30, .ref m31, .ref m32, .ref m33, .ref m34, .int ((nI tn9) + 1), .int i_riders, .ref m37, .ref m38, .ref m39, .ref m40, .ref m41, .ref m42, .ref m43, .ref m44, .ref m45, .ref m46])), (m22, .inl (k_rank, 20, .inl f_4)), (m23, .inl (k_voidSince, 240, .inl f_28))]) [0, 1, 2] (by decide) rfl
        have hK9 := hK.sub (tys' := []) [] rfl
        refine W.widen (k := 0) (n := 0) (Nat.le_of_ble_eq_true rfl) (Nat.le_of_ble_eq_true rfl) ?_
        exact W.iret (v := ((nI tn9) + 1) - 1) hx hb hr (fun t9 ht hW => ⟨⟨_, (), rfl, (by rw [if_neg c_1, if_neg c_2, if_pos c_3]), ((nI tn9) + 1), f_4, f_28, (by first | rfl | simp only [if_neg c_1, if_neg c_2, if_pos c_3]), (by first | rfl | simp only [if_neg c_1, if_neg c_2, if_pos c_3, ef_4]), (by first | rfl | simp only [if_neg c_1, if_neg c_2, if_pos c_3, ef_28, ef_26, ef_24, ef_22, ef_20, ef_18, ef_16, ef_14, ef_12, ef_10, ef_8, ef_6]), by rw [ht]; exact hP9, va_K.moved hW.alike hK9, hD9⟩, hS.F ht⟩) hS.2.2 dX9_tablet_81
      · refine lv_iconst (v := (-1)) hx hb dX9_tablet_24 (by decide) ?_
        have hP9 := hP.sub (ws' := [(h0, .inr (9, [.int 0, .ref m1, .int i_length, .int i_size, .int i_p, .ref m5, .ref m6, .ref m7, .int i_token, .int i_at, .int i_number, .int i_fault, .int i_faultAt, .int i_hour, .long i_word, .ref m15, .ref m16, .ref m17, .ref m18, .ref m19, .ref m20, .int i_horses, .ref m22, .ref m23, .ref m24, .ref m25, .ref m26, .ref m27, .ref m28, .ref m29, .ref m30, .ref m31, .ref m32, .ref m33, .ref m34, .int (nI tn9), .int i_riders, .ref m37, .ref m38, .ref m39, .ref m40, .ref m41, .ref m42, .ref m43, .ref m44, .ref m45, .ref m46])), (m22, .inl (k_rank, 20, .inl a_rank)), (m23, .inl (k_voidSince, 240, .inl a_voidSince))]) [0, 1, 2] rfl
        have hD9 := hD.sub (ws' := [(h0, .inr (9, [.int 0, .ref m1, .int i_length, .int i_size, .int i_p, .ref m5, .ref m6, .ref m7, .int i_token, .int i_at, .int i_number, .int i_fault, .int i_faultAt, .int i_hour, .long i_word, .ref m15, .ref m16, .ref m17, .ref m18, .ref m19, .ref m20, .int i_horses, .ref m22, .ref m23, .ref m24, .ref m25, .ref m26, .ref m27, .ref m28, .ref m29, .ref m30, .ref m31, .ref m32, .ref m33, .ref m34, .int (nI tn9), .int i_riders, .ref m37, .ref m38, .ref m39, .ref m40, .ref m41, .ref m42, .ref m43, .ref m44, .ref m45, .ref m46])), (m22, .inl (k_rank, 20, .inl a_rank)), (m23, .inl (k_voidSince, 240, .inl a_voidSince))]) [0, 1, 2] (by decide) rfl
        have hK9 := hK.sub (tys' := []) [] rfl
        refine W.widen (k := 0) (n := 0) (Nat.le_of_ble_eq_true rfl) (Nat.le_of_ble_eq_true rfl) ?_
        exact W.iret (v := (-1)) hx hb hr (fun t9 ht hW => ⟨⟨_, (), rfl, (by rw [if_neg c_1, if_neg c_2, if_neg c_3]), (nI tn9), a_rank, a_voidSince, (by first | rfl | simp only [if_neg c_1, if_neg c_2, if_neg c_3]), (by first | rfl | simp only [if_neg c_1, if_neg c_2, if_neg c_3]), (by first | rfl | simp only [if_neg c_1, if_neg c_2, if_neg c_3]), by rw [ht]; exact hP9, va_K.moved hW.alike hK9, hD9⟩, hS.F ht⟩) hS.2.2 dX9_tablet_25
