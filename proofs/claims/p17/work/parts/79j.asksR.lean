theorem hOf_0 {n : Nat} {p : Int32} (h : sp_has p n = 0) : hOf n p = -1 := by
  unfold sp_has at h
  unfold hOf
  by_cases a : p < 0
  · rw [if_pos a]
  · rw [if_neg a] at h ⊢
    by_cases b : nI n ≤ p
    · rw [if_pos b]
    · rw [if_neg b] at h; exact absurd h (by decide)
def WYm (n : Nat) (wm wa : Nat → Int32) (p q rv : Int32) : Prop := (rv = -1 ∧ (sp_has p n = 0 ∨ q < 0 ∨ ∃ r, r < n ∧ p = nI r ∧ wm r ≤ q)) ∨ ∃ r k, r < n ∧ k < 12 ∧ p = nI r ∧ q = nI k ∧ ¬ wm r ≤ nI k ∧ rv = wa (12 * r + k)
theorem WY_u {S : Nat → Nat → Nat → Int32} {n : Nat} {wm wa ns : Nat → Int32} {p q rv : Int32} (hn : n ≤ 60) (hW : RWy S n wa ns) (hm : ∀ r, r < n → wm r = S 593 r 0) (h : WYm n wm wa p q rv) : wyT S n p q = rv := by
  unfold wyT
  rcases h with ⟨e, h⟩ | ⟨r, k, hr, hk, e1, e2, h, e⟩
  · rw [e]
    rcases h with h | h | ⟨r, hr, e1, h⟩
    · rw [if_pos (hOf_0 h)]
    · by_cases c : hOf n p = -1
      · rw [if_pos c]
      · rw [if_neg c]; unfold sSW; rw [if_pos h]
    · rw [e1, hOf_i hr (by omega), if_neg (nI_m (by omega)), nI_clamp (by omega)]
      unfold sSW
      by_cases c : q < 0
      · rw [if_pos c]
      · rw [if_neg c, if_pos (by rw [← hm r hr]; exact h)]
  · rw [e, e1, e2, hOf_i hr (by omega), if_neg (nI_m (by omega)), nI_clamp (by omega)]
    unfold sSW
    rw [hm r hr] at h
    rw [if_neg (nI_pos (by omega)), if_neg h, nI_clamp (by omega)]
    exact ((hW r hr).1 k hk (Int32.not_le.mp h)).symm

set_option maxHeartbeats 4000000 in
set_option maxRecDepth 100000 in
theorem r_X9_way (l : Launch) (dC : Nat → ClassId) (dI : Nat → Nat → Nat) (h0 : Nat) (m1 : Nat) (m5 : Nat) (m6 : Nat) (m7 : Nat) (m15 : Nat) (m16 : Nat) (m17 : Nat) (m18 : Nat) (m19 : Nat) (m20 : Nat) (m22 : Nat) (m23 : Nat) (m24 : Nat) (m25 : Nat) (m26 : Nat) (m27 : Nat) (m28 : Nat) (m29 : Nat) (m30 : Nat) (m31 : Nat) (m32 : Nat) (m33 : Nat) (m34 : Nat) (m37 : Nat) (m38 : Nat) (m39 : Nat) (m40 : Nat) (m41 : Nat) (m42 : Nat) (m43 : Nat) (m44 : Nat) (m45 : Nat) (m46 : Nat) (i_thrown : Int32) (i_length : Int32) (i_size : Int32) (i_p : Int32) (i_token : Int32) (i_at : Int32) (i_number : Int32) (i_fault : Int32) (i_faultAt : Int32) (i_hour : Int32) (i_horses : Int32) (i_tablets : Int32) (i_word : Int64) (k_wayMany : ClassId) (k_ways : ClassId) (k_come : ClassId) (a_wayMany : Nat → Int32) (a_ways : Nat → Int32) (a_come : Nat → Int32) (p0 : Int32) (p1 : Int32) (r9 : Nat) (sz : Nat) (hr9 : r9 ≤ 60) (hCw : Cw a_come a_wayMany r9) : Met l yX9_way wsX9_way ({ frames := 1, cells := 0, slots := 0, locals := 21 }) (va_Pc [.ref h0, .int p0, .int p1] (cP dC dI [(h0, .inr (9, [.int i_thrown, .ref m1, .int i_length, .int i_size, .int i_p, .ref m5, .ref m6, .ref m7, .int i_token, .int i_at, .int i_number, .int i_fault, .int i_faultAt, .int i_hour, .long i_word, .ref m15, .ref m16, .ref m17, .ref m18, .ref m19, .ref m20, .int i_horses, .ref m22, .ref m23, .ref m24, .ref m25, .ref m26, .ref m27, .ref m28, .ref m29, .ref m30, .ref m31, .ref m32, .ref m33, .ref m34, .int i_tablets, .int (nI r9), .ref m37, .ref m38, .ref m39, .ref m40, .ref m41, .ref m42, .ref m43, .ref m44, .ref m45, .ref m46])), (m26, .inl (k_wayMany, 60, .inl a_wayMany)), (m25, .inl (k_ways, 720, .inl a_ways)), (m29, .inl (k_come, 60, .inl a_come))] [(k_wayMany, .int), (k_ways, .int), (k_come, .int)] sz)) (va_Qi (fun (r rv : Int32) => r = rv) (fun (rv : Int32) t9 => (WYm r9 a_wayMany a_ways p0 p1 rv) ∧ cQ dC dI [(h0, .inr (9, [.int 0, .ref m1, .int i_length, .int i_size, .int i_p, .ref m5, .ref m6, .ref m7, .int i_token, .int i_at, .int i_number, .int i_fault, .int i_faultAt, .int i_hour, .long i_word, .ref m15, .ref m16, .ref m17, .ref m18, .ref m19, .ref m20, .int i_horses, .ref m22, .ref m23, .ref m24, .ref m25, .ref m26, .ref m27, .ref m28, .ref m29, .ref m30, .ref m31, .ref m32, .ref m33, .ref m34, .int i_tablets, .int (nI r9), .ref m37, .ref m38, .ref m39, .ref m40, .ref m41, .ref m42, .ref m43, .ref m44, .ref m45, .ref m46])), (m26, .inl (k_wayMany, 60, .inl a_wayMany)), (m25, .inl (k_ways, 720, .inl a_ways)), (m29, .inl (k_come, 60, .inl a_come))] [] (va_A [(h0, .inr (9, [.int i_thrown, .ref m1, .int i_length, .int i_size, .int i_p, .ref m5, .ref m6, .ref m7, .int i_token, .int i_at, .int i_number, .int i_fault, .int i_faultAt, .int i_hour, .long i_word, .ref m15, .ref m16, .ref m17, .ref m18, .ref m19, .ref m20, .int i_horses, .ref m22, .ref m23, .ref m24, .ref m25, .ref m26, .ref m27, .ref m28, .ref m29, .ref m30, .ref m31, .ref m32, .ref m33, .ref m34, .int i_tablets, .int (nI r9), .ref m37, .ref m38, .ref m39, .ref m40, .ref m41, .ref m42, .ref m43, .ref m44, .ref m45, .ref m46])), (m26, .inl (k_wayMany, 60, .inl a_wayMany)), (m25, .inl (k_ways, 720, .inl a_ways)), (m29, .inl (k_come, 60, .inl a_come))] sz) t9) (va_A [(h0, .inr (9, [.int i_thrown, .ref m1, .int i_length, .int i_size, .int i_p, .ref m5, .ref m6, .ref m7, .int i_token, .int i_at, .int i_number, .int i_fault, .int i_faultAt, .int i_hour, .long i_word, .ref m15, .ref m16, .ref m17, .ref m18, .ref m19, .ref m20, .int i_horses, .ref m22, .ref m23, .ref m24, .ref m25, .ref m26, .ref m27, .ref m28, .ref m29, .ref m30, .ref m31, .ref m32, .ref m33, .ref m34, .int i_tablets, .int (nI r9), .ref m37, .ref m38, .ref m39, .ref m40, .ref m41, .ref m42, .ref m43, .ref m44, .ref m45, .ref m46])), (m26, .inl (k_wayMany, 60, .inl a_wayMany)), (m25, .inl (k_ways, 720, .inl a_ways)), (m29, .inl (k_come, 60, .inl a_come))] sz)) 0 0 (va_A [(h0, .inr (9, [.int i_thrown, .ref m1, .int i_length, .int i_size, .int i_p, .ref m5, .ref m6, .ref m7, .int i_token, .int i_at, .int i_number, .int i_fault, .int i_faultAt, .int i_hour, .long i_word, .ref m15, .ref m16, .ref m17, .ref m18, .ref m19, .ref m20, .int i_horses, .ref m22, .ref m23, .ref m24, .ref m25, .ref m26, .ref m27, .ref m28, .ref m29, .ref m30, .ref m31, .ref m32, .ref m33, .ref m34, .int i_tablets, .int (nI r9), .ref m37, .ref m38, .ref m39, .ref m40, .ref m41, .ref m42, .ref m43, .ref m44, .ref m45, .ref m46])), (m26, .inl (k_wayMany, 60, .inl a_wayMany)), (m25, .inl (k_ways, 720, .inl a_ways)), (m29, .inl (k_come, 60, .inl a_come))] sz) := by
  refine Met.ofW (cc := cX9_way) (maxL := 3) (ret := (some .int)) (by decide) rfl ?_
  intro p e s m args below meth c s₁ B hml hv
  obtain ⟨rfl, hsz, hP, hK, hD0, hN⟩ := hv
  have hx := B.exec
  have hb := B.bytes
  have hr := B.returns
  have hts := atoms_spec (ws := wsX9_way) B.pre
  have hown : s.vm.findClass RX9 = some m.cls := findClass_of_methodNamed B.named
  have hlocks := B.notSynchronized
  subst hsz
  have hin9 : ∀ w ∈ u_ws RX9 TX9 47, w ∈ wsX9_way := by decide +kernel
  have hD := hD0.self (sz := s.heap.size)
  generalize hAe : va_A [(h0, .inr (9, [.int i_thrown, .ref m1, .int i_length, .int i_size, .int i_p, .ref m5, .ref m6, .ref m7, .int i_token, .int i_at, .int i_number, .int i_fault, .int i_faultAt, .int i_hour, .long i_word, .ref m15, .ref m16, .ref m17, .ref m18, .ref m19, .ref m20, .int i_horses, .ref m22, .ref m23, .ref m24, .ref m25, .ref m26, .ref m27, .ref m28, .ref m29, .ref m30, .ref m31, .ref m32, .ref m33, .ref m34, .int i_tablets, .int (nI r9), .ref m37, .ref m38, .ref m39, .ref m40, .ref m41, .ref m42, .ref m43, .ref m44, .ref m45, .ref m46])), (m26, .inl (k_wayMany, 60, .inl a_wayMany)), (m25, .inl (k_ways, 720, .inl a_ways)), (m29, .inl (k_come, 60, .inl a_come))] s.heap.size = A at hD ⊢
  have hA : ∀ q : Nat, s.heap.size ≤ q → A q := fun q h => by rw [← hAe]; exact Or.inr h
  have hS : va_S A s.heap s.heap [] := va_S.rf
  have hP : va_P (dC, dI) vwCl [(h0, .inr (9, [.int i_thrown, .ref m1, .int i_length, .int i_size, .int i_p, .ref m5, .ref m6, .ref m7, .int i_token, .int i_at, .int i_number, .int i_fault, .int i_faultAt, .int i_hour, .long i_word, .ref m15, .ref m16, .ref m17, .ref m18, .ref m19, .ref m20, .int i_horses, .ref m22, .ref m23, .ref m24, .ref m25, .ref m26, .ref m27, .ref m28, .ref m29, .ref m30, .ref m31, .ref m32, .ref m33, .ref m34, .int i_tablets, .int (nI r9), .ref m37, .ref m38, .ref m39, .ref m40, .ref m41, .ref m42, .ref m43, .ref m44, .ref m45, .ref m46])), (m26, .inl (k_wayMany, 60, .inl a_wayMany)), (m25, .inl (k_ways, 720, .inl a_ways)), (m29, .inl (k_come, 60, .inl a_come))] s.heap := hP
  have hl := lv_entry ([.ref h0, .int p0, .int p1]) (n := 3) (Nat.le_of_ble_eq_true rfl)
  rw [lg_entry_eq]
  generalize (lg_sl ([.ref h0, .int p0, .int p1]) ++ List.replicate (3 - (lg_sl ([.ref h0, .int p0, .int p1])).length) Slot.unset).toArray = ls at hl ⊢
  have hl : lv_has ls 3 [(0, .ref h0), (1, .int p0), (2, .int p1)] := hl
  refine lv_aload_n hx hb dX9_way_0 rfl (lv_at hl 0 rfl) ?_
  refine lv_iconst (v := 0) hx hb dX9_way_1 (by decide) ?_
  refine va_put (D := (dC, dI)) (ci := 9) (v := .int 0) (ty := (tyX9 0)) (C := RX9) (T := TX9) (N := 47) hx hb hts hin9 tyX9 tyX9_ok nmX9 hown hK hP hD hS 0 rfl rfl 0 (by decide) (hts (.fieldLink RX9 111 "YamRidersModel" "thrown" "I") (by decide +kernel)) (fun _ h9 => h9) rfl (by decide +kernel) rfl rfl (Nat.le_of_ble_eq_true rfl) dX9_way_2 (fun H locs hP hD hS => ?_)
  have hP : va_P (dC, dI) vwCl [(h0, .inr (9, [.int 0, .ref m1, .int i_length, .int i_size, .int i_p, .ref m5, .ref m6, .ref m7, .int i_token, .int i_at, .int i_number, .int i_fault, .int i_faultAt, .int i_hour, .long i_word, .ref m15, .ref m16, .ref m17, .ref m18, .ref m19, .ref m20, .int i_horses, .ref m22, .ref m23, .ref m24, .ref m25, .ref m26, .ref m27, .ref m28, .ref m29, .ref m30, .ref m31, .ref m32, .ref m33, .ref m34, .int i_tablets, .int (nI r9), .ref m37, .ref m38, .ref m39, .ref m40, .ref m41, .ref m42, .ref m43, .ref m44, .ref m45, .ref m46])), (m26, .inl (k_wayMany, 60, .inl a_wayMany)), (m25, .inl (k_ways, 720, .inl a_ways)), (m29, .inl (k_come, 60, .inl a_come))] H := hP
  have hD : va_D A [(h0, .inr (9, [.int 0, .ref m1, .int i_length, .int i_size, .int i_p, .ref m5, .ref m6, .ref m7, .int i_token, .int i_at, .int i_number, .int i_fault, .int i_faultAt, .int i_hour, .long i_word, .ref m15, .ref m16, .ref m17, .ref m18, .ref m19, .ref m20, .int i_horses, .ref m22, .ref m23, .ref m24, .ref m25, .ref m26, .ref m27, .ref m28, .ref m29, .ref m30, .ref m31, .ref m32, .ref m33, .ref m34, .int i_tablets, .int (nI r9), .ref m37, .ref m38, .ref m39, .ref m40, .ref m41, .ref m42, .ref m43, .ref m44, .ref m45, .ref m46])), (m26, .inl (k_wayMany, 60, .inl a_wayMany)), (m25, .inl (k_ways, 720, .inl a_ways)), (m29, .inl (k_come, 60, .inl a_come))] := hD
  refine lv_aload_n hx hb dX9_way_5 rfl (lv_at hl 0 rfl) ?_
  refine lv_iload_n hx hb dX9_way_6 rfl (lv_at hl 1 rfl) ?_
  have hPc := hP.sub (ws' := [(h0, .inr (9, [.int 0, .ref m1, .int i_length, .int i_size, .int i_p, .ref m5, .ref m6, .ref m7, .int i_token, .int i_at, .int i_number, .int i_fault, .int i_faultAt, .int i_hour, .long i_word, .ref m15, .ref m16, .ref m17, .ref m18, .ref m19, .ref m20, .int i_horses, .ref m22, .ref m23, .ref m24, .ref m25, .ref m26, .ref m27, .ref m28, .ref m29, .ref m30, .ref m31, .ref m32, .ref m33, .ref m34, .int i_tablets, .int (nI r9), .ref m37, .ref m38, .ref m39, .ref m40, .ref m41, .ref m42, .ref m43, .ref m44, .ref m45, .ref m46]))]) [0] rfl
  have hDc := hD.sub (ws' := [(h0, .inr (9, [.int 0, .ref m1, .int i_length, .int i_size, .int i_p, .ref m5, .ref m6, .ref m7, .int i_token, .int i_at, .int i_number, .int i_fault, .int i_faultAt, .int i_hour, .long i_word, .ref m15, .ref m16, .ref m17, .ref m18, .ref m19, .ref m20, .int i_horses, .ref m22, .ref m23, .ref m24, .ref m25, .ref m26, .ref m27, .ref m28, .ref m29, .ref m30, .ref m31, .ref m32, .ref m33, .ref m34, .int i_tablets, .int (nI r9), .ref m37, .ref m38, .ref m39, .ref m40, .ref m41, .ref m42, .ref m43, .ref m44, .ref m45, .ref m46]))]) [0] (by decide) rfl
  have hKc := hK.sub (tys' := []) [] rfl
  refine cs_i (va_runV (As := [.int p0]) (rest := []) ⟨hx, hb, hml, hown, hts⟩ (g_X9_isRider l dC dI h0 m1 m5 m6 m7 m15 m16 m17 m18 m19 m20 m22 m23 m24 m25 m26 m27 m28 m29 m30 m31 m32 m33 m34 m37 m38 m39 m40 m41 m42 m43 m44 m45 m46 0 i_length i_size i_p i_token i_at i_number i_fault i_faultAt i_hour i_horses i_tablets i_word p0 r9 H.size) (cwV 1 hts gX9_way_X9_isRider rfl rfl rfl (by decide +kernel) ⟨Nat.le_of_ble_eq_true rfl, Nat.le_of_ble_eq_true rfl⟩) ⟨c_blind, va_recv hKc hPc (ci := 9) (q0 := 0) rfl rfl, c_pre hPc hKc hDc hN⟩ rfl rfl hl.1 rfl (lv_room (Nat.le_of_ble_eq_true rfl)) dX9_way_7 ⟨Nat.le_of_ble_eq_true rfl, Nat.le_of_ble_eq_true rfl⟩) (fun r_1 hr_1 => ?_)
  subst hr_1
  refine lv_if_eq (tgt := 41) hx hb dX9_way_10 (by decide) (fun c_2 => ?_) (fun c_2 => ?_)
  · refine lv_iconst (v := (-1)) hx hb dX9_way_41 (by decide) ?_
    have hP9 := hP.sub (ws' := [(h0, .inr (9, [.int 0, .ref m1, .int i_length, .int i_size, .int i_p, .ref m5, .ref m6, .ref m7, .int i_token, .int i_at, .int i_number, .int i_fault, .int i_faultAt, .int i_hour, .long i_word, .ref m15, .ref m16, .ref m17, .ref m18, .ref m19, .ref m20, .int i_horses, .ref m22, .ref m23, .ref m24, .ref m25, .ref m26, .ref m27, .ref m28, .ref m29, .ref m30, .ref m31, .ref m32, .ref m33, .ref m34, .int i_tablets, .int (nI r9), .ref m37, .ref m38, .ref m39, .ref m40, .ref m41, .ref m42, .ref m43, .ref m44, .ref m45, .ref m46])), (m26, .inl (k_wayMany, 60, .inl a_wayMany)), (m25, .inl (k_ways, 720, .inl a_ways)), (m29, .inl (k_come, 60, .inl a_come))]) [0, 1, 2, 3] rfl
    have hD9 := hD.sub (ws' := [(h0, .inr (9, [.int 0, .ref m1, .int i_length, .int i_size, .int i_p, .ref m5, .ref m6, .ref m7, .int i_token, .int i_at, .int i_number, .int i_fault, .int i_faultAt, .int i_hour, .long i_word, .ref m15, .ref m16, .ref m17, .ref m18, .ref m19, .ref m20, .int i_horses, .ref m22, .ref m23, .ref m24, .ref m25, .ref m26, .ref m27, .ref m28, .ref m29, .ref m30, .ref m31, .ref m32, .ref m33, .ref m34, .int i_tablets, .int (nI r9), .ref m37, .ref m38, .ref m39, .ref m40, .ref m41, .ref m42, .ref m43, .ref m44, .ref m45, .ref m46])), (m26, .inl (k_wayMany, 60, .inl a_wayMany)), (m25, .inl (k_ways, 720, .inl a_ways)), (m29, .inl (k_come, 60, .inl a_come))]) [0, 1, 2, 3] (by decide) rfl
    have hK9 := hK.sub (tys' := []) [] rfl
    refine W.widen (k := 0) (n := 0) (Nat.le_of_ble_eq_true rfl) (Nat.le_of_ble_eq_true rfl) ?_
    exact W.iret (v := (-1)) hx hb hr (fun t9 ht hW => ⟨⟨_, (-1), rfl, rfl, (Or.inl ⟨rfl, Or.inl c_2⟩), by rw [ht]; exact hP9, va_K.moved hW.alike hK9, hD9⟩, hS.F ht⟩) hS.2.2 dX9_way_42
  · obtain ⟨j9, hj9, rfl⟩ := has_of c_2
    refine lv_iload_n hx hb dX9_way_13 rfl (lv_at hl 2 rfl) ?_
    refine lv_if_lt (tgt := 41) hx hb dX9_way_14 (by decide) (fun c_3 => ?_) (fun c_3 => ?_)
    · refine lv_iconst (v := (-1)) hx hb dX9_way_41 (by decide) ?_
      have hP9 := hP.sub (ws' := [(h0, .inr (9, [.int 0, .ref m1, .int i_length, .int i_size, .int i_p, .ref m5, .ref m6, .ref m7, .int i_token, .int i_at, .int i_number, .int i_fault, .int i_faultAt, .int i_hour, .long i_word, .ref m15, .ref m16, .ref m17, .ref m18, .ref m19, .ref m20, .int i_horses, .ref m22, .ref m23, .ref m24, .ref m25, .ref m26, .ref m27, .ref m28, .ref m29, .ref m30, .ref m31, .ref m32, .ref m33, .ref m34, .int i_tablets, .int (nI r9), .ref m37, .ref m38, .ref m39, .ref m40, .ref m41, .ref m42, .ref m43, .ref m44, .ref m45, .ref m46])), (m26, .inl (k_wayMany, 60, .inl a_wayMany)), (m25, .inl (k_ways, 720, .inl a_ways)), (m29, .inl (k_come, 60, .inl a_come))]) [0, 1, 2, 3] rfl
      have hD9 := hD.sub (ws' := [(h0, .inr (9, [.int 0, .ref m1, .int i_length, .int i_size, .int i_p, .ref m5, .ref m6, .ref m7, .int i_token, .int i_at, .int i_number, .int i_fault, .int i_faultAt, .int i_hour, .long i_word, .ref m15, .ref m16, .ref m17, .ref m18, .ref m19, .ref m20, .int i_horses, .ref m22, .ref m23, .ref m24, .ref m25, .ref m26, .ref m27, .ref m28, .ref m29, .ref m30, .ref m31, .ref m32, .ref m33, .ref m34, .int i_tablets, .int (nI r9), .ref m37, .ref m38, .ref m39, .ref m40, .ref m41, .ref m42, .ref m43, .ref m44, .ref m45, .ref m46])), (m26, .inl (k_wayMany, 60, .inl a_wayMany)), (m25, .inl (k_ways, 720, .inl a_ways)), (m29, .inl (k_come, 60, .inl a_come))]) [0, 1, 2, 3] (by decide) rfl
      have hK9 := hK.sub (tys' := []) [] rfl
      refine W.widen (k := 0) (n := 0) (Nat.le_of_ble_eq_true rfl) (Nat.le_of_ble_eq_true rfl) ?_
      exact W.iret (v := (-1)) hx hb hr (fun t9 ht hW => ⟨⟨_, (-1), rfl, rfl, (Or.inl ⟨rfl, Or.inr (Or.inl c_3)⟩), by rw [ht]; exact hP9, va_K.moved hW.alike hK9, hD9⟩, hS.F ht⟩) hS.2.2 dX9_way_42
    · refine lv_iload_n hx hb dX9_way_17 rfl (lv_at hl 2 rfl) ?_
      refine lv_aload_n hx hb dX9_way_18 rfl (lv_at hl 0 rfl) ?_
      refine va_get (D := (dC, dI)) (ci := 9) (v := .ref m26) (C := RX9) (T := TX9) (N := 47) hx hb hts hin9 hown hK hP 0 rfl rfl 26 (by decide) (hts (.fieldLink RX9 54 "YamRidersModel" "wayMany" "[I") (by decide +kernel)) (fun _ h9 => h9) rfl dX9_way_19 ?_
      refine lv_iload_n hx hb dX9_way_22 rfl (lv_at hl 1 rfl) ?_
      refine va_iald hx hb hK hP 1 0 rfl rfl (vp_in_nI (by omega) (by decide)) dX9_way_23 ?_
      refine lv_topi (fun v_4 ev_4 => ?_)
      obtain rfl : v_4 = a_wayMany j9 := ev_4.trans (by rw [(nI_clamp (by omega))])
      refine lv_icmp_ge (tgt := 41) hx hb dX9_way_24 (by decide) (fun c_5 => ?_) (fun c_5 => ?_)
      · refine lv_iconst (v := (-1)) hx hb dX9_way_41 (by decide) ?_
        have hP9 := hP.sub (ws' := [(h0, .inr (9, [.int 0, .ref m1, .int i_length, .int i_size, .int i_p, .ref m5, .ref m6, .ref m7, .int i_token, .int i_at, .int i_number, .int i_fault, .int i_faultAt, .int i_hour, .long i_word, .ref m15, .ref m16, .ref m17, .ref m18, .ref m19, .ref m20, .int i_horses, .ref m22, .ref m23, .ref m24, .ref m25, .ref m26, .ref m27, .ref m28, .ref m29, .ref m30, .ref m31, .ref m32, .ref m33, .ref m34, .int i_tablets, .int (nI r9), .ref m37, .ref m38, .ref m39, .ref m40, .ref m41, .ref m42, .ref m43, .ref m44, .ref m45, .ref m46])), (m26, .inl (k_wayMany, 60, .inl a_wayMany)), (m25, .inl (k_ways, 720, .inl a_ways)), (m29, .inl (k_come, 60, .inl a_come))]) [0, 1, 2, 3] rfl
        have hD9 := hD.sub (ws' := [(h0, .inr (9, [.int 0, .ref m1, .int i_length, .int i_size, .int i_p, .ref m5, .ref m6, .ref m7, .int i_token, .int i_at, .int i_number, .int i_fault, .int i_faultAt, .int i_hour, .long i_word, .ref m15, .ref m16, .ref m17, .ref m18, .ref m19, .ref m20, .int i_horses, .ref m22, .ref m23, .ref m24, .ref m25, .ref m26, .ref m27, .ref m28, .ref m29, .ref m30, .ref m31, .ref m32, .ref m33, .ref m34, .int i_tablets, .int (nI r9), .ref m37, .ref m38, .ref m39, .ref m40, .ref m41, .ref m42, .ref m43, .ref m44, .ref m45, .ref m46])), (m26, .inl (k_wayMany, 60, .inl a_wayMany)), (m25, .inl (k_ways, 720, .inl a_ways)), (m29, .inl (k_come, 60, .inl a_come))]) [0, 1, 2, 3] (by decide) rfl
        have hK9 := hK.sub (tys' := []) [] rfl
        refine W.widen (k := 0) (n := 0) (Nat.le_of_ble_eq_true rfl) (Nat.le_of_ble_eq_true rfl) ?_
        exact W.iret (v := (-1)) hx hb hr (fun t9 ht hW => ⟨⟨_, (-1), rfl, rfl, (Or.inl ⟨rfl, Or.inr (Or.inr ⟨j9, hj9, rfl, c_5⟩)⟩), by rw [ht]; exact hP9, va_K.moved hW.alike hK9, hD9⟩, hS.F ht⟩) hS.2.2 dX9_way_42
      · obtain ⟨k9, hk9, rfl⟩ := wm_of c_3 c_5 (hCw j9 hj9).2.2
        refine lv_aload_n hx hb dX9_way_27 rfl (lv_at hl 0 rfl) ?_
        refine va_get (D := (dC, dI)) (ci := 9) (v := .ref m25) (C := RX9) (T := TX9) (N := 47) hx hb hts hin9 hown hK hP 0 rfl rfl 25 (by decide) (hts (.fieldLink RX9 51 "YamRidersModel" "ways" "[I") (by decide +kernel)) (fun _ h9 => h9) rfl dX9_way_28 ?_
        refine lv_bipush (v := 12) hx hb dX9_way_31 (by decide) ?_
        refine lv_iload_n hx hb dX9_way_33 rfl (lv_at hl 1 rfl) ?_
        refine lv_imul hx hb dX9_way_34 ?_
        refine lv_iload_n hx hb dX9_way_35 rfl (lv_at hl 2 rfl) ?_
        refine lv_iadd hx hb dX9_way_36 ?_
        refine va_iald hx hb hK hP 2 1 rfl rfl (ixN (u := j9) (v := k9) (by omega) (by decide)) dX9_way_37 ?_
        refine lv_topi (fun v_6 ev_6 => ?_)
        obtain rfl : v_6 = a_ways (12 * j9 + k9) := ev_6.trans (by rw [(ixc (by omega) (by omega))])
        refine lv_goto (tgt := 42) hx hb dX9_way_38 (by decide) ?_
        have hP9 := hP.sub (ws' := [(h0, .inr (9, [.int 0, .ref m1, .int i_length, .int i_size, .int i_p, .ref m5, .ref m6, .ref m7, .int i_token, .int i_at, .int i_number, .int i_fault, .int i_faultAt, .int i_hour, .long i_word, .ref m15, .ref m16, .ref m17, .ref m18, .ref m19, .ref m20, .int i_horses, .ref m22, .ref m23, .ref m24, .ref m25, .ref m26, .ref m27, .ref m28, .ref m29, .ref m30, .ref m31, .ref m32, .ref m33, .ref m34, .int i_tablets, .int (nI r9), .ref m37, .ref m38, .ref m39, .ref m40, .ref m41, .ref m42, .ref m43, .ref m44, .ref m45, .ref m46])), (m26, .inl (k_wayMany, 60, .inl a_wayMany)), (m25, .inl (k_ways, 720, .inl a_ways)), (m29, .inl (k_come, 60, .inl a_come))]) [0, 1, 2, 3] rfl
        have hD9 := hD.sub (ws' := [(h0, .inr (9, [.int 0, .ref m1, .int i_length, .int i_size, .int i_p, .ref m5, .ref m6, .ref m7, .int i_token, .int i_at, .int i_number, .int i_fault, .int i_faultAt, .int i_hour, .long i_word, .ref m15, .ref m16, .ref m17, .ref m18, .ref m19, .ref m20, .int i_horses, .ref m22, .ref m23, .ref m24, .ref m25, .ref m26, .ref m27, .ref m28, .ref m29, .ref m30, .ref m31, .ref m32, .ref m33, .ref m34, .int i_tablets, .int (nI r9), .ref m37, .ref m38, .ref m39, .ref m40, .ref m41, .ref m42, .ref m43, .ref m44, .ref m45, .ref m46])), (m26, .inl (k_wayMany, 60, .inl a_wayMany)), (m25, .inl (k_ways, 720, .inl a_ways)), (m29, .inl (k_come, 60, .inl a_come))]) [0, 1, 2, 3] (by decide) rfl
        have hK9 := hK.sub (tys' := []) [] rfl
        refine W.widen (k := 0) (n := 0) (Nat.le_of_ble_eq_true rfl) (Nat.le_of_ble_eq_true rfl) ?_
        exact W.iret (v := a_ways (12 * j9 + k9)) hx hb hr (fun t9 ht hW => ⟨⟨_, a_ways (12 * j9 + k9), rfl, rfl, (Or.inr ⟨j9, k9, hj9, hk9, rfl, rfl, c_5, rfl⟩), by rw [ht]; exact hP9, va_K.moved hW.alike hK9, hD9⟩, hS.F ht⟩) hS.2.2 dX9_way_42
