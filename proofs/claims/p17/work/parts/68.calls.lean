set_option maxHeartbeats 4000000 in
set_option maxRecDepth 100000 in
theorem e_X8_cancel (l : Launch) (dC : Nat → ClassId) (dI : Nat → Nat → Nat) (cs : Nat → ClassId) (L : List Nat) (ka : Nat → Nat) (ix : Nat → Nat) (ad : Nat → Nat → Nat) (n0 : Nat) (n6 : Nat) (n2 : Nat) (S : Nat → Nat → Nat → Int32) (f : Nat → va_E) (gq : Nat) (h0 : Nat) (a1 : Nat) (a2 : Nat) (a3 : Nat) (a4 : Nat) (a5 : Nat) (a6 : Nat) (a7 : Nat) (a8 : Nat) (a9 : Nat) (j_faultKind : Int32) (j_horseCount : Int32) (j_tabletCount : Int32) (j_riderCount : Int32) (j_lineLength : Int32) (j_hour : Int32) (p0 : Int32) (p1 : Int32) (sz : Nat) (hT : tB L ka ix ad cs n0 n6 n2 S f) (hY : yX L ka ix ad gq a2 a3 a4 a5 a6 a7 a8 a9) : Met l yX8_cancel wsX8_cancel ({ frames := 2, cells := 0, slots := 0, locals := 42 }) (va_Pc [.ref h0, .int p0, .int p1] (cP dC dI ([(h0, .inr (8, [.ref a1, .ref a2, .ref a3, .ref a4, .ref a5, .ref a6, .ref a7, .ref a8, .ref a9, .int j_faultKind, .int j_horseCount, .int j_tabletCount, .int j_riderCount, .int j_lineLength, .int j_hour]))] ++ va_pl L f) (tyC cs) sz)) (va_Qi (fun (r rv : Int32) => r = rv) (fun (rv : Int32) t9 => ∃ (S2 : Nat → Nat → Nat → Int32) (f2 : Nat → va_E), (tB L ka ix ad cs n0 n6 n2 S2 f2) ∧ (FR S S2) ∧ (S2 = caS S n6 p0 p1 j_hour ∧ rv = caR S n6 p0 p1) ∧ cQ dC dI ([(h0, .inr (8, [.ref a1, .ref a2, .ref a3, .ref a4, .ref a5, .ref a6, .ref a7, .ref a8, .ref a9, .int j_faultKind, .int j_horseCount, .int j_tabletCount, .int j_riderCount, .int j_lineLength, .int j_hour]))] ++ va_pl L f2) [] (va_A ([(h0, .inr (8, [.ref a1, .ref a2, .ref a3, .ref a4, .ref a5, .ref a6, .ref a7, .ref a8, .ref a9, .int j_faultKind, .int j_horseCount, .int j_tabletCount, .int j_riderCount, .int j_lineLength, .int j_hour]))] ++ va_pl L f) sz) t9) (va_A ([(h0, .inr (8, [.ref a1, .ref a2, .ref a3, .ref a4, .ref a5, .ref a6, .ref a7, .ref a8, .ref a9, .int j_faultKind, .int j_horseCount, .int j_tabletCount, .int j_riderCount, .int j_lineLength, .int j_hour]))] ++ va_pl L f) sz)) 0 0 (va_A ([(h0, .inr (8, [.ref a1, .ref a2, .ref a3, .ref a4, .ref a5, .ref a6, .ref a7, .ref a8, .ref a9, .int j_faultKind, .int j_horseCount, .int j_tabletCount, .int j_riderCount, .int j_lineLength, .int j_hour]))] ++ va_pl L f) sz) := by
  refine Met.ofW (cc := cX8_cancel) (maxL := 4) (ret := (some .boolean)) (by decide) rfl ?_
  intro p e s m args below meth c s₁ B hml hv
  obtain ⟨rfl, hsz, hP, hK, hD0, hN⟩ := hv
  have hx := B.exec
  have hb := B.bytes
  have hr := B.returns
  have hts := atoms_spec (ws := wsX8_cancel) B.pre
  have hown : s.vm.findClass RX8 = some m.cls := findClass_of_methodNamed B.named
  have hlocks := B.notSynchronized
  subst hsz
  have hin8 : ∀ w ∈ u_ws RX8 TX8 15, w ∈ wsX8_cancel := by decide +kernel
  have hD := hD0.self (sz := s.heap.size)
  generalize hAe : va_A ([(h0, .inr (8, [.ref a1, .ref a2, .ref a3, .ref a4, .ref a5, .ref a6, .ref a7, .ref a8, .ref a9, .int j_faultKind, .int j_horseCount, .int j_tabletCount, .int j_riderCount, .int j_lineLength, .int j_hour]))] ++ va_pl L f) s.heap.size = A at hD ⊢
  have hA : ∀ q : Nat, s.heap.size ≤ q → A q := fun q h => by rw [← hAe]; exact Or.inr h
  have hS : va_S A s.heap s.heap [] := va_S.rf
  have hP : va_P (dC, dI) vwCl ([(h0, .inr (8, [.ref a1, .ref a2, .ref a3, .ref a4, .ref a5, .ref a6, .ref a7, .ref a8, .ref a9, .int j_faultKind, .int j_horseCount, .int j_tabletCount, .int j_riderCount, .int j_lineLength, .int j_hour]))] ++ va_pl L f) s.heap := hP
  have hl := lv_entry ([.ref h0, .int p0, .int p1]) (n := 4) (Nat.le_of_ble_eq_true rfl)
  rw [lg_entry_eq]
  generalize (lg_sl ([.ref h0, .int p0, .int p1]) ++ List.replicate (4 - (lg_sl ([.ref h0, .int p0, .int p1])).length) Slot.unset).toArray = ls at hl ⊢
  have hl : lv_has ls 4 [(0, .ref h0), (1, .int p0), (2, .int p1)] := hl
  refine lv_aload_n hx hb dX8_cancel_0 rfl (lv_at hl 0 rfl) ?_
  refine lv_iload_n hx hb dX8_cancel_1 rfl (lv_at hl 1 rfl) ?_
  have hPc := hP.part (cx := [(h0, .inr (8, [.ref a1, .ref a2, .ref a3, .ref a4, .ref a5, .ref a6, .ref a7, .ref a8, .ref a9, .int j_faultKind, .int j_horseCount, .int j_tabletCount, .int j_riderCount, .int j_lineLength, .int j_hour]))]) [0] rfl
  have hDc := hD.part (cx := [(h0, .inr (8, [.ref a1, .ref a2, .ref a3, .ref a4, .ref a5, .ref a6, .ref a7, .ref a8, .ref a9, .int j_faultKind, .int j_horseCount, .int j_tabletCount, .int j_riderCount, .int j_lineLength, .int j_hour]))]) [0] (by decide) rfl
  have hKc := hK
  refine cs_q (va_runV (As := [.int p0]) (rest := []) ⟨hx, hb, hml, hown, hts⟩ (e_X8_tabletOf l dC dI cs L ka ix ad n0 n6 n2 S f gq h0 a1 a2 a3 a4 a5 a6 a7 a8 a9 j_faultKind j_horseCount j_tabletCount j_riderCount j_lineLength j_hour p0 s.heap.size hT hY) (cwV 1 hts gX8_cancel_X8_tabletOf rfl rfl rfl (by decide +kernel) ⟨Nat.le_of_ble_eq_true rfl, Nat.le_of_ble_eq_true rfl⟩) ⟨c_blind, va_recv hKc hPc (ci := 8) (q0 := 0) rfl rfl, c_pre hPc hKc hDc hN⟩ rfl rfl hl.1 rfl (lv_room (Nat.le_of_ble_eq_true rfl)) dX8_cancel_2 ⟨Nat.le_of_ble_eq_true rfl, Nat.le_of_ble_eq_true rfl⟩) (fun o_1 ho_1 => ?_)
  subst ho_1
  by_cases c_2 : hOf n6 p0 = -1
  · rw [show oq ad 6 (hOf n6 p0) = none from oq_n c_2]
    refine W.eq (g2 := F0 m 5 ls [.null]) rfl ?_
    refine lv_astore_nN (lv' := [(3, .null), (0, .ref h0), (1, .int p0), (2, .int p1)]) hx hb dX8_cancel_5 rfl hl (by decide) rfl (fun ls hl => ?_)
    refine lv_aload_nN hx hb dX8_cancel_6 rfl (lv_at hl 0 rfl) ?_
    refine lv_ifnullN (tgt := 26) hx hb dX8_cancel_7 (by decide) ?_
    refine lv_iconst (v := 0) hx hb dX8_cancel_26 (by decide) ?_
    have hP9 := hP.part (cx := [(h0, .inr (8, [.ref a1, .ref a2, .ref a3, .ref a4, .ref a5, .ref a6, .ref a7, .ref a8, .ref a9, .int j_faultKind, .int j_horseCount, .int j_tabletCount, .int j_riderCount, .int j_lineLength, .int j_hour]))]) [0] rfl
    have hD9 := hD.part (cx := [(h0, .inr (8, [.ref a1, .ref a2, .ref a3, .ref a4, .ref a5, .ref a6, .ref a7, .ref a8, .ref a9, .int j_faultKind, .int j_horseCount, .int j_tabletCount, .int j_riderCount, .int j_lineLength, .int j_hour]))]) [0] (by decide) rfl
    have hK9 := hK.sub (tys' := []) [] rfl
    refine W.widen (k := 0) (n := 0) (Nat.le_of_ble_eq_true rfl) (Nat.le_of_ble_eq_true rfl) ?_
    exact W.zret (v := 0) hx hb hr rfl (fun t9 ht hW => ⟨⟨_, 0, rfl, rfl, S, f, hT, FR.rf, ⟨by unfold caS; rw [if_pos c_2], by unfold caR; rw [if_pos c_2]⟩, by rw [ht]; exact hP9, va_K.moved hW.alike hK9, hD9⟩, hS.F ht⟩) hS.2.2 dX8_cancel_27
  · obtain ⟨u_3, hu_3, eu_3⟩ := hOf_o (by have h9 := hT.b6; omega) c_2
    have hn9 := hT.b6
    rw [show oq ad 6 (hOf n6 p0) = some (ad 6 u_3) from by rw [eu_3]; exact oq_s (by omega)]
    refine W.eq (g2 := F0 m 5 ls [.ref (ad 6 u_3)]) rfl ?_
    refine lv_astore_n (lv' := [(3, .ref (ad 6 u_3)), (0, .ref h0), (1, .int p0), (2, .int p1)]) hx hb dX8_cancel_5 rfl hl (by decide) rfl (fun ls hl => ?_)
    refine lv_aload_n hx hb dX8_cancel_6 rfl (lv_at hl 0 rfl) ?_
    refine lv_ifnull hx hb dX8_cancel_7 ?_
    refine lv_aload_n hx hb dX8_cancel_10 rfl (lv_at hl 0 rfl) ?_
    refine lv_iload_n hx hb dX8_cancel_11 rfl (lv_at hl 3 rfl) ?_
    refine lv_aload_n hx hb dX8_cancel_12 rfl (lv_at hl 1 rfl) ?_
    refine va_get (D := (dC, dI)) (ci := 8) (v := .int j_hour) (C := RX8) (T := TX8) (N := 15) hx hb hts hin8 hown hK hP 0 rfl rfl 14 (by decide) (hts (.fieldLink RX8 140 "YamRiders" "hour" "I") (by decide +kernel)) (fun _ h9 => h9) rfl dX8_cancel_13 ?_
    have hPc := hP.part (cx := []) [] rfl
    have hDc := hD.part (cx := []) [] (by decide) rfl
    have hKc := hK
    have hFc := va_freeP (cx := []) hD hS hA [] rfl
    have hf_4 : f (ad 6 u_3) = .inr (6, [.int (S 96 u_3 0), .ref (ad 35 u_3)]) := hT.get (hT.k6 (i := u_3) (by omega))
    obtain ⟨q_5, hq_5⟩ := pl_at (X := []) (f := f) (e := .inr (6, [.int (S 96 u_3 0), .ref (ad 35 u_3)])) (hT.k6 (i := u_3) (by omega)).1 hf_4
    refine va_calli (va_runV (As := [.int p1, .int j_hour]) (rest := []) ⟨hx, hb, hml, hown, hts⟩ (e_X6_tellVoid l dC dI cs L ka ix ad n0 n6 n2 S f u_3 (ad 6 u_3) p1 j_hour s.heap.size hT (hT.k6 (i := u_3) (by omega)) (by omega)) (cwV 2 hts gX8_cancel_X6_tellVoid rfl rfl rfl (by decide +kernel) ⟨Nat.le_of_ble_eq_true rfl, Nat.le_of_ble_eq_true rfl⟩) ⟨c_blind, va_recv hKc hPc (ci := 6) (q0 := q_5) rfl hq_5, c_pre hPc hKc hDc hN⟩ rfl rfl hl.1 rfl (lv_room (Nat.le_of_ble_eq_true rfl)) dX8_cancel_16 ⟨Nat.le_of_ble_eq_true rfl, Nat.le_of_ble_eq_true rfl⟩) hS (fun q _ h => hFc q h) hFc (fun r_6 u9 t9 H1 locs ht hvm hw hB hz1 hk1 hS => ?_)
    obtain ⟨S_7, f_8, hf_x_9, hf_x_10, hf_x_11, hP1, hK1, hD1⟩ := hB
    rw [ht] at hP1
    have hK1 := va_K.moved hvm.symm hK1
    obtain ⟨hP, hD⟩ := va_joinP (X := [(h0, .inr (8, [.ref a1, .ref a2, .ref a3, .ref a4, .ref a5, .ref a6, .ref a7, .ref a8, .ref a9, .int j_faultKind, .int j_horseCount, .int j_tabletCount, .int j_riderCount, .int j_lineLength, .int j_hour]))]) (cx := []) (wr := [(h0, .inr (8, [.ref a1, .ref a2, .ref a3, .ref a4, .ref a5, .ref a6, .ref a7, .ref a8, .ref a9, .int j_faultKind, .int j_horseCount, .int j_tabletCount, .int j_riderCount, .int j_lineLength, .int j_hour]))]) (rx := []) (pl := va_pl L f) (pl1 := va_pl L f_8) hP hD [] [0] rfl rfl (by decide) (by decide) hk1 hFc hP1 hD1
    have hT := hf_x_9
    generalize H1 = H at hP hS ⊢
    have hP : va_P (dC, dI) vwCl ([(h0, .inr (8, [.ref a1, .ref a2, .ref a3, .ref a4, .ref a5, .ref a6, .ref a7, .ref a8, .ref a9, .int j_faultKind, .int j_horseCount, .int j_tabletCount, .int j_riderCount, .int j_lineLength, .int j_hour]))] ++ va_pl L f_8) H := hP
    have hD : va_D A ([(h0, .inr (8, [.ref a1, .ref a2, .ref a3, .ref a4, .ref a5, .ref a6, .ref a7, .ref a8, .ref a9, .int j_faultKind, .int j_horseCount, .int j_tabletCount, .int j_riderCount, .int j_lineLength, .int j_hour]))] ++ va_pl L f_8) := hD
    have hFr_12 := FR.tr FR.rf hf_x_10
    refine W.widen (k := 0) (n := 0) (Nat.le_of_ble_eq_true rfl) (Nat.le_of_ble_eq_true rfl) ?_
    try dsimp only at hw
    subst hw
    refine lv_if_eq (tgt := 26) hx hb dX8_cancel_19 (by decide) (fun c_13 => ?_) (fun c_13 => ?_)
    · refine lv_iconst (v := 0) hx hb dX8_cancel_26 (by decide) ?_
      have hP9 := hP.part (cx := [(h0, .inr (8, [.ref a1, .ref a2, .ref a3, .ref a4, .ref a5, .ref a6, .ref a7, .ref a8, .ref a9, .int j_faultKind, .int j_horseCount, .int j_tabletCount, .int j_riderCount, .int j_lineLength, .int j_hour]))]) [0] rfl
      have hD9 := hD.part (cx := [(h0, .inr (8, [.ref a1, .ref a2, .ref a3, .ref a4, .ref a5, .ref a6, .ref a7, .ref a8, .ref a9, .int j_faultKind, .int j_horseCount, .int j_tabletCount, .int j_riderCount, .int j_lineLength, .int j_hour]))]) [0] (by decide) rfl
      have hK9 := hK.sub (tys' := []) [] rfl
      refine W.widen (k := 0) (n := 0) (Nat.le_of_ble_eq_true rfl) (Nat.le_of_ble_eq_true rfl) ?_
      exact W.zret (v := 0) hx hb hr rfl (fun t9 ht hW => ⟨⟨_, 0, rfl, rfl, S_7, f_8, hT, hFr_12, ⟨by unfold caS; rw [if_neg c_2, eu_3, nI_clamp (by omega)]; exact hf_x_11.1, by unfold caR; rw [if_neg c_2, eu_3, nI_clamp (by omega)]; rw [← hf_x_11.2, c_13]⟩, by rw [ht]; exact hP9, va_K.moved hW.alike hK9, hD9⟩, hS.F ht⟩) hS.2.2 dX8_cancel_27
    · refine lv_iconst (v := 1) hx hb dX8_cancel_22 (by decide) ?_
      refine lv_goto (tgt := 27) hx hb dX8_cancel_23 (by decide) ?_
      have hP9 := hP.part (cx := [(h0, .inr (8, [.ref a1, .ref a2, .ref a3, .ref a4, .ref a5, .ref a6, .ref a7, .ref a8, .ref a9, .int j_faultKind, .int j_horseCount, .int j_tabletCount, .int j_riderCount, .int j_lineLength, .int j_hour]))]) [0] rfl
      have hD9 := hD.part (cx := [(h0, .inr (8, [.ref a1, .ref a2, .ref a3, .ref a4, .ref a5, .ref a6, .ref a7, .ref a8, .ref a9, .int j_faultKind, .int j_horseCount, .int j_tabletCount, .int j_riderCount, .int j_lineLength, .int j_hour]))]) [0] (by decide) rfl
      have hK9 := hK.sub (tys' := []) [] rfl
      refine W.widen (k := 0) (n := 0) (Nat.le_of_ble_eq_true rfl) (Nat.le_of_ble_eq_true rfl) ?_
      exact W.zret (v := 1) hx hb hr rfl (fun t9 ht hW => ⟨⟨_, 1, rfl, rfl, S_7, f_8, hT, hFr_12, ⟨by unfold caS; rw [if_neg c_2, eu_3, nI_clamp (by omega)]; exact hf_x_11.1, by unfold caR; rw [if_neg c_2, eu_3, nI_clamp (by omega)]; rw [← hf_x_11.2]; exact tv01 hf_x_11.2 c_13⟩, by rw [ht]; exact hP9, va_K.moved hW.alike hK9, hD9⟩, hS.F ht⟩) hS.2.2 dX8_cancel_27

set_option maxHeartbeats 4000000 in
set_option maxRecDepth 100000 in
theorem e_X8_kill (l : Launch) (dC : Nat → ClassId) (dI : Nat → Nat → Nat) (cs : Nat → ClassId) (L : List Nat) (ka : Nat → Nat) (ix : Nat → Nat) (ad : Nat → Nat → Nat) (n0 : Nat) (n6 : Nat) (n2 : Nat) (S : Nat → Nat → Nat → Int32) (f : Nat → va_E) (gq : Nat) (h0 : Nat) (a1 : Nat) (a2 : Nat) (a3 : Nat) (a4 : Nat) (a5 : Nat) (a6 : Nat) (a7 : Nat) (a8 : Nat) (a9 : Nat) (j_faultKind : Int32) (j_horseCount : Int32) (j_tabletCount : Int32) (j_riderCount : Int32) (j_lineLength : Int32) (j_hour : Int32) (p0 : Int32) (sz : Nat) (hT : tB L ka ix ad cs n0 n6 n2 S f) (hY : yX L ka ix ad gq a2 a3 a4 a5 a6 a7 a8 a9) : Met l yX8_kill wsX8_kill ({ frames := 1, cells := 0, slots := 0, locals := 21 }) (va_Pc [.ref h0, .int p0] (cP dC dI ([(h0, .inr (8, [.ref a1, .ref a2, .ref a3, .ref a4, .ref a5, .ref a6, .ref a7, .ref a8, .ref a9, .int j_faultKind, .int j_horseCount, .int j_tabletCount, .int j_riderCount, .int j_lineLength, .int j_hour]))] ++ va_pl L f) (tyC cs) sz)) (va_Qi (fun (r rv : Int32) => r = rv) (fun (rv : Int32) t9 => ∃ (S2 : Nat → Nat → Nat → Int32) (f2 : Nat → va_E), (tB L ka ix ad cs n0 n6 n2 S2 f2) ∧ (FR S S2) ∧ (S2 = klS S n2 p0 ∧ rv = klR S n2 p0) ∧ cQ dC dI ([(h0, .inr (8, [.ref a1, .ref a2, .ref a3, .ref a4, .ref a5, .ref a6, .ref a7, .ref a8, .ref a9, .int j_faultKind, .int j_horseCount, .int j_tabletCount, .int j_riderCount, .int j_lineLength, .int j_hour]))] ++ va_pl L f2) [] (va_A ([(h0, .inr (8, [.ref a1, .ref a2, .ref a3, .ref a4, .ref a5, .ref a6, .ref a7, .ref a8, .ref a9, .int j_faultKind, .int j_horseCount, .int j_tabletCount, .int j_riderCount, .int j_lineLength, .int j_hour]))] ++ va_pl L f) sz) t9) (va_A ([(h0, .inr (8, [.ref a1, .ref a2, .ref a3, .ref a4, .ref a5, .ref a6, .ref a7, .ref a8, .ref a9, .int j_faultKind, .int j_horseCount, .int j_tabletCount, .int j_riderCount, .int j_lineLength, .int j_hour]))] ++ va_pl L f) sz)) 0 0 (va_A ([(h0, .inr (8, [.ref a1, .ref a2, .ref a3, .ref a4, .ref a5, .ref a6, .ref a7, .ref a8, .ref a9, .int j_faultKind, .int j_horseCount, .int j_tabletCount, .int j_riderCount, .int j_lineLength, .int j_hour]))] ++ va_pl L f) sz) := by
  refine Met.ofW (cc := cX8_kill) (maxL := 3) (ret := (some .boolean)) (by decide) rfl ?_
  intro p e s m args below meth c s₁ B hml hv
  obtain ⟨rfl, hsz, hP, hK, hD0, hN⟩ := hv
  have hx := B.exec
  have hb := B.bytes
  have hr := B.returns
  have hts := atoms_spec (ws := wsX8_kill) B.pre
  have hown : s.vm.findClass RX8 = some m.cls := findClass_of_methodNamed B.named
  have hlocks := B.notSynchronized
  subst hsz
  have hin2 : ∀ w ∈ u_ws RX2 TX2 10, w ∈ wsX8_kill := by decide +kernel
  have hD := hD0.self (sz := s.heap.size)
  generalize hAe : va_A ([(h0, .inr (8, [.ref a1, .ref a2, .ref a3, .ref a4, .ref a5, .ref a6, .ref a7, .ref a8, .ref a9, .int j_faultKind, .int j_horseCount, .int j_tabletCount, .int j_riderCount, .int j_lineLength, .int j_hour]))] ++ va_pl L f) s.heap.size = A at hD ⊢
  have hA : ∀ q : Nat, s.heap.size ≤ q → A q := fun q h => by rw [← hAe]; exact Or.inr h
  have hS : va_S A s.heap s.heap [] := va_S.rf
  have hP : va_P (dC, dI) vwCl ([(h0, .inr (8, [.ref a1, .ref a2, .ref a3, .ref a4, .ref a5, .ref a6, .ref a7, .ref a8, .ref a9, .int j_faultKind, .int j_horseCount, .int j_tabletCount, .int j_riderCount, .int j_lineLength, .int j_hour]))] ++ va_pl L f) s.heap := hP
  have hl := lv_entry ([.ref h0, .int p0]) (n := 3) (Nat.le_of_ble_eq_true rfl)
  rw [lg_entry_eq]
  generalize (lg_sl ([.ref h0, .int p0]) ++ List.replicate (3 - (lg_sl ([.ref h0, .int p0])).length) Slot.unset).toArray = ls at hl ⊢
  have hl : lv_has ls 3 [(0, .ref h0), (1, .int p0)] := hl
  refine lv_aload_n hx hb dX8_kill_0 rfl (lv_at hl 0 rfl) ?_
  refine lv_iload_n hx hb dX8_kill_1 rfl (lv_at hl 1 rfl) ?_
  have hPc := hP.part (cx := [(h0, .inr (8, [.ref a1, .ref a2, .ref a3, .ref a4, .ref a5, .ref a6, .ref a7, .ref a8, .ref a9, .int j_faultKind, .int j_horseCount, .int j_tabletCount, .int j_riderCount, .int j_lineLength, .int j_hour]))]) [0] rfl
  have hDc := hD.part (cx := [(h0, .inr (8, [.ref a1, .ref a2, .ref a3, .ref a4, .ref a5, .ref a6, .ref a7, .ref a8, .ref a9, .int j_faultKind, .int j_horseCount, .int j_tabletCount, .int j_riderCount, .int j_lineLength, .int j_hour]))]) [0] (by decide) rfl
  have hKc := hK
  refine cs_q (va_runV (As := [.int p0]) (rest := []) ⟨hx, hb, hml, hown, hts⟩ (e_X8_riderOf l dC dI cs L ka ix ad n0 n6 n2 S f gq h0 a1 a2 a3 a4 a5 a6 a7 a8 a9 j_faultKind j_horseCount j_tabletCount j_riderCount j_lineLength j_hour p0 s.heap.size hT hY) (cwV 1 hts gX8_kill_X8_riderOf rfl rfl rfl (by decide +kernel) ⟨Nat.le_of_ble_eq_true rfl, Nat.le_of_ble_eq_true rfl⟩) ⟨c_blind, va_recv hKc hPc (ci := 8) (q0 := 0) rfl rfl, c_pre hPc hKc hDc hN⟩ rfl rfl hl.1 rfl (lv_room (Nat.le_of_ble_eq_true rfl)) dX8_kill_2 ⟨Nat.le_of_ble_eq_true rfl, Nat.le_of_ble_eq_true rfl⟩) (fun o_1 ho_1 => ?_)
  subst ho_1
  by_cases c_2 : hOf n2 p0 = -1
  · rw [show oq ad 2 (hOf n2 p0) = none from oq_n c_2]
    refine W.eq (g2 := F0 m 5 ls [.null]) rfl ?_
    refine lv_astore_nN (lv' := [(2, .null), (0, .ref h0), (1, .int p0)]) hx hb dX8_kill_5 rfl hl (by decide) rfl (fun ls hl => ?_)
    refine lv_aload_nN hx hb dX8_kill_6 rfl (lv_at hl 0 rfl) ?_
    refine lv_ifnullN (tgt := 17) hx hb dX8_kill_7 (by decide) ?_
    refine lv_iconst (v := 0) hx hb dX8_kill_17 (by decide) ?_
    have hP9 := hP.part (cx := [(h0, .inr (8, [.ref a1, .ref a2, .ref a3, .ref a4, .ref a5, .ref a6, .ref a7, .ref a8, .ref a9, .int j_faultKind, .int j_horseCount, .int j_tabletCount, .int j_riderCount, .int j_lineLength, .int j_hour]))]) [0] rfl
    have hD9 := hD.part (cx := [(h0, .inr (8, [.ref a1, .ref a2, .ref a3, .ref a4, .ref a5, .ref a6, .ref a7, .ref a8, .ref a9, .int j_faultKind, .int j_horseCount, .int j_tabletCount, .int j_riderCount, .int j_lineLength, .int j_hour]))]) [0] (by decide) rfl
    have hK9 := hK.sub (tys' := []) [] rfl
    refine W.widen (k := 0) (n := 0) (Nat.le_of_ble_eq_true rfl) (Nat.le_of_ble_eq_true rfl) ?_
    exact W.zret (v := 0) hx hb hr rfl (fun t9 ht hW => ⟨⟨_, 0, rfl, rfl, S, f, hT, FR.rf, ⟨by unfold klS; rw [if_pos c_2], by unfold klR; rw [if_pos c_2]⟩, by rw [ht]; exact hP9, va_K.moved hW.alike hK9, hD9⟩, hS.F ht⟩) hS.2.2 dX8_kill_18
  · obtain ⟨u_3, hu_3, eu_3⟩ := hOf_o (by have h9 := hT.b2; omega) c_2
    have hn9 := hT.b2
    rw [show oq ad 2 (hOf n2 p0) = some (ad 2 u_3) from by rw [eu_3]; exact oq_s (by omega)]
    refine W.eq (g2 := F0 m 5 ls [.ref (ad 2 u_3)]) rfl ?_
    refine lv_astore_n (lv' := [(2, .ref (ad 2 u_3)), (0, .ref h0), (1, .int p0)]) hx hb dX8_kill_5 rfl hl (by decide) rfl (fun ls hl => ?_)
    refine lv_aload_n hx hb dX8_kill_6 rfl (lv_at hl 0 rfl) ?_
    refine lv_ifnull hx hb dX8_kill_7 ?_
    refine lv_aload_n hx hb dX8_kill_10 rfl (lv_at hl 0 rfl) ?_
    have hPc := hP.part (cx := []) [] rfl
    have hDc := hD.part (cx := []) [] (by decide) rfl
    have hKc := hK
    have hf_4 : f (ad 2 u_3) = .inr (2, [.int (S 32 u_3 0), .int (S 33 u_3 0), .ref (ad 37 u_3), .ref (ad 36 u_3), .int (S 36 u_3 0), .int (S 37 u_3 0), .int (S 38 u_3 0), va_rf (oq ad 0 (S 39 u_3 0)), .int (S 40 u_3 0), .int (S 41 u_3 0)]) := hT.get (hT.k2 (i := u_3) (by omega))
    obtain ⟨q_5, hq_5⟩ := pl_at (X := []) (f := f) (e := .inr (2, [.int (S 32 u_3 0), .int (S 33 u_3 0), .ref (ad 37 u_3), .ref (ad 36 u_3), .int (S 36 u_3 0), .int (S 37 u_3 0), .int (S 38 u_3 0), va_rf (oq ad 0 (S 39 u_3 0)), .int (S 40 u_3 0), .int (S 41 u_3 0)])) (hT.k2 (i := u_3) (by omega)).1 hf_4
    refine cs_i (va_runV (As := []) (rest := []) ⟨hx, hb, hml, hown, hts⟩ (e_X2_isUnderWay l dC dI cs L ka ix ad n0 n6 n2 S f u_3 (ad 2 u_3) s.heap.size hT (hT.k2 (i := u_3) (by omega)) (by omega)) (cwV 0 hts gX8_kill_X2_isUnderWay rfl rfl rfl (by decide +kernel) ⟨Nat.le_of_ble_eq_true rfl, Nat.le_of_ble_eq_true rfl⟩) ⟨c_blind, va_recv hKc hPc (ci := 2) (q0 := q_5) rfl hq_5, c_pre hPc hKc hDc hN⟩ rfl rfl hl.1 rfl (lv_room (Nat.le_of_ble_eq_true rfl)) dX8_kill_11 ⟨Nat.le_of_ble_eq_true rfl, Nat.le_of_ble_eq_true rfl⟩) (fun r_6 hr_6 => ?_)
    subst hr_6
    refine lv_if_ne (tgt := 19) hx hb dX8_kill_14 (by decide) (fun c_7 => ?_) (fun c_7 => ?_)
    · refine lv_aload_n hx hb dX8_kill_19 rfl (lv_at hl 0 rfl) ?_
      refine lv_iconst (v := 4) hx hb dX8_kill_20 (by decide) ?_
      obtain ⟨q_8, hq_8⟩ := pl_at (X := [(h0, .inr (8, [.ref a1, .ref a2, .ref a3, .ref a4, .ref a5, .ref a6, .ref a7, .ref a8, .ref a9, .int j_faultKind, .int j_horseCount, .int j_tabletCount, .int j_riderCount, .int j_lineLength, .int j_hour]))]) (f := f) (e := .inr (2, [.int (S 32 u_3 0), .int (S 33 u_3 0), .ref (ad 37 u_3), .ref (ad 36 u_3), .int (S 36 u_3 0), .int (S 37 u_3 0), .int (S 38 u_3 0), va_rf (oq ad 0 (S 39 u_3 0)), .int (S 40 u_3 0), .int (S 41 u_3 0)])) (hT.k2 (i := u_3) (by omega)).1 hf_4
      refine va_putN (D := (dC, dI)) (ci := 2) (v := .int 4) (ty := (tyX2 4)) (C := RX2) (T := TX2) (N := 10) hx hb hts hin2 tyX2 tyX2_ok nmX2 hown hK hP hD hS q_8 hq_8 rfl 4 (by decide) (hN.nx (.fieldLinkNest RX8 158 "YamRiders$Rider" "state" "I" "YamRiders") (by decide +kernel)) (fun _ h9 => h9) rfl (by decide +kernel) rfl rfl (Nat.le_of_ble_eq_true rfl) dX8_kill_21 (fun H locs hP9 hD9 hS => ?_)
      have hs_9 := pl_st (.inr (2, [.int (S 32 u_3 0), .int (S 33 u_3 0), .ref (ad 37 u_3), .ref (ad 36 u_3), .int 4, .int (S 37 u_3 0), .int (S 38 u_3 0), va_rf (oq ad 0 (S 39 u_3 0)), .int (S 40 u_3 0), .int (S 41 u_3 0)])) hD (hT.k2 (i := u_3) (by omega)).1 hf_4 hq_8
      have hP9 : va_P (dC, dI) vwCl ((([(h0, .inr (8, [.ref a1, .ref a2, .ref a3, .ref a4, .ref a5, .ref a6, .ref a7, .ref a8, .ref a9, .int j_faultKind, .int j_horseCount, .int j_tabletCount, .int j_riderCount, .int j_lineLength, .int j_hour]))] : va_W) ++ va_pl L f).set q_8 ((ad 2 u_3), .inr (2, [.int (S 32 u_3 0), .int (S 33 u_3 0), .ref (ad 37 u_3), .ref (ad 36 u_3), .int 4, .int (S 37 u_3 0), .int (S 38 u_3 0), va_rf (oq ad 0 (S 39 u_3 0)), .int (S 40 u_3 0), .int (S 41 u_3 0)]))) H := hP9
      have hD9 : va_D A ((([(h0, .inr (8, [.ref a1, .ref a2, .ref a3, .ref a4, .ref a5, .ref a6, .ref a7, .ref a8, .ref a9, .int j_faultKind, .int j_horseCount, .int j_tabletCount, .int j_riderCount, .int j_lineLength, .int j_hour]))] : va_W) ++ va_pl L f).set q_8 ((ad 2 u_3), .inr (2, [.int (S 32 u_3 0), .int (S 33 u_3 0), .ref (ad 37 u_3), .ref (ad 36 u_3), .int 4, .int (S 37 u_3 0), .int (S 38 u_3 0), va_rf (oq ad 0 (S 39 u_3 0)), .int (S 40 u_3 0), .int (S 41 u_3 0)]))) := hD9
      rw [hs_9] at hP9 hD9
      have hT := hT.up (c := 36) (j := 0) (v := 4) (e := .inr (2, [.int (S 32 u_3 0), .int (S 33 u_3 0), .ref (ad 37 u_3), .ref (ad 36 u_3), .int 4, .int (S 37 u_3 0), .int (S 38 u_3 0), va_rf (oq ad 0 (S 39 u_3 0)), .int (S 40 u_3 0), .int (S 41 u_3 0)])) (hT.k2 (i := u_3) (by omega)) rfl (hT.2.2.up (by decide) (by decide) (by decide)) (by simp [EN, up3])
      have hP := hP9
      have hD := hD9
      clear hP9 hD9 hs_9
      obtain ⟨S_11, eS_11⟩ : ∃ S9 : Nat → Nat → Nat → Int32, S9 = up3 S 36 u_3 0 4 := ⟨_, rfl⟩
      rw [← eS_11] at hT
      generalize va_up f (ad 2 u_3) (.inr (2, [.int (S 32 u_3 0), .int (S 33 u_3 0), .ref (ad 37 u_3), .ref (ad 36 u_3), .int 4, .int (S 37 u_3 0), .int (S 38 u_3 0), va_rf (oq ad 0 (S 39 u_3 0)), .int (S 40 u_3 0), .int (S 41 u_3 0)])) = f_10 at hP hD hT
      have hFr_12 : FR S S_11 := by rw [eS_11]; exact FR.up FR.rf (by decide) (by decide)
      refine lv_iconst (v := 1) hx hb dX8_kill_24 (by decide) ?_
      have hP9 := hP.part (cx := [(h0, .inr (8, [.ref a1, .ref a2, .ref a3, .ref a4, .ref a5, .ref a6, .ref a7, .ref a8, .ref a9, .int j_faultKind, .int j_horseCount, .int j_tabletCount, .int j_riderCount, .int j_lineLength, .int j_hour]))]) [0] rfl
      have hD9 := hD.part (cx := [(h0, .inr (8, [.ref a1, .ref a2, .ref a3, .ref a4, .ref a5, .ref a6, .ref a7, .ref a8, .ref a9, .int j_faultKind, .int j_horseCount, .int j_tabletCount, .int j_riderCount, .int j_lineLength, .int j_hour]))]) [0] (by decide) rfl
      have hK9 := hK.sub (tys' := []) [] rfl
      refine W.widen (k := 0) (n := 0) (Nat.le_of_ble_eq_true rfl) (Nat.le_of_ble_eq_true rfl) ?_
      exact W.zret (v := 1) hx hb hr rfl (fun t9 ht hW => ⟨⟨_, 1, rfl, rfl, S_11, f_10, hT, hFr_12, ⟨by rw [eS_11]; unfold klS; rw [if_neg c_2, eu_3, nI_clamp (by omega), if_neg c_7], by unfold klR; rw [if_neg c_2, eu_3, nI_clamp (by omega), if_neg c_7]⟩, by rw [ht]; exact hP9, va_K.moved hW.alike hK9, hD9⟩, hS.F ht⟩) hS.2.2 dX8_kill_25
    · refine lv_iconst (v := 0) hx hb dX8_kill_17 (by decide) ?_
      have hP9 := hP.part (cx := [(h0, .inr (8, [.ref a1, .ref a2, .ref a3, .ref a4, .ref a5, .ref a6, .ref a7, .ref a8, .ref a9, .int j_faultKind, .int j_horseCount, .int j_tabletCount, .int j_riderCount, .int j_lineLength, .int j_hour]))]) [0] rfl
      have hD9 := hD.part (cx := [(h0, .inr (8, [.ref a1, .ref a2, .ref a3, .ref a4, .ref a5, .ref a6, .ref a7, .ref a8, .ref a9, .int j_faultKind, .int j_horseCount, .int j_tabletCount, .int j_riderCount, .int j_lineLength, .int j_hour]))]) [0] (by decide) rfl
      have hK9 := hK.sub (tys' := []) [] rfl
      refine W.widen (k := 0) (n := 0) (Nat.le_of_ble_eq_true rfl) (Nat.le_of_ble_eq_true rfl) ?_
      exact W.zret (v := 0) hx hb hr rfl (fun t9 ht hW => ⟨⟨_, 0, rfl, rfl, S, f, hT, FR.rf, ⟨by unfold klS; rw [if_neg c_2, eu_3, nI_clamp (by omega), if_pos c_7], by unfold klR; rw [if_neg c_2, eu_3, nI_clamp (by omega), if_pos c_7]⟩, by rw [ht]; exact hP9, va_K.moved hW.alike hK9, hD9⟩, hS.F ht⟩) hS.2.2 dX8_kill_18

set_option maxHeartbeats 4000000 in
set_option maxRecDepth 100000 in
theorem e_X8_fodder (l : Launch) (dC : Nat → ClassId) (dI : Nat → Nat → Nat) (cs : Nat → ClassId) (L : List Nat) (ka : Nat → Nat) (ix : Nat → Nat) (ad : Nat → Nat → Nat) (n0 : Nat) (n6 : Nat) (n2 : Nat) (S : Nat → Nat → Nat → Int32) (f : Nat → va_E) (gq : Nat) (h0 : Nat) (a1 : Nat) (a2 : Nat) (a3 : Nat) (a4 : Nat) (a5 : Nat) (a6 : Nat) (a7 : Nat) (a8 : Nat) (a9 : Nat) (j_faultKind : Int32) (j_horseCount : Int32) (j_tabletCount : Int32) (j_riderCount : Int32) (j_lineLength : Int32) (j_hour : Int32) (p0 : Int32) (p1 : Int32) (sz : Nat) (hT : tB L ka ix ad cs n0 n6 n2 S f) (hY : yX L ka ix ad gq a2 a3 a4 a5 a6 a7 a8 a9) : Met l yX8_fodder wsX8_fodder ({ frames := 1, cells := 0, slots := 0, locals := 20 }) (va_Pc [.ref h0, .int p0, .int p1] (cP dC dI ([(h0, .inr (8, [.ref a1, .ref a2, .ref a3, .ref a4, .ref a5, .ref a6, .ref a7, .ref a8, .ref a9, .int j_faultKind, .int j_horseCount, .int j_tabletCount, .int j_riderCount, .int j_lineLength, .int j_hour]))] ++ va_pl L f) (tyC cs) sz)) (va_Qi (fun (r rv : Int32) => r = rv) (fun (rv : Int32) t9 => ∃ (S2 : Nat → Nat → Nat → Int32) (f2 : Nat → va_E), (tB L ka ix ad cs n0 n6 n2 S2 f2) ∧ (FR S S2) ∧ (S2 = fdS S p0 p1 ∧ rv = fdR S p0 p1) ∧ cQ dC dI ([(h0, .inr (8, [.ref a1, .ref a2, .ref a3, .ref a4, .ref a5, .ref a6, .ref a7, .ref a8, .ref a9, .int j_faultKind, .int j_horseCount, .int j_tabletCount, .int j_riderCount, .int j_lineLength, .int j_hour]))] ++ va_pl L f2) [] (va_A ([(h0, .inr (8, [.ref a1, .ref a2, .ref a3, .ref a4, .ref a5, .ref a6, .ref a7, .ref a8, .ref a9, .int j_faultKind, .int j_horseCount, .int j_tabletCount, .int j_riderCount, .int j_lineLength, .int j_hour]))] ++ va_pl L f) sz) t9) (va_A ([(h0, .inr (8, [.ref a1, .ref a2, .ref a3, .ref a4, .ref a5, .ref a6, .ref a7, .ref a8, .ref a9, .int j_faultKind, .int j_horseCount, .int j_tabletCount, .int j_riderCount, .int j_lineLength, .int j_hour]))] ++ va_pl L f) sz)) 0 0 (va_A ([(h0, .inr (8, [.ref a1, .ref a2, .ref a3, .ref a4, .ref a5, .ref a6, .ref a7, .ref a8, .ref a9, .int j_faultKind, .int j_horseCount, .int j_tabletCount, .int j_riderCount, .int j_lineLength, .int j_hour]))] ++ va_pl L f) sz) := by
  refine Met.ofW (cc := cX8_fodder) (maxL := 3) (ret := (some .int)) (by decide) rfl ?_
  intro p e s m args below meth c s₁ B hml hv
  obtain ⟨rfl, hsz, hP, hK, hD0, hN⟩ := hv
  have hx := B.exec
  have hb := B.bytes
  have hr := B.returns
  have hts := atoms_spec (ws := wsX8_fodder) B.pre
  have hown : s.vm.findClass RX8 = some m.cls := findClass_of_methodNamed B.named
  have hlocks := B.notSynchronized
  subst hsz
  have hin8 : ∀ w ∈ u_ws RX8 TX8 15, w ∈ wsX8_fodder := by decide +kernel
  have hD := hD0.self (sz := s.heap.size)
  generalize hAe : va_A ([(h0, .inr (8, [.ref a1, .ref a2, .ref a3, .ref a4, .ref a5, .ref a6, .ref a7, .ref a8, .ref a9, .int j_faultKind, .int j_horseCount, .int j_tabletCount, .int j_riderCount, .int j_lineLength, .int j_hour]))] ++ va_pl L f) s.heap.size = A at hD ⊢
  have hA : ∀ q : Nat, s.heap.size ≤ q → A q := fun q h => by rw [← hAe]; exact Or.inr h
  have hS : va_S A s.heap s.heap [] := va_S.rf
  have hP : va_P (dC, dI) vwCl ([(h0, .inr (8, [.ref a1, .ref a2, .ref a3, .ref a4, .ref a5, .ref a6, .ref a7, .ref a8, .ref a9, .int j_faultKind, .int j_horseCount, .int j_tabletCount, .int j_riderCount, .int j_lineLength, .int j_hour]))] ++ va_pl L f) s.heap := hP
  have hl := lv_entry ([.ref h0, .int p0, .int p1]) (n := 3) (Nat.le_of_ble_eq_true rfl)
  rw [lg_entry_eq]
  generalize (lg_sl ([.ref h0, .int p0, .int p1]) ++ List.replicate (3 - (lg_sl ([.ref h0, .int p0, .int p1])).length) Slot.unset).toArray = ls at hl ⊢
  have hl : lv_has ls 3 [(0, .ref h0), (1, .int p0), (2, .int p1)] := hl
  refine lv_iload_n hx hb dX8_fodder_0 rfl (lv_at hl 1 rfl) ?_
  have hPc := hP.sub (ws' := []) [] rfl
  have hDc := hD.sub (ws' := []) [] (by decide) rfl
  have hKc := hK.sub (tys' := []) [] rfl
  refine cs_i (va_runS (As := [.int p0]) (rest := []) ⟨hx, hb, hml, hown, hts⟩ (c_X8_isStation l dC dI p0 s.heap.size) (va_cwS 1 hts gX8_fodder_X8_isStation rfl rfl rfl (by decide +kernel) ⟨Nat.le_of_ble_eq_true rfl, Nat.le_of_ble_eq_true rfl⟩) ⟨c_blind, c_pre hPc hKc hDc hN⟩ rfl rfl hl.1 rfl (lv_room (Nat.le_of_ble_eq_true rfl)) dX8_fodder_1 ⟨Nat.le_of_ble_eq_true rfl, Nat.le_of_ble_eq_true rfl⟩) (fun r_1 hr_1 => ?_)
  subst hr_1
  refine lv_if_eq (tgt := 32) hx hb dX8_fodder_4 (by decide) (fun c_2 => ?_) (fun c_2 => ?_)
  · refine lv_iconst (v := (-1)) hx hb dX8_fodder_32 (by decide) ?_
    have hP9 := hP.part (cx := [(h0, .inr (8, [.ref a1, .ref a2, .ref a3, .ref a4, .ref a5, .ref a6, .ref a7, .ref a8, .ref a9, .int j_faultKind, .int j_horseCount, .int j_tabletCount, .int j_riderCount, .int j_lineLength, .int j_hour]))]) [0] rfl
    have hD9 := hD.part (cx := [(h0, .inr (8, [.ref a1, .ref a2, .ref a3, .ref a4, .ref a5, .ref a6, .ref a7, .ref a8, .ref a9, .int j_faultKind, .int j_horseCount, .int j_tabletCount, .int j_riderCount, .int j_lineLength, .int j_hour]))]) [0] (by decide) rfl
    have hK9 := hK.sub (tys' := []) [] rfl
    refine W.widen (k := 0) (n := 0) (Nat.le_of_ble_eq_true rfl) (Nat.le_of_ble_eq_true rfl) ?_
    exact W.iret (v := (-1)) hx hb hr (fun t9 ht hW => ⟨⟨_, (-1), rfl, rfl, S, f, hT, FR.rf, ⟨by unfold fdS; rw [if_pos c_2], by unfold fdR; rw [if_pos c_2]⟩, by rw [ht]; exact hP9, va_K.moved hW.alike hK9, hD9⟩, hS.F ht⟩) hS.2.2 dX8_fodder_33
  · refine lv_iload_n hx hb dX8_fodder_7 rfl (lv_at hl 2 rfl) ?_
    refine lv_iconst (v := 1) hx hb dX8_fodder_8 (by decide) ?_
    refine lv_icmp_lt (tgt := 32) hx hb dX8_fodder_9 (by decide) (fun c_3 => ?_) (fun c_3 => ?_)
    · refine lv_iconst (v := (-1)) hx hb dX8_fodder_32 (by decide) ?_
      have hP9 := hP.part (cx := [(h0, .inr (8, [.ref a1, .ref a2, .ref a3, .ref a4, .ref a5, .ref a6, .ref a7, .ref a8, .ref a9, .int j_faultKind, .int j_horseCount, .int j_tabletCount, .int j_riderCount, .int j_lineLength, .int j_hour]))]) [0] rfl
      have hD9 := hD.part (cx := [(h0, .inr (8, [.ref a1, .ref a2, .ref a3, .ref a4, .ref a5, .ref a6, .ref a7, .ref a8, .ref a9, .int j_faultKind, .int j_horseCount, .int j_tabletCount, .int j_riderCount, .int j_lineLength, .int j_hour]))]) [0] (by decide) rfl
      have hK9 := hK.sub (tys' := []) [] rfl
      refine W.widen (k := 0) (n := 0) (Nat.le_of_ble_eq_true rfl) (Nat.le_of_ble_eq_true rfl) ?_
      exact W.iret (v := (-1)) hx hb hr (fun t9 ht hW => ⟨⟨_, (-1), rfl, rfl, S, f, hT, FR.rf, ⟨by unfold fdS; rw [if_neg c_2, if_pos c_3], by unfold fdR; rw [if_neg c_2, if_pos c_3]⟩, by rw [ht]; exact hP9, va_K.moved hW.alike hK9, hD9⟩, hS.F ht⟩) hS.2.2 dX8_fodder_33
    · refine lv_iload_n hx hb dX8_fodder_12 rfl (lv_at hl 2 rfl) ?_
      refine lv_sipush (v := 10000) hx hb dX8_fodder_13 (by decide) ?_
      refine lv_icmp_gt (tgt := 32) hx hb dX8_fodder_16 (by decide) (fun c_4 => ?_) (fun c_4 => ?_)
      · refine lv_iconst (v := (-1)) hx hb dX8_fodder_32 (by decide) ?_
        have hP9 := hP.part (cx := [(h0, .inr (8, [.ref a1, .ref a2, .ref a3, .ref a4, .ref a5, .ref a6, .ref a7, .ref a8, .ref a9, .int j_faultKind, .int j_horseCount, .int j_tabletCount, .int j_riderCount, .int j_lineLength, .int j_hour]))]) [0] rfl
        have hD9 := hD.part (cx := [(h0, .inr (8, [.ref a1, .ref a2, .ref a3, .ref a4, .ref a5, .ref a6, .ref a7, .ref a8, .ref a9, .int j_faultKind, .int j_horseCount, .int j_tabletCount, .int j_riderCount, .int j_lineLength, .int j_hour]))]) [0] (by decide) rfl
        have hK9 := hK.sub (tys' := []) [] rfl
        refine W.widen (k := 0) (n := 0) (Nat.le_of_ble_eq_true rfl) (Nat.le_of_ble_eq_true rfl) ?_
        exact W.iret (v := (-1)) hx hb hr (fun t9 ht hW => ⟨⟨_, (-1), rfl, rfl, S, f, hT, FR.rf, ⟨by unfold fdS; rw [if_neg c_2, if_neg c_3, if_pos c_4], by unfold fdR; rw [if_neg c_2, if_neg c_3, if_pos c_4]⟩, by rw [ht]; exact hP9, va_K.moved hW.alike hK9, hD9⟩, hS.F ht⟩) hS.2.2 dX8_fodder_33
      · refine lv_aload_n hx hb dX8_fodder_19 rfl (lv_at hl 0 rfl) ?_
        refine va_get (D := (dC, dI)) (ci := 8) (v := .ref a4) (C := RX8) (T := TX8) (N := 15) hx hb hts hin8 hown hK hP 0 rfl rfl 3 (by decide) (hts (.fieldLink RX8 30 "YamRiders" "fodderAt" "[I") (by decide +kernel)) (fun _ h9 => h9) rfl dX8_fodder_20 ?_
        refine lv_iload_n hx hb dX8_fodder_23 rfl (lv_at hl 1 rfl) ?_
        obtain ⟨u_5, hu_5, rfl⟩ := st_of c_2
        have hf_6 : f a4 = .inl (cs 0, 12, .inl (S 480 0)) := hT.get hY.2.2.1
        obtain ⟨q_7, hq_7⟩ := pl_at (X := [(h0, .inr (8, [.ref a1, .ref a2, .ref a3, .ref a4, .ref a5, .ref a6, .ref a7, .ref a8, .ref a9, .int j_faultKind, .int j_horseCount, .int j_tabletCount, .int j_riderCount, .int j_lineLength, .int j_hour]))]) (f := f) (e := .inl (cs 0, 12, .inl (S 480 0))) hY.2.2.1.1 hf_6
        refine va_iald hx hb hK hP q_7 0 hq_7 rfl (vp_in_nI (by omega) (by omega)) dX8_fodder_24 ?_
        refine lv_topi (fun v_8 ev_8 => ?_)
        obtain rfl : v_8 = S 480 0 u_5 := ev_8.trans (by rw [(nI_clamp (by omega))])
        refine lv_iload_n hx hb dX8_fodder_25 rfl (lv_at hl 2 rfl) ?_
        refine lv_iadd hx hb dX8_fodder_26 ?_
        refine lv_ldc (v := 100000) hx hb hown (hts (.constant RX8 109 (100000)) (by decide +kernel)) dX8_fodder_27 ?_
        refine lv_icmp_le (tgt := 34) hx hb dX8_fodder_29 (by decide) (fun c_9 => ?_) (fun c_9 => ?_)
        · refine lv_aload_n hx hb dX8_fodder_34 rfl (lv_at hl 0 rfl) ?_
          refine va_get (D := (dC, dI)) (ci := 8) (v := .ref a4) (C := RX8) (T := TX8) (N := 15) hx hb hts hin8 hown hK hP 0 rfl rfl 3 (by decide) (hts (.fieldLink RX8 30 "YamRiders" "fodderAt" "[I") (by decide +kernel)) (fun _ h9 => h9) rfl dX8_fodder_35 ?_
          refine lv_iload_n hx hb dX8_fodder_38 rfl (lv_at hl 1 rfl) ?_
          refine lv_dup2_11 hx hb dX8_fodder_39 rfl rfl ?_
          obtain ⟨q_10, hq_10⟩ := pl_at (X := [(h0, .inr (8, [.ref a1, .ref a2, .ref a3, .ref a4, .ref a5, .ref a6, .ref a7, .ref a8, .ref a9, .int j_faultKind, .int j_horseCount, .int j_tabletCount, .int j_riderCount, .int j_lineLength, .int j_hour]))]) (f := f) (e := .inl (cs 0, 12, .inl (S 480 0))) hY.2.2.1.1 hf_6
          refine va_iald hx hb hK hP q_10 0 hq_10 rfl (vp_in_nI (by omega) (by omega)) dX8_fodder_40 ?_
          refine lv_topi (fun v_11 ev_11 => ?_)
          obtain rfl : v_11 = S 480 0 u_5 := ev_11.trans (by rw [(nI_clamp (by omega))])
          refine lv_iload_n hx hb dX8_fodder_41 rfl (lv_at hl 2 rfl) ?_
          refine lv_iadd hx hb dX8_fodder_42 ?_
          obtain ⟨q_12, hq_12⟩ := pl_at (X := [(h0, .inr (8, [.ref a1, .ref a2, .ref a3, .ref a4, .ref a5, .ref a6, .ref a7, .ref a8, .ref a9, .int j_faultKind, .int j_horseCount, .int j_tabletCount, .int j_riderCount, .int j_lineLength, .int j_hour]))]) (f := f) (e := .inl (cs 0, 12, .inl (S 480 0))) hY.2.2.1.1 hf_6
          refine va_iast hx hb hK hP hD hS q_12 0 hq_12 rfl (vp_in_nI (by omega) (by omega)) dX8_fodder_43 (fun H locs hP9 hD9 hS => ?_)
          have hs_13 := pl_st (.inl (cs 0, 12, .inl (upd (S 480 0) (nI u_5).toNatClampNeg ((S 480 0 u_5) + p1)))) hD hY.2.2.1.1 hf_6 hq_12
          have hP9 : va_P (dC, dI) vwCl ((([(h0, .inr (8, [.ref a1, .ref a2, .ref a3, .ref a4, .ref a5, .ref a6, .ref a7, .ref a8, .ref a9, .int j_faultKind, .int j_horseCount, .int j_tabletCount, .int j_riderCount, .int j_lineLength, .int j_hour]))] : va_W) ++ va_pl L f).set q_12 (a4, .inl (cs 0, 12, .inl (upd (S 480 0) (nI u_5).toNatClampNeg ((S 480 0 u_5) + p1))))) H := hP9
          have hD9 : va_D A ((([(h0, .inr (8, [.ref a1, .ref a2, .ref a3, .ref a4, .ref a5, .ref a6, .ref a7, .ref a8, .ref a9, .int j_faultKind, .int j_horseCount, .int j_tabletCount, .int j_riderCount, .int j_lineLength, .int j_hour]))] : va_W) ++ va_pl L f).set q_12 (a4, .inl (cs 0, 12, .inl (upd (S 480 0) (nI u_5).toNatClampNeg ((S 480 0 u_5) + p1))))) := hD9
          rw [hs_13] at hP9 hD9
          have hT := hT.up (c := 480) (j := u_5) (v := ((S 480 0 u_5) + p1)) (e := .inl (cs 0, 12, .inl (upd (S 480 0) (nI u_5).toNatClampNeg ((S 480 0 u_5) + p1)))) hY.2.2.1 rfl (hT.2.2.up (by decide) (by decide) (by decide)) (by simp only [EN]; rw [up3_a, (nI_clamp (by omega))])
          have hP := hP9
          have hD := hD9
          clear hP9 hD9 hs_13
          obtain ⟨S_15, eS_15⟩ : ∃ S9 : Nat → Nat → Nat → Int32, S9 = up3 S 480 0 u_5 ((S 480 0 u_5) + p1) := ⟨_, rfl⟩
          rw [← eS_15] at hT
          generalize va_up f a4 (.inl (cs 0, 12, .inl (upd (S 480 0) (nI u_5).toNatClampNeg ((S 480 0 u_5) + p1)))) = f_14 at hP hD hT
          have hFr_16 : FR S S_15 := by rw [eS_15]; exact FR.up FR.rf (by decide) (by decide)
          refine lv_aload_n hx hb dX8_fodder_44 rfl (lv_at hl 0 rfl) ?_
          refine va_get (D := (dC, dI)) (ci := 8) (v := .ref a4) (C := RX8) (T := TX8) (N := 15) hx hb hts hin8 hown hK hP 0 rfl rfl 3 (by decide) (hts (.fieldLink RX8 30 "YamRiders" "fodderAt" "[I") (by decide +kernel)) (fun _ h9 => h9) rfl dX8_fodder_45 ?_
          refine lv_iload_n hx hb dX8_fodder_48 rfl (lv_at hl 1 rfl) ?_
          have hf_17 : f_14 a4 = .inl (cs 0, 12, .inl (S_15 480 0)) := hT.get hY.2.2.1
          obtain ⟨q_18, hq_18⟩ := pl_at (X := [(h0, .inr (8, [.ref a1, .ref a2, .ref a3, .ref a4, .ref a5, .ref a6, .ref a7, .ref a8, .ref a9, .int j_faultKind, .int j_horseCount, .int j_tabletCount, .int j_riderCount, .int j_lineLength, .int j_hour]))]) (f := f_14) (e := .inl (cs 0, 12, .inl (S_15 480 0))) hY.2.2.1.1 hf_17
          refine va_iald hx hb hK hP q_18 0 hq_18 rfl (vp_in_nI (by omega) (by omega)) dX8_fodder_49 ?_
          refine lv_topi (fun v_19 ev_19 => ?_)
          obtain rfl : v_19 = S_15 480 0 u_5 := ev_19.trans (by rw [(nI_clamp (by omega))])
          have hP9 := hP.part (cx := [(h0, .inr (8, [.ref a1, .ref a2, .ref a3, .ref a4, .ref a5, .ref a6, .ref a7, .ref a8, .ref a9, .int j_faultKind, .int j_horseCount, .int j_tabletCount, .int j_riderCount, .int j_lineLength, .int j_hour]))]) [0] rfl
          have hD9 := hD.part (cx := [(h0, .inr (8, [.ref a1, .ref a2, .ref a3, .ref a4, .ref a5, .ref a6, .ref a7, .ref a8, .ref a9, .int j_faultKind, .int j_horseCount, .int j_tabletCount, .int j_riderCount, .int j_lineLength, .int j_hour]))]) [0] (by decide) rfl
          have hK9 := hK.sub (tys' := []) [] rfl
          refine W.widen (k := 0) (n := 0) (Nat.le_of_ble_eq_true rfl) (Nat.le_of_ble_eq_true rfl) ?_
          exact W.iret (v := S_15 480 0 u_5) hx hb hr (fun t9 ht hW => ⟨⟨_, S_15 480 0 u_5, rfl, rfl, S_15, f_14, hT, hFr_16, ⟨by rw [eS_15]; unfold fdS; rw [if_neg c_2, if_neg c_3, if_neg c_4, nI_clamp (by omega), if_pos c_9], by rw [eS_15, up3_s]; unfold fdR; rw [if_neg c_2, if_neg c_3, if_neg c_4, nI_clamp (by omega), if_pos c_9]⟩, by rw [ht]; exact hP9, va_K.moved hW.alike hK9, hD9⟩, hS.F ht⟩) hS.2.2 dX8_fodder_50
        · refine lv_iconst (v := (-1)) hx hb dX8_fodder_32 (by decide) ?_
          have hP9 := hP.part (cx := [(h0, .inr (8, [.ref a1, .ref a2, .ref a3, .ref a4, .ref a5, .ref a6, .ref a7, .ref a8, .ref a9, .int j_faultKind, .int j_horseCount, .int j_tabletCount, .int j_riderCount, .int j_lineLength, .int j_hour]))]) [0] rfl
          have hD9 := hD.part (cx := [(h0, .inr (8, [.ref a1, .ref a2, .ref a3, .ref a4, .ref a5, .ref a6, .ref a7, .ref a8, .ref a9, .int j_faultKind, .int j_horseCount, .int j_tabletCount, .int j_riderCount, .int j_lineLength, .int j_hour]))]) [0] (by decide) rfl
          have hK9 := hK.sub (tys' := []) [] rfl
          refine W.widen (k := 0) (n := 0) (Nat.le_of_ble_eq_true rfl) (Nat.le_of_ble_eq_true rfl) ?_
          exact W.iret (v := (-1)) hx hb hr (fun t9 ht hW => ⟨⟨_, (-1), rfl, rfl, S, f, hT, FR.rf, ⟨by unfold fdS; rw [if_neg c_2, if_neg c_3, if_neg c_4, nI_clamp (by omega), if_neg c_9], by unfold fdR; rw [if_neg c_2, if_neg c_3, if_neg c_4, nI_clamp (by omega), if_neg c_9]⟩, by rw [ht]; exact hP9, va_K.moved hW.alike hK9, hD9⟩, hS.F ht⟩) hS.2.2 dX8_fodder_33

def sp_road (p0 p1 p2 : Int32) : Int32 := (if (sp_st p0) = 0 then 0 else (if (sp_st p1) = 0 then 0 else (if p0 = p1 then 0 else (if p2 < 0 then 0 else (if p2 ≤ 24 then 1 else 0)))))
theorem b_in3 {x : Int32} (h0 : ¬ x < 0) (h1 : ¬ 200 ≤ x) : vp_in x 200 := in_nI (n := 200) h0 h1 (by decide)
def lyS (S : Nat → Nat → Nat → Int32) (u v : Nat) (p : Int32) : Nat → Nat → Nat → Int32 := up3 (up3 (up3 (up3 S 416 u v p) 416 v u p) 432 u v 0) 432 v u 0
def snS (S : Nat → Nat → Nat → Int32) (u v : Nat) (p : Int32) : Nat → Nat → Nat → Int32 := up3 (up3 S 432 u v p) 432 v u p
def LY (S T : Nat → Nat → Nat → Int32) (p0 p1 p2 rv : Int32) : Prop := (rv = 0 ∧ T = S ∧ sp_road p0 p1 p2 = 0) ∨ (rv = 1 ∧ ∃ u v : Nat, u < 12 ∧ v < 12 ∧ ¬ u = v ∧ p0 = nI u ∧ p1 = nI v ∧ ¬ p2 < 0 ∧ p2 ≤ 24 ∧ T = lyS S u v p2)
def SN (S T : Nat → Nat → Nat → Int32) (p0 p1 p2 rv : Int32) : Prop := (rv = 0 ∧ T = S ∧ (tmG S p0 p1 = -1 ∨ p2 < 0 ∨ ¬ p2 ≤ 24)) ∨ (rv = 1 ∧ ∃ u v : Nat, u < 12 ∧ v < 12 ∧ p0 = nI u ∧ p1 = nI v ∧ ¬ S 416 u v = 0 ∧ ¬ p2 < 0 ∧ p2 ≤ 24 ∧ T = snS S u v p2)

set_option maxHeartbeats 4000000 in
set_option maxRecDepth 100000 in
theorem e_X8_road (l : Launch) (dC : Nat → ClassId) (dI : Nat → Nat → Nat) (cs : Nat → ClassId) (L : List Nat) (ka : Nat → Nat) (ix : Nat → Nat) (ad : Nat → Nat → Nat) (n0 : Nat) (n6 : Nat) (n2 : Nat) (S : Nat → Nat → Nat → Int32) (f : Nat → va_E) (gq : Nat) (h0 : Nat) (a1 : Nat) (a2 : Nat) (a3 : Nat) (a4 : Nat) (a5 : Nat) (a6 : Nat) (a7 : Nat) (a8 : Nat) (a9 : Nat) (j_faultKind : Int32) (j_horseCount : Int32) (j_tabletCount : Int32) (j_riderCount : Int32) (j_lineLength : Int32) (j_hour : Int32) (p0 : Int32) (p1 : Int32) (p2 : Int32) (sz : Nat) (hT : tB L ka ix ad cs n0 n6 n2 S f) (hY : yX L ka ix ad gq a2 a3 a4 a5 a6 a7 a8 a9) : Met l yX8_road wsX8_road ({ frames := 3, cells := 0, slots := 0, locals := 66 }) (va_Pc [.ref h0, .int p0, .int p1, .int p2] (cP dC dI ([(h0, .inr (8, [.ref a1, .ref a2, .ref a3, .ref a4, .ref a5, .ref a6, .ref a7, .ref a8, .ref a9, .int j_faultKind, .int j_horseCount, .int j_tabletCount, .int j_riderCount, .int j_lineLength, .int j_hour]))] ++ va_pl L f) (tyC cs) sz)) (va_Qi (fun (r rv : Int32) => r = rv) (fun (rv : Int32) t9 => ∃ (S2 : Nat → Nat → Nat → Int32) (f2 : Nat → va_E), (tB L ka ix ad cs n0 n6 n2 S2 f2) ∧ (LY S S2 p0 p1 p2 rv) ∧ cQ dC dI ([(h0, .inr (8, [.ref a1, .ref a2, .ref a3, .ref a4, .ref a5, .ref a6, .ref a7, .ref a8, .ref a9, .int j_faultKind, .int j_horseCount, .int j_tabletCount, .int j_riderCount, .int j_lineLength, .int j_hour]))] ++ va_pl L f2) [] (va_A ([(h0, .inr (8, [.ref a1, .ref a2, .ref a3, .ref a4, .ref a5, .ref a6, .ref a7, .ref a8, .ref a9, .int j_faultKind, .int j_horseCount, .int j_tabletCount, .int j_riderCount, .int j_lineLength, .int j_hour]))] ++ va_pl L f) sz) t9) (va_A ([(h0, .inr (8, [.ref a1, .ref a2, .ref a3, .ref a4, .ref a5, .ref a6, .ref a7, .ref a8, .ref a9, .int j_faultKind, .int j_horseCount, .int j_tabletCount, .int j_riderCount, .int j_lineLength, .int j_hour]))] ++ va_pl L f) sz)) 0 0 (va_A ([(h0, .inr (8, [.ref a1, .ref a2, .ref a3, .ref a4, .ref a5, .ref a6, .ref a7, .ref a8, .ref a9, .int j_faultKind, .int j_horseCount, .int j_tabletCount, .int j_riderCount, .int j_lineLength, .int j_hour]))] ++ va_pl L f) sz) := by
  refine Met.ofW (cc := cX8_road) (maxL := 4) (ret := (some .boolean)) (by decide) rfl ?_
  intro p e s m args below meth c s₁ B hml hv
  obtain ⟨rfl, hsz, hP, hK, hD0, hN⟩ := hv
  have hx := B.exec
  have hb := B.bytes
  have hr := B.returns
  have hts := atoms_spec (ws := wsX8_road) B.pre
  have hown : s.vm.findClass RX8 = some m.cls := findClass_of_methodNamed B.named
  have hlocks := B.notSynchronized
  subst hsz
  have hin8 : ∀ w ∈ u_ws RX8 TX8 15, w ∈ wsX8_road := by decide +kernel
  have hD := hD0.self (sz := s.heap.size)
  generalize hAe : va_A ([(h0, .inr (8, [.ref a1, .ref a2, .ref a3, .ref a4, .ref a5, .ref a6, .ref a7, .ref a8, .ref a9, .int j_faultKind, .int j_horseCount, .int j_tabletCount, .int j_riderCount, .int j_lineLength, .int j_hour]))] ++ va_pl L f) s.heap.size = A at hD ⊢
  have hA : ∀ q : Nat, s.heap.size ≤ q → A q := fun q h => by rw [← hAe]; exact Or.inr h
  have hS : va_S A s.heap s.heap [] := va_S.rf
  have hP : va_P (dC, dI) vwCl ([(h0, .inr (8, [.ref a1, .ref a2, .ref a3, .ref a4, .ref a5, .ref a6, .ref a7, .ref a8, .ref a9, .int j_faultKind, .int j_horseCount, .int j_tabletCount, .int j_riderCount, .int j_lineLength, .int j_hour]))] ++ va_pl L f) s.heap := hP
  have hl := lv_entry ([.ref h0, .int p0, .int p1, .int p2]) (n := 4) (Nat.le_of_ble_eq_true rfl)
  rw [lg_entry_eq]
  generalize (lg_sl ([.ref h0, .int p0, .int p1, .int p2]) ++ List.replicate (4 - (lg_sl ([.ref h0, .int p0, .int p1, .int p2])).length) Slot.unset).toArray = ls at hl ⊢
  have hl : lv_has ls 4 [(0, .ref h0), (1, .int p0), (2, .int p1), (3, .int p2)] := hl
  refine lv_iload_n hx hb dX8_road_0 rfl (lv_at hl 1 rfl) ?_
  have hPc := hP.sub (ws' := []) [] rfl
  have hDc := hD.sub (ws' := []) [] (by decide) rfl
  have hKc := hK.sub (tys' := []) [] rfl
  refine cs_i (va_runS (As := [.int p0]) (rest := []) ⟨hx, hb, hml, hown, hts⟩ (c_X8_isStation l dC dI p0 s.heap.size) (va_cwS 1 hts gX8_road_X8_isStation rfl rfl rfl (by decide +kernel) ⟨Nat.le_of_ble_eq_true rfl, Nat.le_of_ble_eq_true rfl⟩) ⟨c_blind, c_pre hPc hKc hDc hN⟩ rfl rfl hl.1 rfl (lv_room (Nat.le_of_ble_eq_true rfl)) dX8_road_1 ⟨Nat.le_of_ble_eq_true rfl, Nat.le_of_ble_eq_true rfl⟩) (fun r_1 hr_1 => ?_)
  subst hr_1
  refine lv_if_eq (tgt := 29) hx hb dX8_road_4 (by decide) (fun c_2 => ?_) (fun c_2 => ?_)
  · refine lv_iconst (v := 0) hx hb dX8_road_29 (by decide) ?_
    have hP9 := hP.part (cx := [(h0, .inr (8, [.ref a1, .ref a2, .ref a3, .ref a4, .ref a5, .ref a6, .ref a7, .ref a8, .ref a9, .int j_faultKind, .int j_horseCount, .int j_tabletCount, .int j_riderCount, .int j_lineLength, .int j_hour]))]) [0] rfl
    have hD9 := hD.part (cx := [(h0, .inr (8, [.ref a1, .ref a2, .ref a3, .ref a4, .ref a5, .ref a6, .ref a7, .ref a8, .ref a9, .int j_faultKind, .int j_horseCount, .int j_tabletCount, .int j_riderCount, .int j_lineLength, .int j_hour]))]) [0] (by decide) rfl
    have hK9 := hK.sub (tys' := []) [] rfl
    refine W.widen (k := 0) (n := 0) (Nat.le_of_ble_eq_true rfl) (Nat.le_of_ble_eq_true rfl) ?_
    exact W.zret (v := 0) hx hb hr rfl (fun t9 ht hW => ⟨⟨_, 0, rfl, rfl, S, f, hT, (Or.inl ⟨rfl, rfl, by unfold sp_road; rw [if_pos c_2]⟩), by rw [ht]; exact hP9, va_K.moved hW.alike hK9, hD9⟩, hS.F ht⟩) hS.2.2 dX8_road_30
  · refine lv_iload_n hx hb dX8_road_7 rfl (lv_at hl 2 rfl) ?_
    have hPc := hP.sub (ws' := []) [] rfl
    have hDc := hD.sub (ws' := []) [] (by decide) rfl
    have hKc := hK.sub (tys' := []) [] rfl
    refine cs_i (va_runS (As := [.int p1]) (rest := []) ⟨hx, hb, hml, hown, hts⟩ (c_X8_isStation l dC dI p1 s.heap.size) (va_cwS 1 hts gX8_road_X8_isStation rfl rfl rfl (by decide +kernel) ⟨Nat.le_of_ble_eq_true rfl, Nat.le_of_ble_eq_true rfl⟩) ⟨c_blind, c_pre hPc hKc hDc hN⟩ rfl rfl hl.1 rfl (lv_room (Nat.le_of_ble_eq_true rfl)) dX8_road_8 ⟨Nat.le_of_ble_eq_true rfl, Nat.le_of_ble_eq_true rfl⟩) (fun r_3 hr_3 => ?_)
    subst hr_3
    refine lv_if_eq (tgt := 29) hx hb dX8_road_11 (by decide) (fun c_4 => ?_) (fun c_4 => ?_)
    · refine lv_iconst (v := 0) hx hb dX8_road_29 (by decide) ?_
      have hP9 := hP.part (cx := [(h0, .inr (8, [.ref a1, .ref a2, .ref a3, .ref a4, .ref a5, .ref a6, .ref a7, .ref a8, .ref a9, .int j_faultKind, .int j_horseCount, .int j_tabletCount, .int j_riderCount, .int j_lineLength, .int j_hour]))]) [0] rfl
      have hD9 := hD.part (cx := [(h0, .inr (8, [.ref a1, .ref a2, .ref a3, .ref a4, .ref a5, .ref a6, .ref a7, .ref a8, .ref a9, .int j_faultKind, .int j_horseCount, .int j_tabletCount, .int j_riderCount, .int j_lineLength, .int j_hour]))]) [0] (by decide) rfl
      have hK9 := hK.sub (tys' := []) [] rfl
      refine W.widen (k := 0) (n := 0) (Nat.le_of_ble_eq_true rfl) (Nat.le_of_ble_eq_true rfl) ?_
      exact W.zret (v := 0) hx hb hr rfl (fun t9 ht hW => ⟨⟨_, 0, rfl, rfl, S, f, hT, (Or.inl ⟨rfl, rfl, by unfold sp_road; rw [if_neg c_2, if_pos c_4]⟩), by rw [ht]; exact hP9, va_K.moved hW.alike hK9, hD9⟩, hS.F ht⟩) hS.2.2 dX8_road_30
    · refine lv_iload_n hx hb dX8_road_14 rfl (lv_at hl 1 rfl) ?_
      refine lv_iload_n hx hb dX8_road_15 rfl (lv_at hl 2 rfl) ?_
      refine lv_icmp_eq (tgt := 29) hx hb dX8_road_16 (by decide) (fun c_5 => ?_) (fun c_5 => ?_)
      · refine lv_iconst (v := 0) hx hb dX8_road_29 (by decide) ?_
        have hP9 := hP.part (cx := [(h0, .inr (8, [.ref a1, .ref a2, .ref a3, .ref a4, .ref a5, .ref a6, .ref a7, .ref a8, .ref a9, .int j_faultKind, .int j_horseCount, .int j_tabletCount, .int j_riderCount, .int j_lineLength, .int j_hour]))]) [0] rfl
        have hD9 := hD.part (cx := [(h0, .inr (8, [.ref a1, .ref a2, .ref a3, .ref a4, .ref a5, .ref a6, .ref a7, .ref a8, .ref a9, .int j_faultKind, .int j_horseCount, .int j_tabletCount, .int j_riderCount, .int j_lineLength, .int j_hour]))]) [0] (by decide) rfl
        have hK9 := hK.sub (tys' := []) [] rfl
        refine W.widen (k := 0) (n := 0) (Nat.le_of_ble_eq_true rfl) (Nat.le_of_ble_eq_true rfl) ?_
        exact W.zret (v := 0) hx hb hr rfl (fun t9 ht hW => ⟨⟨_, 0, rfl, rfl, S, f, hT, (Or.inl ⟨rfl, rfl, by unfold sp_road; rw [if_neg c_2, if_neg c_4, if_pos c_5]⟩), by rw [ht]; exact hP9, va_K.moved hW.alike hK9, hD9⟩, hS.F ht⟩) hS.2.2 dX8_road_30
      · refine lv_iload_n hx hb dX8_road_19 rfl (lv_at hl 3 rfl) ?_
        refine lv_if_lt (tgt := 29) hx hb dX8_road_20 (by decide) (fun c_6 => ?_) (fun c_6 => ?_)
        · refine lv_iconst (v := 0) hx hb dX8_road_29 (by decide) ?_
          have hP9 := hP.part (cx := [(h0, .inr (8, [.ref a1, .ref a2, .ref a3, .ref a4, .ref a5, .ref a6, .ref a7, .ref a8, .ref a9, .int j_faultKind, .int j_horseCount, .int j_tabletCount, .int j_riderCount, .int j_lineLength, .int j_hour]))]) [0] rfl
          have hD9 := hD.part (cx := [(h0, .inr (8, [.ref a1, .ref a2, .ref a3, .ref a4, .ref a5, .ref a6, .ref a7, .ref a8, .ref a9, .int j_faultKind, .int j_horseCount, .int j_tabletCount, .int j_riderCount, .int j_lineLength, .int j_hour]))]) [0] (by decide) rfl
          have hK9 := hK.sub (tys' := []) [] rfl
          refine W.widen (k := 0) (n := 0) (Nat.le_of_ble_eq_true rfl) (Nat.le_of_ble_eq_true rfl) ?_
          exact W.zret (v := 0) hx hb hr rfl (fun t9 ht hW => ⟨⟨_, 0, rfl, rfl, S, f, hT, (Or.inl ⟨rfl, rfl, by unfold sp_road; rw [if_neg c_2, if_neg c_4, if_neg c_5, if_pos c_6]⟩), by rw [ht]; exact hP9, va_K.moved hW.alike hK9, hD9⟩, hS.F ht⟩) hS.2.2 dX8_road_30
        · refine lv_iload_n hx hb dX8_road_23 rfl (lv_at hl 3 rfl) ?_
          refine lv_bipush (v := 24) hx hb dX8_road_24 (by decide) ?_
          refine lv_icmp_le (tgt := 31) hx hb dX8_road_26 (by decide) (fun c_7 => ?_) (fun c_7 => ?_)
          · obtain ⟨uu9, huu9, rfl⟩ := st_of c_2
            obtain ⟨vv9, hvv9, rfl⟩ := st_of c_4
            refine lv_aload_n hx hb dX8_road_31 rfl (lv_at hl 0 rfl) ?_
            refine va_get (D := (dC, dI)) (ci := 8) (v := .ref a2) (C := RX8) (T := TX8) (N := 15) hx hb hts hin8 hown hK hP 0 rfl rfl 1 (by decide) (hts (.fieldLink RX8 19 "YamRiders" "roads" "LYamRiders$Roads;") (by decide +kernel)) (fun _ h9 => h9) rfl dX8_road_32 ?_
            refine lv_iload_n hx hb dX8_road_35 rfl (lv_at hl 1 rfl) ?_
            refine lv_iload_n hx hb dX8_road_36 rfl (lv_at hl 2 rfl) ?_
            refine lv_iload_n hx hb dX8_road_37 rfl (lv_at hl 3 rfl) ?_
            have hPc := hP.part (cx := []) [] rfl
            have hDc := hD.part (cx := []) [] (by decide) rfl
            have hKc := hK
            have hFc := va_freeP (cx := []) hD hS hA [] rfl
            have hf_8 : f a2 = .inr (3, [.ref (ad 24 0), .ref (ad 25 0), .ref (ad 31 0), .ref (ad 32 0), .ref (ad 33 0)]) := hT.get hY.1
            obtain ⟨q_9, hq_9⟩ := pl_at (X := []) (f := f) (e := .inr (3, [.ref (ad 24 0), .ref (ad 25 0), .ref (ad 31 0), .ref (ad 32 0), .ref (ad 33 0)])) hY.1.1 hf_8
            refine va_callv (va_runV (As := [.int (nI uu9), .int (nI vv9), .int p2]) (rest := []) ⟨hx, hb, hml, hown, hts⟩ (e_X3_lay l dC dI cs L ka ix ad n0 n6 n2 S f a2 uu9 vv9 p2 s.heap.size hT hY.1 (by omega) (by omega)) (cwV 3 hts gX8_road_X3_lay rfl rfl rfl (by decide +kernel) ⟨Nat.le_of_ble_eq_true rfl, Nat.le_of_ble_eq_true rfl⟩) ⟨c_blind, va_recv hKc hPc (ci := 3) (q0 := q_9) rfl hq_9, c_pre hPc hKc hDc hN⟩ rfl rfl hl.1 rfl (lv_room (Nat.le_of_ble_eq_true rfl)) dX8_road_38 ⟨Nat.le_of_ble_eq_true rfl, Nat.le_of_ble_eq_true rfl⟩) hS (fun q _ h => hFc q h) hFc (fun u9 t9 H1 locs ht hvm hw hB hz1 hk1 hS => ?_)
            obtain ⟨S_11, f_12, hf_x_13, hf_x_14, hP1, hK1, hD1⟩ := hB
            rw [ht] at hP1
            have hK1 := va_K.moved hvm.symm hK1
            obtain ⟨hP, hD⟩ := va_joinP (X := [(h0, .inr (8, [.ref a1, .ref a2, .ref a3, .ref a4, .ref a5, .ref a6, .ref a7, .ref a8, .ref a9, .int j_faultKind, .int j_horseCount, .int j_tabletCount, .int j_riderCount, .int j_lineLength, .int j_hour]))]) (cx := []) (wr := [(h0, .inr (8, [.ref a1, .ref a2, .ref a3, .ref a4, .ref a5, .ref a6, .ref a7, .ref a8, .ref a9, .int j_faultKind, .int j_horseCount, .int j_tabletCount, .int j_riderCount, .int j_lineLength, .int j_hour]))]) (rx := []) (pl := va_pl L f) (pl1 := va_pl L f_12) hP hD [] [0] rfl rfl (by decide) (by decide) hk1 hFc hP1 hD1
            have hT := hf_x_13
            generalize H1 = H at hP hS ⊢
            have hP : va_P (dC, dI) vwCl ([(h0, .inr (8, [.ref a1, .ref a2, .ref a3, .ref a4, .ref a5, .ref a6, .ref a7, .ref a8, .ref a9, .int j_faultKind, .int j_horseCount, .int j_tabletCount, .int j_riderCount, .int j_lineLength, .int j_hour]))] ++ va_pl L f_12) H := hP
            have hD : va_D A ([(h0, .inr (8, [.ref a1, .ref a2, .ref a3, .ref a4, .ref a5, .ref a6, .ref a7, .ref a8, .ref a9, .int j_faultKind, .int j_horseCount, .int j_tabletCount, .int j_riderCount, .int j_lineLength, .int j_hour]))] ++ va_pl L f_12) := hD
            refine W.widen (k := 0) (n := 0) (Nat.le_of_ble_eq_true rfl) (Nat.le_of_ble_eq_true rfl) ?_
            refine lv_iconst (v := 1) hx hb dX8_road_41 (by decide) ?_
            have hP9 := hP.part (cx := [(h0, .inr (8, [.ref a1, .ref a2, .ref a3, .ref a4, .ref a5, .ref a6, .ref a7, .ref a8, .ref a9, .int j_faultKind, .int j_horseCount, .int j_tabletCount, .int j_riderCount, .int j_lineLength, .int j_hour]))]) [0] rfl
            have hD9 := hD.part (cx := [(h0, .inr (8, [.ref a1, .ref a2, .ref a3, .ref a4, .ref a5, .ref a6, .ref a7, .ref a8, .ref a9, .int j_faultKind, .int j_horseCount, .int j_tabletCount, .int j_riderCount, .int j_lineLength, .int j_hour]))]) [0] (by decide) rfl
            have hK9 := hK.sub (tys' := []) [] rfl
            refine W.widen (k := 0) (n := 0) (Nat.le_of_ble_eq_true rfl) (Nat.le_of_ble_eq_true rfl) ?_
            exact W.zret (v := 1) hx hb hr rfl (fun t9 ht hW => ⟨⟨_, 1, rfl, rfl, S_11, f_12, hT, (Or.inr ⟨rfl, uu9, vv9, huu9, hvv9, fun q => c_5 (by rw [q]), rfl, rfl, c_6, c_7, hf_x_14⟩), by rw [ht]; exact hP9, va_K.moved hW.alike hK9, hD9⟩, hS.F ht⟩) hS.2.2 dX8_road_42
          · refine lv_iconst (v := 0) hx hb dX8_road_29 (by decide) ?_
            have hP9 := hP.part (cx := [(h0, .inr (8, [.ref a1, .ref a2, .ref a3, .ref a4, .ref a5, .ref a6, .ref a7, .ref a8, .ref a9, .int j_faultKind, .int j_horseCount, .int j_tabletCount, .int j_riderCount, .int j_lineLength, .int j_hour]))]) [0] rfl
            have hD9 := hD.part (cx := [(h0, .inr (8, [.ref a1, .ref a2, .ref a3, .ref a4, .ref a5, .ref a6, .ref a7, .ref a8, .ref a9, .int j_faultKind, .int j_horseCount, .int j_tabletCount, .int j_riderCount, .int j_lineLength, .int j_hour]))]) [0] (by decide) rfl
            have hK9 := hK.sub (tys' := []) [] rfl
            refine W.widen (k := 0) (n := 0) (Nat.le_of_ble_eq_true rfl) (Nat.le_of_ble_eq_true rfl) ?_
            exact W.zret (v := 0) hx hb hr rfl (fun t9 ht hW => ⟨⟨_, 0, rfl, rfl, S, f, hT, (Or.inl ⟨rfl, rfl, by unfold sp_road; rw [if_neg c_2, if_neg c_4, if_neg c_5, if_neg c_6, if_neg c_7]⟩), by rw [ht]; exact hP9, va_K.moved hW.alike hK9, hD9⟩, hS.F ht⟩) hS.2.2 dX8_road_30

set_option maxHeartbeats 4000000 in
set_option maxRecDepth 100000 in
theorem e_X8_snow (l : Launch) (dC : Nat → ClassId) (dI : Nat → Nat → Nat) (cs : Nat → ClassId) (L : List Nat) (ka : Nat → Nat) (ix : Nat → Nat) (ad : Nat → Nat → Nat) (n0 : Nat) (n6 : Nat) (n2 : Nat) (S : Nat → Nat → Nat → Int32) (f : Nat → va_E) (gq : Nat) (h0 : Nat) (a1 : Nat) (a2 : Nat) (a3 : Nat) (a4 : Nat) (a5 : Nat) (a6 : Nat) (a7 : Nat) (a8 : Nat) (a9 : Nat) (j_faultKind : Int32) (j_horseCount : Int32) (j_tabletCount : Int32) (j_riderCount : Int32) (j_lineLength : Int32) (j_hour : Int32) (p0 : Int32) (p1 : Int32) (p2 : Int32) (sz : Nat) (hT : tB L ka ix ad cs n0 n6 n2 S f) (hY : yX L ka ix ad gq a2 a3 a4 a5 a6 a7 a8 a9) : Met l yX8_snow wsX8_snow ({ frames := 2, cells := 0, slots := 0, locals := 43 }) (va_Pc [.ref h0, .int p0, .int p1, .int p2] (cP dC dI ([(h0, .inr (8, [.ref a1, .ref a2, .ref a3, .ref a4, .ref a5, .ref a6, .ref a7, .ref a8, .ref a9, .int j_faultKind, .int j_horseCount, .int j_tabletCount, .int j_riderCount, .int j_lineLength, .int j_hour]))] ++ va_pl L f) (tyC cs) sz)) (va_Qi (fun (r rv : Int32) => r = rv) (fun (rv : Int32) t9 => ∃ (S2 : Nat → Nat → Nat → Int32) (f2 : Nat → va_E), (tB L ka ix ad cs n0 n6 n2 S2 f2) ∧ (SN S S2 p0 p1 p2 rv) ∧ cQ dC dI ([(h0, .inr (8, [.ref a1, .ref a2, .ref a3, .ref a4, .ref a5, .ref a6, .ref a7, .ref a8, .ref a9, .int j_faultKind, .int j_horseCount, .int j_tabletCount, .int j_riderCount, .int j_lineLength, .int j_hour]))] ++ va_pl L f2) [] (va_A ([(h0, .inr (8, [.ref a1, .ref a2, .ref a3, .ref a4, .ref a5, .ref a6, .ref a7, .ref a8, .ref a9, .int j_faultKind, .int j_horseCount, .int j_tabletCount, .int j_riderCount, .int j_lineLength, .int j_hour]))] ++ va_pl L f) sz) t9) (va_A ([(h0, .inr (8, [.ref a1, .ref a2, .ref a3, .ref a4, .ref a5, .ref a6, .ref a7, .ref a8, .ref a9, .int j_faultKind, .int j_horseCount, .int j_tabletCount, .int j_riderCount, .int j_lineLength, .int j_hour]))] ++ va_pl L f) sz)) 0 0 (va_A ([(h0, .inr (8, [.ref a1, .ref a2, .ref a3, .ref a4, .ref a5, .ref a6, .ref a7, .ref a8, .ref a9, .int j_faultKind, .int j_horseCount, .int j_tabletCount, .int j_riderCount, .int j_lineLength, .int j_hour]))] ++ va_pl L f) sz) := by
  refine Met.ofW (cc := cX8_snow) (maxL := 4) (ret := (some .boolean)) (by decide) rfl ?_
  intro p e s m args below meth c s₁ B hml hv
  obtain ⟨rfl, hsz, hP, hK, hD0, hN⟩ := hv
  have hx := B.exec
  have hb := B.bytes
  have hr := B.returns
  have hts := atoms_spec (ws := wsX8_snow) B.pre
  have hown : s.vm.findClass RX8 = some m.cls := findClass_of_methodNamed B.named
  have hlocks := B.notSynchronized
  subst hsz
  have hin8 : ∀ w ∈ u_ws RX8 TX8 15, w ∈ wsX8_snow := by decide +kernel
  have hD := hD0.self (sz := s.heap.size)
  generalize hAe : va_A ([(h0, .inr (8, [.ref a1, .ref a2, .ref a3, .ref a4, .ref a5, .ref a6, .ref a7, .ref a8, .ref a9, .int j_faultKind, .int j_horseCount, .int j_tabletCount, .int j_riderCount, .int j_lineLength, .int j_hour]))] ++ va_pl L f) s.heap.size = A at hD ⊢
  have hA : ∀ q : Nat, s.heap.size ≤ q → A q := fun q h => by rw [← hAe]; exact Or.inr h
  have hS : va_S A s.heap s.heap [] := va_S.rf
  have hP : va_P (dC, dI) vwCl ([(h0, .inr (8, [.ref a1, .ref a2, .ref a3, .ref a4, .ref a5, .ref a6, .ref a7, .ref a8, .ref a9, .int j_faultKind, .int j_horseCount, .int j_tabletCount, .int j_riderCount, .int j_lineLength, .int j_hour]))] ++ va_pl L f) s.heap := hP
  have hl := lv_entry ([.ref h0, .int p0, .int p1, .int p2]) (n := 4) (Nat.le_of_ble_eq_true rfl)
  rw [lg_entry_eq]
  generalize (lg_sl ([.ref h0, .int p0, .int p1, .int p2]) ++ List.replicate (4 - (lg_sl ([.ref h0, .int p0, .int p1, .int p2])).length) Slot.unset).toArray = ls at hl ⊢
  have hl : lv_has ls 4 [(0, .ref h0), (1, .int p0), (2, .int p1), (3, .int p2)] := hl
  refine lv_aload_n hx hb dX8_snow_0 rfl (lv_at hl 0 rfl) ?_
  refine va_get (D := (dC, dI)) (ci := 8) (v := .ref a2) (C := RX8) (T := TX8) (N := 15) hx hb hts hin8 hown hK hP 0 rfl rfl 1 (by decide) (hts (.fieldLink RX8 19 "YamRiders" "roads" "LYamRiders$Roads;") (by decide +kernel)) (fun _ h9 => h9) rfl dX8_snow_1 ?_
  refine lv_iload_n hx hb dX8_snow_4 rfl (lv_at hl 1 rfl) ?_
  refine lv_iload_n hx hb dX8_snow_5 rfl (lv_at hl 2 rfl) ?_
  have hPc := hP.part (cx := []) [] rfl
  have hDc := hD.part (cx := []) [] (by decide) rfl
  have hKc := hK
  have hf_1 : f a2 = .inr (3, [.ref (ad 24 0), .ref (ad 25 0), .ref (ad 31 0), .ref (ad 32 0), .ref (ad 33 0)]) := hT.get hY.1
  obtain ⟨q_2, hq_2⟩ := pl_at (X := []) (f := f) (e := .inr (3, [.ref (ad 24 0), .ref (ad 25 0), .ref (ad 31 0), .ref (ad 32 0), .ref (ad 33 0)])) hY.1.1 hf_1
  refine cs_i (va_runV (As := [.int p0, .int p1]) (rest := []) ⟨hx, hb, hml, hown, hts⟩ (e_X3_time l dC dI cs L ka ix ad n0 n6 n2 S f a2 p0 p1 s.heap.size hT hY.1) (cwV 2 hts gX8_snow_X3_timeBetween rfl rfl rfl (by decide +kernel) ⟨Nat.le_of_ble_eq_true rfl, Nat.le_of_ble_eq_true rfl⟩) ⟨c_blind, va_recv hKc hPc (ci := 3) (q0 := q_2) rfl hq_2, c_pre hPc hKc hDc hN⟩ rfl rfl hl.1 rfl (lv_room (Nat.le_of_ble_eq_true rfl)) dX8_snow_6 ⟨Nat.le_of_ble_eq_true rfl, Nat.le_of_ble_eq_true rfl⟩) (fun r_3 hr_3 => ?_)
  subst hr_3
  refine lv_iconst (v := (-1)) hx hb dX8_snow_9 (by decide) ?_
  refine lv_icmp_eq (tgt := 23) hx hb dX8_snow_10 (by decide) (fun c_4 => ?_) (fun c_4 => ?_)
  · refine lv_iconst (v := 0) hx hb dX8_snow_23 (by decide) ?_
    have hP9 := hP.part (cx := [(h0, .inr (8, [.ref a1, .ref a2, .ref a3, .ref a4, .ref a5, .ref a6, .ref a7, .ref a8, .ref a9, .int j_faultKind, .int j_horseCount, .int j_tabletCount, .int j_riderCount, .int j_lineLength, .int j_hour]))]) [0] rfl
    have hD9 := hD.part (cx := [(h0, .inr (8, [.ref a1, .ref a2, .ref a3, .ref a4, .ref a5, .ref a6, .ref a7, .ref a8, .ref a9, .int j_faultKind, .int j_horseCount, .int j_tabletCount, .int j_riderCount, .int j_lineLength, .int j_hour]))]) [0] (by decide) rfl
    have hK9 := hK.sub (tys' := []) [] rfl
    refine W.widen (k := 0) (n := 0) (Nat.le_of_ble_eq_true rfl) (Nat.le_of_ble_eq_true rfl) ?_
    exact W.zret (v := 0) hx hb hr rfl (fun t9 ht hW => ⟨⟨_, 0, rfl, rfl, S, f, hT, (Or.inl ⟨rfl, rfl, (Or.inl c_4)⟩), by rw [ht]; exact hP9, va_K.moved hW.alike hK9, hD9⟩, hS.F ht⟩) hS.2.2 dX8_snow_24
  · refine lv_iload_n hx hb dX8_snow_13 rfl (lv_at hl 3 rfl) ?_
    refine lv_if_lt (tgt := 23) hx hb dX8_snow_14 (by decide) (fun c_5 => ?_) (fun c_5 => ?_)
    · refine lv_iconst (v := 0) hx hb dX8_snow_23 (by decide) ?_
      have hP9 := hP.part (cx := [(h0, .inr (8, [.ref a1, .ref a2, .ref a3, .ref a4, .ref a5, .ref a6, .ref a7, .ref a8, .ref a9, .int j_faultKind, .int j_horseCount, .int j_tabletCount, .int j_riderCount, .int j_lineLength, .int j_hour]))]) [0] rfl
      have hD9 := hD.part (cx := [(h0, .inr (8, [.ref a1, .ref a2, .ref a3, .ref a4, .ref a5, .ref a6, .ref a7, .ref a8, .ref a9, .int j_faultKind, .int j_horseCount, .int j_tabletCount, .int j_riderCount, .int j_lineLength, .int j_hour]))]) [0] (by decide) rfl
      have hK9 := hK.sub (tys' := []) [] rfl
      refine W.widen (k := 0) (n := 0) (Nat.le_of_ble_eq_true rfl) (Nat.le_of_ble_eq_true rfl) ?_
      exact W.zret (v := 0) hx hb hr rfl (fun t9 ht hW => ⟨⟨_, 0, rfl, rfl, S, f, hT, (Or.inl ⟨rfl, rfl, (Or.inr (Or.inl c_5))⟩), by rw [ht]; exact hP9, va_K.moved hW.alike hK9, hD9⟩, hS.F ht⟩) hS.2.2 dX8_snow_24
    · refine lv_iload_n hx hb dX8_snow_17 rfl (lv_at hl 3 rfl) ?_
      refine lv_bipush (v := 24) hx hb dX8_snow_18 (by decide) ?_
      refine lv_icmp_le (tgt := 25) hx hb dX8_snow_20 (by decide) (fun c_6 => ?_) (fun c_6 => ?_)
      · obtain ⟨uu9, vv9, huu9, hvv9, rfl, rfl, hh9⟩ := tmG_o c_4
        refine lv_aload_n hx hb dX8_snow_25 rfl (lv_at hl 0 rfl) ?_
        refine va_get (D := (dC, dI)) (ci := 8) (v := .ref a2) (C := RX8) (T := TX8) (N := 15) hx hb hts hin8 hown hK hP 0 rfl rfl 1 (by decide) (hts (.fieldLink RX8 19 "YamRiders" "roads" "LYamRiders$Roads;") (by decide +kernel)) (fun _ h9 => h9) rfl dX8_snow_26 ?_
        refine lv_iload_n hx hb dX8_snow_29 rfl (lv_at hl 1 rfl) ?_
        refine lv_iload_n hx hb dX8_snow_30 rfl (lv_at hl 2 rfl) ?_
        refine lv_iload_n hx hb dX8_snow_31 rfl (lv_at hl 3 rfl) ?_
        have hPc := hP.part (cx := []) [] rfl
        have hDc := hD.part (cx := []) [] (by decide) rfl
        have hKc := hK
        have hFc := va_freeP (cx := []) hD hS hA [] rfl
        have hf_7 : f a2 = .inr (3, [.ref (ad 24 0), .ref (ad 25 0), .ref (ad 31 0), .ref (ad 32 0), .ref (ad 33 0)]) := hT.get hY.1
        obtain ⟨q_8, hq_8⟩ := pl_at (X := []) (f := f) (e := .inr (3, [.ref (ad 24 0), .ref (ad 25 0), .ref (ad 31 0), .ref (ad 32 0), .ref (ad 33 0)])) hY.1.1 hf_7
        refine va_callv (va_runV (As := [.int (nI uu9), .int (nI vv9), .int p2]) (rest := []) ⟨hx, hb, hml, hown, hts⟩ (e_X3_setSnow l dC dI cs L ka ix ad n0 n6 n2 S f a2 uu9 vv9 p2 s.heap.size hT hY.1 (by omega) (by omega)) (cwV 3 hts gX8_snow_X3_setSnow rfl rfl rfl (by decide +kernel) ⟨Nat.le_of_ble_eq_true rfl, Nat.le_of_ble_eq_true rfl⟩) ⟨c_blind, va_recv hKc hPc (ci := 3) (q0 := q_8) rfl hq_8, c_pre hPc hKc hDc hN⟩ rfl rfl hl.1 rfl (lv_room (Nat.le_of_ble_eq_true rfl)) dX8_snow_32 ⟨Nat.le_of_ble_eq_true rfl, Nat.le_of_ble_eq_true rfl⟩) hS (fun q _ h => hFc q h) hFc (fun u9 t9 H1 locs ht hvm hw hB hz1 hk1 hS => ?_)
        obtain ⟨S_10, f_11, hf_x_12, hf_x_13, hP1, hK1, hD1⟩ := hB
        rw [ht] at hP1
        have hK1 := va_K.moved hvm.symm hK1
        obtain ⟨hP, hD⟩ := va_joinP (X := [(h0, .inr (8, [.ref a1, .ref a2, .ref a3, .ref a4, .ref a5, .ref a6, .ref a7, .ref a8, .ref a9, .int j_faultKind, .int j_horseCount, .int j_tabletCount, .int j_riderCount, .int j_lineLength, .int j_hour]))]) (cx := []) (wr := [(h0, .inr (8, [.ref a1, .ref a2, .ref a3, .ref a4, .ref a5, .ref a6, .ref a7, .ref a8, .ref a9, .int j_faultKind, .int j_horseCount, .int j_tabletCount, .int j_riderCount, .int j_lineLength, .int j_hour]))]) (rx := []) (pl := va_pl L f) (pl1 := va_pl L f_11) hP hD [] [0] rfl rfl (by decide) (by decide) hk1 hFc hP1 hD1
        have hT := hf_x_12
        generalize H1 = H at hP hS ⊢
        have hP : va_P (dC, dI) vwCl ([(h0, .inr (8, [.ref a1, .ref a2, .ref a3, .ref a4, .ref a5, .ref a6, .ref a7, .ref a8, .ref a9, .int j_faultKind, .int j_horseCount, .int j_tabletCount, .int j_riderCount, .int j_lineLength, .int j_hour]))] ++ va_pl L f_11) H := hP
        have hD : va_D A ([(h0, .inr (8, [.ref a1, .ref a2, .ref a3, .ref a4, .ref a5, .ref a6, .ref a7, .ref a8, .ref a9, .int j_faultKind, .int j_horseCount, .int j_tabletCount, .int j_riderCount, .int j_lineLength, .int j_hour]))] ++ va_pl L f_11) := hD
        refine W.widen (k := 0) (n := 0) (Nat.le_of_ble_eq_true rfl) (Nat.le_of_ble_eq_true rfl) ?_
        refine lv_iconst (v := 1) hx hb dX8_snow_35 (by decide) ?_
        have hP9 := hP.part (cx := [(h0, .inr (8, [.ref a1, .ref a2, .ref a3, .ref a4, .ref a5, .ref a6, .ref a7, .ref a8, .ref a9, .int j_faultKind, .int j_horseCount, .int j_tabletCount, .int j_riderCount, .int j_lineLength, .int j_hour]))]) [0] rfl
        have hD9 := hD.part (cx := [(h0, .inr (8, [.ref a1, .ref a2, .ref a3, .ref a4, .ref a5, .ref a6, .ref a7, .ref a8, .ref a9, .int j_faultKind, .int j_horseCount, .int j_tabletCount, .int j_riderCount, .int j_lineLength, .int j_hour]))]) [0] (by decide) rfl
        have hK9 := hK.sub (tys' := []) [] rfl
        refine W.widen (k := 0) (n := 0) (Nat.le_of_ble_eq_true rfl) (Nat.le_of_ble_eq_true rfl) ?_
        exact W.zret (v := 1) hx hb hr rfl (fun t9 ht hW => ⟨⟨_, 1, rfl, rfl, S_10, f_11, hT, (Or.inr ⟨rfl, uu9, vv9, huu9, hvv9, rfl, rfl, hh9, c_5, c_6, hf_x_13⟩), by rw [ht]; exact hP9, va_K.moved hW.alike hK9, hD9⟩, hS.F ht⟩) hS.2.2 dX8_snow_36
      · refine lv_iconst (v := 0) hx hb dX8_snow_23 (by decide) ?_
        have hP9 := hP.part (cx := [(h0, .inr (8, [.ref a1, .ref a2, .ref a3, .ref a4, .ref a5, .ref a6, .ref a7, .ref a8, .ref a9, .int j_faultKind, .int j_horseCount, .int j_tabletCount, .int j_riderCount, .int j_lineLength, .int j_hour]))]) [0] rfl
        have hD9 := hD.part (cx := [(h0, .inr (8, [.ref a1, .ref a2, .ref a3, .ref a4, .ref a5, .ref a6, .ref a7, .ref a8, .ref a9, .int j_faultKind, .int j_horseCount, .int j_tabletCount, .int j_riderCount, .int j_lineLength, .int j_hour]))]) [0] (by decide) rfl
        have hK9 := hK.sub (tys' := []) [] rfl
        refine W.widen (k := 0) (n := 0) (Nat.le_of_ble_eq_true rfl) (Nat.le_of_ble_eq_true rfl) ?_
        exact W.zret (v := 0) hx hb hr rfl (fun t9 ht hW => ⟨⟨_, 0, rfl, rfl, S, f, hT, (Or.inl ⟨rfl, rfl, (Or.inr (Or.inr c_6))⟩), by rw [ht]; exact hP9, va_K.moved hW.alike hK9, hD9⟩, hS.F ht⟩) hS.2.2 dX8_snow_24

set_option maxHeartbeats 4000000 in
set_option maxRecDepth 100000 in
theorem e_X8_hours (l : Launch) (dC : Nat → ClassId) (dI : Nat → Nat → Nat) (cs : Nat → ClassId) (L : List Nat) (ka : Nat → Nat) (ix : Nat → Nat) (ad : Nat → Nat → Nat) (n0 : Nat) (n6 : Nat) (n2 : Nat) (S : Nat → Nat → Nat → Int32) (f : Nat → va_E) (gq : Nat) (h0 : Nat) (a1 : Nat) (a2 : Nat) (a3 : Nat) (a4 : Nat) (a5 : Nat) (a6 : Nat) (a7 : Nat) (a8 : Nat) (a9 : Nat) (j_faultKind : Int32) (j_horseCount : Int32) (j_tabletCount : Int32) (j_riderCount : Int32) (j_lineLength : Int32) (j_hour : Int32) (p0 : Int32) (p1 : Int32) (sz : Nat) (hT : tB L ka ix ad cs n0 n6 n2 S f) (hY : yX L ka ix ad gq a2 a3 a4 a5 a6 a7 a8 a9) (hSy : Sy S) (hRg : RgS S) : Met l yX8_hours wsX8_hours ({ frames := 5, cells := 0, slots := 0, locals := 110 }) (va_Pc [.ref h0, .int p0, .int p1] (cP dC dI ([(h0, .inr (8, [.ref a1, .ref a2, .ref a3, .ref a4, .ref a5, .ref a6, .ref a7, .ref a8, .ref a9, .int j_faultKind, .int j_horseCount, .int j_tabletCount, .int j_riderCount, .int j_lineLength, .int j_hour]))] ++ va_pl L f) (tyC cs) sz)) (va_Qi (fun (r rv : Int32) => r = rv) (fun (rv : Int32) t9 => ∃ (S2 : Nat → Nat → Nat → Int32) (f2 : Nat → va_E), (tB L ka ix ad cs n0 n6 n2 S2 f2) ∧ (AG S S2) ∧ (LT S p0 p1 rv) ∧ cQ dC dI ([(h0, .inr (8, [.ref a1, .ref a2, .ref a3, .ref a4, .ref a5, .ref a6, .ref a7, .ref a8, .ref a9, .int j_faultKind, .int j_horseCount, .int j_tabletCount, .int j_riderCount, .int j_lineLength, .int j_hour]))] ++ va_pl L f2) [] (va_A ([(h0, .inr (8, [.ref a1, .ref a2, .ref a3, .ref a4, .ref a5, .ref a6, .ref a7, .ref a8, .ref a9, .int j_faultKind, .int j_horseCount, .int j_tabletCount, .int j_riderCount, .int j_lineLength, .int j_hour]))] ++ va_pl L f) sz) t9) (va_A ([(h0, .inr (8, [.ref a1, .ref a2, .ref a3, .ref a4, .ref a5, .ref a6, .ref a7, .ref a8, .ref a9, .int j_faultKind, .int j_horseCount, .int j_tabletCount, .int j_riderCount, .int j_lineLength, .int j_hour]))] ++ va_pl L f) sz)) 0 0 (va_A ([(h0, .inr (8, [.ref a1, .ref a2, .ref a3, .ref a4, .ref a5, .ref a6, .ref a7, .ref a8, .ref a9, .int j_faultKind, .int j_horseCount, .int j_tabletCount, .int j_riderCount, .int j_lineLength, .int j_hour]))] ++ va_pl L f) sz) := by
  refine Met.ofW (cc := cX8_hours) (maxL := 3) (ret := (some .int)) (by decide) rfl ?_
  intro p e s m args below meth c s₁ B hml hv
  obtain ⟨rfl, hsz, hP, hK, hD0, hN⟩ := hv
  have hx := B.exec
  have hb := B.bytes
  have hr := B.returns
  have hts := atoms_spec (ws := wsX8_hours) B.pre
  have hown : s.vm.findClass RX8 = some m.cls := findClass_of_methodNamed B.named
  have hlocks := B.notSynchronized
  subst hsz
  have hin8 : ∀ w ∈ u_ws RX8 TX8 15, w ∈ wsX8_hours := by decide +kernel
  have hD := hD0.self (sz := s.heap.size)
  generalize hAe : va_A ([(h0, .inr (8, [.ref a1, .ref a2, .ref a3, .ref a4, .ref a5, .ref a6, .ref a7, .ref a8, .ref a9, .int j_faultKind, .int j_horseCount, .int j_tabletCount, .int j_riderCount, .int j_lineLength, .int j_hour]))] ++ va_pl L f) s.heap.size = A at hD ⊢
  have hA : ∀ q : Nat, s.heap.size ≤ q → A q := fun q h => by rw [← hAe]; exact Or.inr h
  have hS : va_S A s.heap s.heap [] := va_S.rf
  have hP : va_P (dC, dI) vwCl ([(h0, .inr (8, [.ref a1, .ref a2, .ref a3, .ref a4, .ref a5, .ref a6, .ref a7, .ref a8, .ref a9, .int j_faultKind, .int j_horseCount, .int j_tabletCount, .int j_riderCount, .int j_lineLength, .int j_hour]))] ++ va_pl L f) s.heap := hP
  have hl := lv_entry ([.ref h0, .int p0, .int p1]) (n := 3) (Nat.le_of_ble_eq_true rfl)
  rw [lg_entry_eq]
  generalize (lg_sl ([.ref h0, .int p0, .int p1]) ++ List.replicate (3 - (lg_sl ([.ref h0, .int p0, .int p1])).length) Slot.unset).toArray = ls at hl ⊢
  have hl : lv_has ls 3 [(0, .ref h0), (1, .int p0), (2, .int p1)] := hl
  refine lv_aload_n hx hb dX8_hours_0 rfl (lv_at hl 0 rfl) ?_
  refine va_get (D := (dC, dI)) (ci := 8) (v := .ref a2) (C := RX8) (T := TX8) (N := 15) hx hb hts hin8 hown hK hP 0 rfl rfl 1 (by decide) (hts (.fieldLink RX8 19 "YamRiders" "roads" "LYamRiders$Roads;") (by decide +kernel)) (fun _ h9 => h9) rfl dX8_hours_1 ?_
  refine lv_iload_n hx hb dX8_hours_4 rfl (lv_at hl 1 rfl) ?_
  refine lv_iload_n hx hb dX8_hours_5 rfl (lv_at hl 2 rfl) ?_
  have hPc := hP.part (cx := []) [] rfl
  have hDc := hD.part (cx := []) [] (by decide) rfl
  have hKc := hK
  have hFc := va_freeP (cx := []) hD hS hA [] rfl
  have hf_1 : f a2 = .inr (3, [.ref (ad 24 0), .ref (ad 25 0), .ref (ad 31 0), .ref (ad 32 0), .ref (ad 33 0)]) := hT.get hY.1
  obtain ⟨q_2, hq_2⟩ := pl_at (X := []) (f := f) (e := .inr (3, [.ref (ad 24 0), .ref (ad 25 0), .ref (ad 31 0), .ref (ad 32 0), .ref (ad 33 0)])) hY.1.1 hf_1
  refine va_calli (va_runV (As := [.int p0, .int p1]) (rest := []) ⟨hx, hb, hml, hown, hts⟩ (e_X3_leastTime l dC dI cs L ka ix ad n0 n6 n2 S f a2 p0 p1 s.heap.size hT hY.1 hSy hRg) (cwV 2 hts gX8_hours_X3_leastTime rfl rfl rfl (by decide +kernel) ⟨Nat.le_of_ble_eq_true rfl, Nat.le_of_ble_eq_true rfl⟩) ⟨c_blind, va_recv hKc hPc (ci := 3) (q0 := q_2) rfl hq_2, c_pre hPc hKc hDc hN⟩ rfl rfl hl.1 rfl (lv_room (Nat.le_of_ble_eq_true rfl)) dX8_hours_6 ⟨Nat.le_of_ble_eq_true rfl, Nat.le_of_ble_eq_true rfl⟩) hS (fun q _ h => hFc q h) hFc (fun r_3 u9 t9 H1 locs ht hvm hw hB hz1 hk1 hS => ?_)
  obtain ⟨S_4, f_5, hf_x_6, hf_x_7, hf_x_8, hP1, hK1, hD1⟩ := hB
  rw [ht] at hP1
  have hK1 := va_K.moved hvm.symm hK1
  obtain ⟨hP, hD⟩ := va_joinP (X := [(h0, .inr (8, [.ref a1, .ref a2, .ref a3, .ref a4, .ref a5, .ref a6, .ref a7, .ref a8, .ref a9, .int j_faultKind, .int j_horseCount, .int j_tabletCount, .int j_riderCount, .int j_lineLength, .int j_hour]))]) (cx := []) (wr := [(h0, .inr (8, [.ref a1, .ref a2, .ref a3, .ref a4, .ref a5, .ref a6, .ref a7, .ref a8, .ref a9, .int j_faultKind, .int j_horseCount, .int j_tabletCount, .int j_riderCount, .int j_lineLength, .int j_hour]))]) (rx := []) (pl := va_pl L f) (pl1 := va_pl L f_5) hP hD [] [0] rfl rfl (by decide) (by decide) hk1 hFc hP1 hD1
  have hT := hf_x_6
  generalize H1 = H at hP hS ⊢
  have hP : va_P (dC, dI) vwCl ([(h0, .inr (8, [.ref a1, .ref a2, .ref a3, .ref a4, .ref a5, .ref a6, .ref a7, .ref a8, .ref a9, .int j_faultKind, .int j_horseCount, .int j_tabletCount, .int j_riderCount, .int j_lineLength, .int j_hour]))] ++ va_pl L f_5) H := hP
  have hD : va_D A ([(h0, .inr (8, [.ref a1, .ref a2, .ref a3, .ref a4, .ref a5, .ref a6, .ref a7, .ref a8, .ref a9, .int j_faultKind, .int j_horseCount, .int j_tabletCount, .int j_riderCount, .int j_lineLength, .int j_hour]))] ++ va_pl L f_5) := hD
  have hFr_9 := AG.tr AG.rf hf_x_7
  refine W.widen (k := 0) (n := 0) (Nat.le_of_ble_eq_true rfl) (Nat.le_of_ble_eq_true rfl) ?_
  try dsimp only at hw
  subst hw
  have hP9 := hP.part (cx := [(h0, .inr (8, [.ref a1, .ref a2, .ref a3, .ref a4, .ref a5, .ref a6, .ref a7, .ref a8, .ref a9, .int j_faultKind, .int j_horseCount, .int j_tabletCount, .int j_riderCount, .int j_lineLength, .int j_hour]))]) [0] rfl
  have hD9 := hD.part (cx := [(h0, .inr (8, [.ref a1, .ref a2, .ref a3, .ref a4, .ref a5, .ref a6, .ref a7, .ref a8, .ref a9, .int j_faultKind, .int j_horseCount, .int j_tabletCount, .int j_riderCount, .int j_lineLength, .int j_hour]))]) [0] (by decide) rfl
  have hK9 := hK.sub (tys' := []) [] rfl
  refine W.widen (k := 0) (n := 0) (Nat.le_of_ble_eq_true rfl) (Nat.le_of_ble_eq_true rfl) ?_
  exact W.iret (v := r_3) hx hb hr (fun t9 ht hW => ⟨⟨_, r_3, rfl, rfl, S_4, f_5, hT, hFr_9, (LG.lt hf_x_8), by rw [ht]; exact hP9, va_K.moved hW.alike hK9, hD9⟩, hS.F ht⟩) hS.2.2 dX8_hours_9

set_option maxHeartbeats 4000000 in
set_option maxRecDepth 100000 in
theorem g_X7_byteAt (l : Launch) (dC : Nat → ClassId) (dI : Nat → Nat → Nat) (h0 : Nat) (b1 : Nat) (k1 : ClassId) (a_b : Nat → Int32) (p0 : Int32) (i_len : Int32) (sz : Nat) : Met l yX7_byteAt wsX7_byteAt ({ frames := 0, cells := 0, slots := 0, locals := 0 }) (va_Pc [.ref h0, .int p0] (cP dC dI [(h0, .inr (7, [.ref b1, .int i_len])), (b1, .inl (k1, 200, .inl a_b))] [(k1, .int)] sz)) (vp_Si (fun _ => True)) 0 0 (fun _ => False) := by
  refine Met.ofW (cc := cX7_byteAt) (maxL := 2) (ret := (some .int)) (by decide) rfl ?_
  intro p e s m args below meth c s₁ B hml hv
  obtain ⟨rfl, hsz, hP, hK, hD0, hN⟩ := hv
  have hx := B.exec
  have hb := B.bytes
  have hr := B.returns
  have hts := atoms_spec (ws := wsX7_byteAt) B.pre
  have hown : s.vm.findClass RX7 = some m.cls := findClass_of_methodNamed B.named
  have hlocks := B.notSynchronized
  subst hsz
  have hin7 : ∀ w ∈ u_ws RX7 TX7 2, w ∈ wsX7_byteAt := by decide +kernel
  have hD := hD0
  have hP : va_P (dC, dI) vwCl [(h0, .inr (7, [.ref b1, .int i_len])), (b1, .inl (k1, 200, .inl a_b))] s.heap := hP
  have hl := lv_entry ([.ref h0, .int p0]) (n := 2) (Nat.le_of_ble_eq_true rfl)
  rw [lg_entry_eq]
  generalize (lg_sl ([.ref h0, .int p0]) ++ List.replicate (2 - (lg_sl ([.ref h0, .int p0])).length) Slot.unset).toArray = ls at hl ⊢
  have hl : lv_has ls 2 [(0, .ref h0), (1, .int p0)] := hl
  refine lv_iload_n hx hb dX7_byteAt_0 rfl (lv_at hl 1 rfl) ?_
  refine lv_if_lt (tgt := 28) hx hb dX7_byteAt_1 (by decide) (fun c_1 => ?_) (fun c_1 => ?_)
  · refine lv_iconst (v := (-1)) hx hb dX7_byteAt_28 (by decide) ?_
    exact W.iret (v := (-1)) hx hb hr (fun t9 ht hW => ⟨_, rfl, trivial, ht⟩) (fun q h => nomatch h) dX7_byteAt_29
  · refine lv_iload_n hx hb dX7_byteAt_4 rfl (lv_at hl 1 rfl) ?_
    refine lv_aload_n hx hb dX7_byteAt_5 rfl (lv_at hl 0 rfl) ?_
    refine va_get (D := (dC, dI)) (ci := 7) (v := .int i_len) (C := RX7) (T := TX7) (N := 2) hx hb hts hin7 hown hK hP 0 rfl rfl 1 (by decide) (hts (.fieldLink RX7 15 "YamRiders$Tape" "length" "I") (by decide +kernel)) (fun _ h9 => h9) rfl dX7_byteAt_6 ?_
    refine lv_icmp_ge (tgt := 28) hx hb dX7_byteAt_9 (by decide) (fun c_2 => ?_) (fun c_2 => ?_)
    · refine lv_iconst (v := (-1)) hx hb dX7_byteAt_28 (by decide) ?_
      exact W.iret (v := (-1)) hx hb hr (fun t9 ht hW => ⟨_, rfl, trivial, ht⟩) (fun q h => nomatch h) dX7_byteAt_29
    · refine lv_iload_n hx hb dX7_byteAt_12 rfl (lv_at hl 1 rfl) ?_
      refine lv_sipush (v := 200) hx hb dX7_byteAt_13 (by decide) ?_
      refine lv_icmp_ge (tgt := 28) hx hb dX7_byteAt_16 (by decide) (fun c_3 => ?_) (fun c_3 => ?_)
      · refine lv_iconst (v := (-1)) hx hb dX7_byteAt_28 (by decide) ?_
        exact W.iret (v := (-1)) hx hb hr (fun t9 ht hW => ⟨_, rfl, trivial, ht⟩) (fun q h => nomatch h) dX7_byteAt_29
      · refine lv_aload_n hx hb dX7_byteAt_19 rfl (lv_at hl 0 rfl) ?_
        refine va_get (D := (dC, dI)) (ci := 7) (v := .ref b1) (C := RX7) (T := TX7) (N := 2) hx hb hts hin7 hown hK hP 0 rfl rfl 0 (by decide) (hts (.fieldLink RX7 9 "YamRiders$Tape" "bytes" "[I") (by decide +kernel)) (fun _ h9 => h9) rfl dX7_byteAt_20 ?_
        refine lv_iload_n hx hb dX7_byteAt_23 rfl (lv_at hl 1 rfl) ?_
        refine va_iald hx hb hK hP 1 0 rfl rfl (b_in3 c_1 c_3) dX7_byteAt_24 ?_
        refine lv_goto (tgt := 29) hx hb dX7_byteAt_25 (by decide) ?_
        exact W.iret (v := a_b p0.toNatClampNeg) hx hb hr (fun t9 ht hW => ⟨_, rfl, trivial, ht⟩) (fun q h => nomatch h) dX7_byteAt_29

set_option maxHeartbeats 4000000 in
set_option maxRecDepth 100000 in
theorem e_X8_leading (l : Launch) (dC : Nat → ClassId) (dI : Nat → Nat → Nat) (cs : Nat → ClassId) (L : List Nat) (ka : Nat → Nat) (ix : Nat → Nat) (ad : Nat → Nat → Nat) (n0 : Nat) (n6 : Nat) (n2 : Nat) (S : Nat → Nat → Nat → Int32) (f : Nat → va_E) (gq : Nat) (h0 : Nat) (a1 : Nat) (a2 : Nat) (a3 : Nat) (a4 : Nat) (a5 : Nat) (a6 : Nat) (a7 : Nat) (a8 : Nat) (a9 : Nat) (j_faultKind : Int32) (j_horseCount : Int32) (j_tabletCount : Int32) (j_riderCount : Int32) (j_lineLength : Int32) (j_hour : Int32) (b1 : Nat) (i_len : Int32) (a_b : Nat → Int32) (sz : Nat) (hT : tB L ka ix ad cs n0 n6 n2 S f) (hY : yX L ka ix ad gq a2 a3 a4 a5 a6 a7 a8 a9) : Met l yX8_leading wsX8_leading ({ frames := 5, cells := 0, slots := 0, locals := 117 }) (va_Pc [.ref h0] (cP dC dI ([(h0, .inr (8, [.ref a1, .ref a2, .ref a3, .ref a4, .ref a5, .ref a6, .ref a7, .ref a8, .ref a9, .int j_faultKind, .int j_horseCount, .int j_tabletCount, .int j_riderCount, .int j_lineLength, .int j_hour])), (a1, .inr (7, [.ref b1, .int i_len])), (b1, .inl (cs 0, 200, .inl a_b))] ++ va_pl L f) (tyC cs) sz)) (va_Qi (fun (r : Int32) (_ : Unit) => True) (fun (_ : Unit) t9 => ∃ (S2 : Nat → Nat → Nat → Int32) (f2 : Nat → va_E), (tB L ka ix ad cs n0 n6 n2 S2 f2) ∧ (AG S S2) ∧ cQ dC dI ([(h0, .inr (8, [.ref a1, .ref a2, .ref a3, .ref a4, .ref a5, .ref a6, .ref a7, .ref a8, .ref a9, .int j_faultKind, .int j_horseCount, .int j_tabletCount, .int j_riderCount, .int j_lineLength, .int j_hour])), (a1, .inr (7, [.ref b1, .int 0])), (b1, .inl (cs 0, 200, .inl a_b))] ++ va_pl L f2) [] (va_A ([(h0, .inr (8, [.ref a1, .ref a2, .ref a3, .ref a4, .ref a5, .ref a6, .ref a7, .ref a8, .ref a9, .int j_faultKind, .int j_horseCount, .int j_tabletCount, .int j_riderCount, .int j_lineLength, .int j_hour])), (a1, .inr (7, [.ref b1, .int i_len])), (b1, .inl (cs 0, 200, .inl a_b))] ++ va_pl L f) sz) t9) (va_A ([(h0, .inr (8, [.ref a1, .ref a2, .ref a3, .ref a4, .ref a5, .ref a6, .ref a7, .ref a8, .ref a9, .int j_faultKind, .int j_horseCount, .int j_tabletCount, .int j_riderCount, .int j_lineLength, .int j_hour])), (a1, .inr (7, [.ref b1, .int i_len])), (b1, .inl (cs 0, 200, .inl a_b))] ++ va_pl L f) sz)) 0 0 (va_A ([(h0, .inr (8, [.ref a1, .ref a2, .ref a3, .ref a4, .ref a5, .ref a6, .ref a7, .ref a8, .ref a9, .int j_faultKind, .int j_horseCount, .int j_tabletCount, .int j_riderCount, .int j_lineLength, .int j_hour])), (a1, .inr (7, [.ref b1, .int i_len])), (b1, .inl (cs 0, 200, .inl a_b))] ++ va_pl L f) sz) := by
  refine Met.ofW (cc := cX8_leading) (maxL := 4) (ret := (some .int)) (by decide) rfl ?_
  intro p e s m args below meth c s₁ B hml hv
  obtain ⟨rfl, hsz, hP, hK, hD0, hN⟩ := hv
  have hx := B.exec
  have hb := B.bytes
  have hr := B.returns
  have hts := atoms_spec (ws := wsX8_leading) B.pre
  have hown : s.vm.findClass RX8 = some m.cls := findClass_of_methodNamed B.named
  have hlocks := B.notSynchronized
  subst hsz
  have hin7 : ∀ w ∈ u_ws RX7 TX7 2, w ∈ wsX8_leading := by decide +kernel
  have hin8 : ∀ w ∈ u_ws RX8 TX8 15, w ∈ wsX8_leading := by decide +kernel
  have hD := hD0.self (sz := s.heap.size)
  generalize hAe : va_A ([(h0, .inr (8, [.ref a1, .ref a2, .ref a3, .ref a4, .ref a5, .ref a6, .ref a7, .ref a8, .ref a9, .int j_faultKind, .int j_horseCount, .int j_tabletCount, .int j_riderCount, .int j_lineLength, .int j_hour])), (a1, .inr (7, [.ref b1, .int i_len])), (b1, .inl (cs 0, 200, .inl a_b))] ++ va_pl L f) s.heap.size = A at hD ⊢
  have hA : ∀ q : Nat, s.heap.size ≤ q → A q := fun q h => by rw [← hAe]; exact Or.inr h
  have hS : va_S A s.heap s.heap [] := va_S.rf
  have hP : va_P (dC, dI) vwCl ([(h0, .inr (8, [.ref a1, .ref a2, .ref a3, .ref a4, .ref a5, .ref a6, .ref a7, .ref a8, .ref a9, .int j_faultKind, .int j_horseCount, .int j_tabletCount, .int j_riderCount, .int j_lineLength, .int j_hour])), (a1, .inr (7, [.ref b1, .int i_len])), (b1, .inl (cs 0, 200, .inl a_b))] ++ va_pl L f) s.heap := hP
  have hl := lv_entry ([.ref h0]) (n := 4) (Nat.le_of_ble_eq_true rfl)
  rw [lg_entry_eq]
  generalize (lg_sl ([.ref h0]) ++ List.replicate (4 - (lg_sl ([.ref h0])).length) Slot.unset).toArray = ls at hl ⊢
  have hl : lv_has ls 4 [(0, .ref h0)] := hl
  refine lv_aload_n hx hb dX8_leading_0 rfl (lv_at hl 0 rfl) ?_
  refine va_get (D := (dC, dI)) (ci := 8) (v := .ref a1) (C := RX8) (T := TX8) (N := 15) hx hb hts hin8 hown hK hP 0 rfl rfl 0 (by decide) (hts (.fieldLink RX8 10 "YamRiders" "tape" "LYamRiders$Tape;") (by decide +kernel)) (fun _ h9 => h9) rfl dX8_leading_1 ?_
  refine va_getN (D := (dC, dI)) (ci := 7) (v := .int i_len) (C := RX7) (T := TX7) (N := 2) hx hb hts hin7 hown hK hP 1 rfl rfl 1 (by decide) (hN.nx (.fieldLinkNest RX8 70 "YamRiders$Tape" "length" "I" "YamRiders") (by decide +kernel)) (fun _ h9 => h9) rfl dX8_leading_4 ?_
  refine lv_bipush (v := 12) hx hb dX8_leading_7 (by decide) ?_
  refine lv_icmp_ne (tgt := 16) hx hb dX8_leading_9 (by decide) (fun c_1 => ?_) (fun c_1 => ?_)
  · refine lv_iconst (v := 0) hx hb dX8_leading_16 (by decide) ?_
    refine lv_istore_n (lv' := [(1, .int 0), (0, .ref h0)]) hx hb dX8_leading_17 rfl hl (by decide) rfl (fun ls hl => ?_)
    refine lv_iconst (v := 0) hx hb dX8_leading_18 (by decide) ?_
    refine lv_istore_n (lv' := [(2, .int 0), (1, .int 0), (0, .ref h0)]) hx hb dX8_leading_19 rfl hl (by decide) rfl (fun ls hl => ?_)
    have HL : ∀ (n k : Nat) (x1 : Int32) (S8 : Nat → Nat → Nat → Int32), k ≤ 12 → 12 + 1 ≤ k + n → (AG S S8) → ∀ (f_2 : Nat → va_E) (H : Heap) (locs : List Loc), tB L ka ix ad cs n0 n6 n2 S8 f_2 → va_P (dC, dI) vwCl ([(h0, .inr (8, [.ref a1, .ref a2, .ref a3, .ref a4, .ref a5, .ref a6, .ref a7, .ref a8, .ref a9, .int j_faultKind, .int j_horseCount, .int j_tabletCount, .int j_riderCount, .int j_lineLength, .int j_hour])), (a1, .inr (7, [.ref b1, .int i_len])), (b1, .inl (cs 0, 200, .inl a_b))] ++ va_pl L f_2) H → va_D A ([(h0, .inr (8, [.ref a1, .ref a2, .ref a3, .ref a4, .ref a5, .ref a6, .ref a7, .ref a8, .ref a9, .int j_faultKind, .int j_horseCount, .int j_tabletCount, .int j_riderCount, .int j_lineLength, .int j_hour])), (a1, .inr (7, [.ref b1, .int i_len])), (b1, .inl (cs 0, 200, .inl a_b))] ++ va_pl L f_2) → va_S A s.heap H locs → ∀ ls : Array Slot, lv_has ls 4 [(0, .ref h0), (1, .int x1), (2, .int (nI k))] → W p l e (headSpec wsX8_leading ({ frames := 5, cells := 0, slots := 0, locals := 117 })).room s m ([.ref h0]).toArray below meth c H locs 0 0 (MQ below (va_Qi (fun (r : Int32) (_ : Unit) => True) (fun (_ : Unit) t9 => ∃ (S2 : Nat → Nat → Nat → Int32) (f2 : Nat → va_E), (tB L ka ix ad cs n0 n6 n2 S2 f2) ∧ (AG S S2) ∧ cQ dC dI ([(h0, .inr (8, [.ref a1, .ref a2, .ref a3, .ref a4, .ref a5, .ref a6, .ref a7, .ref a8, .ref a9, .int j_faultKind, .int j_horseCount, .int j_tabletCount, .int j_riderCount, .int j_lineLength, .int j_hour])), (a1, .inr (7, [.ref b1, .int 0])), (b1, .inl (cs 0, 200, .inl a_b))] ++ va_pl L f2) [] A t9) A) ([.ref h0]).toArray s 0 0 A) (F0 m 20 ls []) := by
      intro n
      induction n with
      | zero => intro k x1 S8 h1 h2; exact absurd h2 (by omega)
      | succ n ih =>
        intro k x1 S8 hk hn hFrS8 f_2 H locs hT hP hD hS ls hl
        refine lv_iload_n hx hb dX8_leading_20 rfl (lv_at hl 2 rfl) ?_
        refine lv_bipush (v := 12) hx hb dX8_leading_21 (by decide) ?_
        refine lv_icmp_ge (tgt := 72) hx hb dX8_leading_23 (by decide) (fun c_3 => ?_) (fun c_3 => ?_)
        · have hke : k = 12 := by
            rcases Nat.lt_or_ge k 12 with q | q
            · exact absurd c_3 (nI_ge q (by decide))
            · omega
          refine lv_aload_n hx hb dX8_leading_72 rfl (lv_at hl 0 rfl) ?_
          refine va_get (D := (dC, dI)) (ci := 8) (v := .ref a1) (C := RX8) (T := TX8) (N := 15) hx hb hts hin8 hown hK hP 0 rfl rfl 0 (by decide) (hts (.fieldLink RX8 10 "YamRiders" "tape" "LYamRiders$Tape;") (by decide +kernel)) (fun _ h9 => h9) rfl dX8_leading_73 ?_
          refine lv_iconst (v := 0) hx hb dX8_leading_76 (by decide) ?_
          refine va_putN (D := (dC, dI)) (ci := 7) (v := .int 0) (ty := (tyX7 1)) (C := RX7) (T := TX7) (N := 2) hx hb hts hin7 tyX7 tyX7_ok nmX7 hown hK hP hD hS 1 rfl rfl 1 (by decide) (hN.nx (.fieldLinkNest RX8 70 "YamRiders$Tape" "length" "I" "YamRiders") (by decide +kernel)) (fun _ h9 => h9) rfl (by decide +kernel) rfl rfl (Nat.le_of_ble_eq_true rfl) dX8_leading_77 (fun H locs hP hD hS => ?_)
          have hP : va_P (dC, dI) vwCl ([(h0, .inr (8, [.ref a1, .ref a2, .ref a3, .ref a4, .ref a5, .ref a6, .ref a7, .ref a8, .ref a9, .int j_faultKind, .int j_horseCount, .int j_tabletCount, .int j_riderCount, .int j_lineLength, .int j_hour])), (a1, .inr (7, [.ref b1, .int 0])), (b1, .inl (cs 0, 200, .inl a_b))] ++ va_pl L f_2) H := hP
          have hD : va_D A ([(h0, .inr (8, [.ref a1, .ref a2, .ref a3, .ref a4, .ref a5, .ref a6, .ref a7, .ref a8, .ref a9, .int j_faultKind, .int j_horseCount, .int j_tabletCount, .int j_riderCount, .int j_lineLength, .int j_hour])), (a1, .inr (7, [.ref b1, .int 0])), (b1, .inl (cs 0, 200, .inl a_b))] ++ va_pl L f_2) := hD
          refine lv_iload_n hx hb dX8_leading_80 rfl (lv_at hl 1 rfl) ?_
          refine lv_if_eq (tgt := 98) hx hb dX8_leading_81 (by decide) (fun c_4 => ?_) (fun c_4 => ?_)
          · refine lv_iconst (v := (-1)) hx hb dX8_leading_98 (by decide) ?_
            have hP9 := hP.part (cx := [(h0, .inr (8, [.ref a1, .ref a2, .ref a3, .ref a4, .ref a5, .ref a6, .ref a7, .ref a8, .ref a9, .int j_faultKind, .int j_horseCount, .int j_tabletCount, .int j_riderCount, .int j_lineLength, .int j_hour])), (a1, .inr (7, [.ref b1, .int 0])), (b1, .inl (cs 0, 200, .inl a_b))]) [0, 1, 2] rfl
            have hD9 := hD.part (cx := [(h0, .inr (8, [.ref a1, .ref a2, .ref a3, .ref a4, .ref a5, .ref a6, .ref a7, .ref a8, .ref a9, .int j_faultKind, .int j_horseCount, .int j_tabletCount, .int j_riderCount, .int j_lineLength, .int j_hour])), (a1, .inr (7, [.ref b1, .int 0])), (b1, .inl (cs 0, 200, .inl a_b))]) [0, 1, 2] (by decide) rfl
            have hK9 := hK.sub (tys' := []) [] rfl
            refine W.widen (k := 0) (n := 0) (Nat.le_of_ble_eq_true rfl) (Nat.le_of_ble_eq_true rfl) ?_
            exact W.iret (v := (-1)) hx hb hr (fun t9 ht hW => ⟨⟨_, (), rfl, trivial, S8, f_2, hT, hFrS8, by rw [ht]; exact hP9, va_K.moved hW.alike hK9, hD9⟩, hS.F ht⟩) hS.2.2 dX8_leading_99
          · refine lv_aload_n hx hb dX8_leading_84 rfl (lv_at hl 0 rfl) ?_
            refine va_get (D := (dC, dI)) (ci := 8) (v := .ref a3) (C := RX8) (T := TX8) (N := 15) hx hb hts hin8 hown hK hP 0 rfl rfl 2 (by decide) (hts (.fieldLink RX8 26 "YamRiders" "leader" "LYamRiders$Leader;") (by decide +kernel)) (fun _ h9 => h9) rfl dX8_leading_85 ?_
            refine lv_aload_n hx hb dX8_leading_88 rfl (lv_at hl 0 rfl) ?_
            refine va_get (D := (dC, dI)) (ci := 8) (v := .ref a2) (C := RX8) (T := TX8) (N := 15) hx hb hts hin8 hown hK hP 0 rfl rfl 1 (by decide) (hts (.fieldLink RX8 19 "YamRiders" "roads" "LYamRiders$Roads;") (by decide +kernel)) (fun _ h9 => h9) rfl dX8_leading_89 ?_
            have hPc := hP.part (cx := []) [] rfl
            have hDc := hD.part (cx := []) [] (by decide) rfl
            have hKc := hK
            have hFc := va_freeP (cx := []) hD hS hA [] rfl
            have hf_5 : f_2 a3 = .inr (1, [.ref (ad 41 0), .ref (ad 42 0), .ref (ad 43 0), .ref (ad 44 0)]) := hT.get hY.2.1
            obtain ⟨q_6, hq_6⟩ := pl_at (X := []) (f := f_2) (e := .inr (1, [.ref (ad 41 0), .ref (ad 42 0), .ref (ad 43 0), .ref (ad 44 0)])) hY.2.1.1 hf_5
            refine va_calli (va_runV (As := [.ref a2]) (rest := []) ⟨hx, hb, hml, hown, hts⟩ (e_X1_leastPains l dC dI cs L ka ix ad n0 n6 n2 S8 f_2 a3 a2 H.size hT hY.2.1 hY.1) (cwV 1 hts gX8_leading_X1_leastPains rfl rfl rfl (by decide +kernel) ⟨Nat.le_of_ble_eq_true rfl, Nat.le_of_ble_eq_true rfl⟩) ⟨c_blind, va_recv hKc hPc (ci := 1) (q0 := q_6) rfl hq_6, c_pre hPc hKc hDc hN⟩ rfl rfl hl.1 rfl (lv_room (Nat.le_of_ble_eq_true rfl)) dX8_leading_92 ⟨Nat.le_of_ble_eq_true rfl, Nat.le_of_ble_eq_true rfl⟩) hS (fun q _ h => hFc q h) hFc (fun r_7 u9 t9 H1 locs ht hvm hw hB hz1 hk1 hS => ?_)
            obtain ⟨S_8, f_9, hf_x_10, hf_x_11, hP1, hK1, hD1⟩ := hB
            rw [ht] at hP1
            have hK1 := va_K.moved hvm.symm hK1
            obtain ⟨hP, hD⟩ := va_joinP (X := [(h0, .inr (8, [.ref a1, .ref a2, .ref a3, .ref a4, .ref a5, .ref a6, .ref a7, .ref a8, .ref a9, .int j_faultKind, .int j_horseCount, .int j_tabletCount, .int j_riderCount, .int j_lineLength, .int j_hour])), (a1, .inr (7, [.ref b1, .int 0])), (b1, .inl (cs 0, 200, .inl a_b))]) (cx := []) (wr := [(h0, .inr (8, [.ref a1, .ref a2, .ref a3, .ref a4, .ref a5, .ref a6, .ref a7, .ref a8, .ref a9, .int j_faultKind, .int j_horseCount, .int j_tabletCount, .int j_riderCount, .int j_lineLength, .int j_hour])), (a1, .inr (7, [.ref b1, .int 0])), (b1, .inl (cs 0, 200, .inl a_b))]) (rx := []) (pl := va_pl L f_2) (pl1 := va_pl L f_9) hP hD [] [0, 1, 2] rfl rfl (by decide) (by decide) hk1 hFc hP1 hD1
            have hT := hf_x_10
            generalize H1 = H at hP hS ⊢
            have hP : va_P (dC, dI) vwCl ([(h0, .inr (8, [.ref a1, .ref a2, .ref a3, .ref a4, .ref a5, .ref a6, .ref a7, .ref a8, .ref a9, .int j_faultKind, .int j_horseCount, .int j_tabletCount, .int j_riderCount, .int j_lineLength, .int j_hour])), (a1, .inr (7, [.ref b1, .int 0])), (b1, .inl (cs 0, 200, .inl a_b))] ++ va_pl L f_9) H := hP
            have hD : va_D A ([(h0, .inr (8, [.ref a1, .ref a2, .ref a3, .ref a4, .ref a5, .ref a6, .ref a7, .ref a8, .ref a9, .int j_faultKind, .int j_horseCount, .int j_tabletCount, .int j_riderCount, .int j_lineLength, .int j_hour])), (a1, .inr (7, [.ref b1, .int 0])), (b1, .inl (cs 0, 200, .inl a_b))] ++ va_pl L f_9) := hD
            have hFr_12 := AG.tr hFrS8 hf_x_11
            refine W.widen (k := 0) (n := 0) (Nat.le_of_ble_eq_true rfl) (Nat.le_of_ble_eq_true rfl) ?_
            refine lv_goto (tgt := 99) hx hb dX8_leading_95 (by decide) ?_
            have hP9 := hP.part (cx := [(h0, .inr (8, [.ref a1, .ref a2, .ref a3, .ref a4, .ref a5, .ref a6, .ref a7, .ref a8, .ref a9, .int j_faultKind, .int j_horseCount, .int j_tabletCount, .int j_riderCount, .int j_lineLength, .int j_hour])), (a1, .inr (7, [.ref b1, .int 0])), (b1, .inl (cs 0, 200, .inl a_b))]) [0, 1, 2] rfl
            have hD9 := hD.part (cx := [(h0, .inr (8, [.ref a1, .ref a2, .ref a3, .ref a4, .ref a5, .ref a6, .ref a7, .ref a8, .ref a9, .int j_faultKind, .int j_horseCount, .int j_tabletCount, .int j_riderCount, .int j_lineLength, .int j_hour])), (a1, .inr (7, [.ref b1, .int 0])), (b1, .inl (cs 0, 200, .inl a_b))]) [0, 1, 2] (by decide) rfl
            have hK9 := hK.sub (tys' := []) [] rfl
            refine W.widen (k := 0) (n := 0) (Nat.le_of_ble_eq_true rfl) (Nat.le_of_ble_eq_true rfl) ?_
            exact W.iret (v := r_7) hx hb hr (fun t9 ht hW => ⟨⟨_, (), rfl, trivial, S_8, f_9, hT, hFr_12, by rw [ht]; exact hP9, va_K.moved hW.alike hK9, hD9⟩, hS.F ht⟩) hS.2.2 dX8_leading_99
        · have hlt : k < 12 := by
            rcases Nat.lt_or_ge k 12 with q | q
            · exact q
            · exact absurd (show nI 12 ≤ nI k from nI_le q (by omega)) c_3
          refine lv_iload_n hx hb dX8_leading_26 rfl (lv_at hl 1 rfl) ?_
          refine lv_if_eq (tgt := 72) hx hb dX8_leading_27 (by decide) (fun c_13 => ?_) (fun c_13 => ?_)
          · refine lv_aload_n hx hb dX8_leading_72 rfl (lv_at hl 0 rfl) ?_
            refine va_get (D := (dC, dI)) (ci := 8) (v := .ref a1) (C := RX8) (T := TX8) (N := 15) hx hb hts hin8 hown hK hP 0 rfl rfl 0 (by decide) (hts (.fieldLink RX8 10 "YamRiders" "tape" "LYamRiders$Tape;") (by decide +kernel)) (fun _ h9 => h9) rfl dX8_leading_73 ?_
            refine lv_iconst (v := 0) hx hb dX8_leading_76 (by decide) ?_
            refine va_putN (D := (dC, dI)) (ci := 7) (v := .int 0) (ty := (tyX7 1)) (C := RX7) (T := TX7) (N := 2) hx hb hts hin7 tyX7 tyX7_ok nmX7 hown hK hP hD hS 1 rfl rfl 1 (by decide) (hN.nx (.fieldLinkNest RX8 70 "YamRiders$Tape" "length" "I" "YamRiders") (by decide +kernel)) (fun _ h9 => h9) rfl (by decide +kernel) rfl rfl (Nat.le_of_ble_eq_true rfl) dX8_leading_77 (fun H locs hP hD hS => ?_)
            have hP : va_P (dC, dI) vwCl ([(h0, .inr (8, [.ref a1, .ref a2, .ref a3, .ref a4, .ref a5, .ref a6, .ref a7, .ref a8, .ref a9, .int j_faultKind, .int j_horseCount, .int j_tabletCount, .int j_riderCount, .int j_lineLength, .int j_hour])), (a1, .inr (7, [.ref b1, .int 0])), (b1, .inl (cs 0, 200, .inl a_b))] ++ va_pl L f_2) H := hP
            have hD : va_D A ([(h0, .inr (8, [.ref a1, .ref a2, .ref a3, .ref a4, .ref a5, .ref a6, .ref a7, .ref a8, .ref a9, .int j_faultKind, .int j_horseCount, .int j_tabletCount, .int j_riderCount, .int j_lineLength, .int j_hour])), (a1, .inr (7, [.ref b1, .int 0])), (b1, .inl (cs 0, 200, .inl a_b))] ++ va_pl L f_2) := hD
            refine lv_iload_n hx hb dX8_leading_80 rfl (lv_at hl 1 rfl) ?_
            refine lv_if_eq (tgt := 98) hx hb dX8_leading_81 (by decide) (fun _ => ?_) (fun c_14 => by first | exact absurd c_14 c_13 | exact absurd c_13 c_14)
            refine lv_iconst (v := (-1)) hx hb dX8_leading_98 (by decide) ?_
            have hP9 := hP.part (cx := [(h0, .inr (8, [.ref a1, .ref a2, .ref a3, .ref a4, .ref a5, .ref a6, .ref a7, .ref a8, .ref a9, .int j_faultKind, .int j_horseCount, .int j_tabletCount, .int j_riderCount, .int j_lineLength, .int j_hour])), (a1, .inr (7, [.ref b1, .int 0])), (b1, .inl (cs 0, 200, .inl a_b))]) [0, 1, 2] rfl
            have hD9 := hD.part (cx := [(h0, .inr (8, [.ref a1, .ref a2, .ref a3, .ref a4, .ref a5, .ref a6, .ref a7, .ref a8, .ref a9, .int j_faultKind, .int j_horseCount, .int j_tabletCount, .int j_riderCount, .int j_lineLength, .int j_hour])), (a1, .inr (7, [.ref b1, .int 0])), (b1, .inl (cs 0, 200, .inl a_b))]) [0, 1, 2] (by decide) rfl
            have hK9 := hK.sub (tys' := []) [] rfl
            refine W.widen (k := 0) (n := 0) (Nat.le_of_ble_eq_true rfl) (Nat.le_of_ble_eq_true rfl) ?_
            exact W.iret (v := (-1)) hx hb hr (fun t9 ht hW => ⟨⟨_, (), rfl, trivial, S8, f_2, hT, hFrS8, by rw [ht]; exact hP9, va_K.moved hW.alike hK9, hD9⟩, hS.F ht⟩) hS.2.2 dX8_leading_99
          · refine lv_aload_n hx hb dX8_leading_30 rfl (lv_at hl 0 rfl) ?_
            refine va_get (D := (dC, dI)) (ci := 8) (v := .ref a1) (C := RX8) (T := TX8) (N := 15) hx hb hts hin8 hown hK hP 0 rfl rfl 0 (by decide) (hts (.fieldLink RX8 10 "YamRiders" "tape" "LYamRiders$Tape;") (by decide +kernel)) (fun _ h9 => h9) rfl dX8_leading_31 ?_
            refine lv_iload_n hx hb dX8_leading_34 rfl (lv_at hl 2 rfl) ?_
            have hPc := hP.sub (ws' := [(a1, .inr (7, [.ref b1, .int i_len])), (b1, .inl (cs 0, 200, .inl a_b))]) [1, 2] rfl
            have hDc := hD.sub (ws' := [(a1, .inr (7, [.ref b1, .int i_len])), (b1, .inl (cs 0, 200, .inl a_b))]) [1, 2] (by decide) rfl
            have hKc := hK.sub (tys' := [(cs 0, .int)]) [0] rfl
            refine cs_i (va_runV (As := [.int (nI k)]) (rest := []) ⟨hx, hb, hml, hown, hts⟩ (g_X7_byteAt l dC dI a1 b1 (cs 0) a_b (nI k) i_len H.size) (cwV 1 hts gX8_leading_X7_byteAt rfl rfl rfl (by decide +kernel) ⟨Nat.le_of_ble_eq_true rfl, Nat.le_of_ble_eq_true rfl⟩) ⟨c_blind, va_recv hKc hPc (ci := 7) (q0 := 0) rfl rfl, c_pre hPc hKc hDc hN⟩ rfl rfl hl.1 rfl (lv_room (Nat.le_of_ble_eq_true rfl)) dX8_leading_35 ⟨Nat.le_of_ble_eq_true rfl, Nat.le_of_ble_eq_true rfl⟩) (fun r_15 hr_15 => ?_)
            refine lv_istore_n (lv' := [(3, .int r_15), (0, .ref h0), (1, .int x1), (2, .int (nI k))]) hx hb dX8_leading_38 rfl hl (by decide) rfl (fun ls hl => ?_)
            refine lv_iload_n hx hb dX8_leading_39 rfl (lv_at hl 0 rfl) ?_
            refine lv_bipush (v := 60) hx hb dX8_leading_40 (by decide) ?_
            refine lv_icmp_gt (tgt := 49) hx hb dX8_leading_42 (by decide) (fun c_16 => ?_) (fun c_16 => ?_)
            · refine lv_iconst (v := 0) hx hb dX8_leading_49 (by decide) ?_
              refine lv_istore_n (lv' := [(1, .int 0), (3, .int r_15), (0, .ref h0), (2, .int (nI k))]) hx hb dX8_leading_50 rfl hl (by decide) rfl (fun ls hl => ?_)
              refine lv_aload_n hx hb dX8_leading_51 rfl (lv_at hl 2 rfl) ?_
              refine va_get (D := (dC, dI)) (ci := 8) (v := .ref a3) (C := RX8) (T := TX8) (N := 15) hx hb hts hin8 hown hK hP 0 rfl rfl 2 (by decide) (hts (.fieldLink RX8 26 "YamRiders" "leader" "LYamRiders$Leader;") (by decide +kernel)) (fun _ h9 => h9) rfl dX8_leading_52 ?_
              refine lv_iload_n hx hb dX8_leading_55 rfl (lv_at hl 3 rfl) ?_
              refine lv_aload_n hx hb dX8_leading_56 rfl (lv_at hl 2 rfl) ?_
              refine lv_iload_n hx hb dX8_leading_57 rfl (lv_at hl 3 rfl) ?_
              have hPc := hP.part (cx := [(h0, .inr (8, [.ref a1, .ref a2, .ref a3, .ref a4, .ref a5, .ref a6, .ref a7, .ref a8, .ref a9, .int j_faultKind, .int j_horseCount, .int j_tabletCount, .int j_riderCount, .int j_lineLength, .int j_hour]))]) [0] rfl
              have hDc := hD.part (cx := [(h0, .inr (8, [.ref a1, .ref a2, .ref a3, .ref a4, .ref a5, .ref a6, .ref a7, .ref a8, .ref a9, .int j_faultKind, .int j_horseCount, .int j_tabletCount, .int j_riderCount, .int j_lineLength, .int j_hour]))]) [0] (by decide) rfl
              have hKc := hK
              refine cs_i (va_runV (As := [.int (nI k)]) (rest := [.int (nI k), .ref a3]) ⟨hx, hb, hml, hown, hts⟩ (e_X8_horsesAt l dC dI cs L ka ix ad n0 n6 n2 S8 f_2 gq h0 a1 a2 a3 a4 a5 a6 a7 a8 a9 j_faultKind j_horseCount j_tabletCount j_riderCount j_lineLength j_hour (nI k) H.size hT hY) (cwV 1 hts gX8_leading_X8_horsesAt rfl rfl rfl (by decide +kernel) ⟨Nat.le_of_ble_eq_true rfl, Nat.le_of_ble_eq_true rfl⟩) ⟨c_blind, va_recv hKc hPc (ci := 8) (q0 := 0) rfl rfl, c_pre hPc hKc hDc hN⟩ rfl rfl hl.1 rfl (lv_room (Nat.le_of_ble_eq_true rfl)) dX8_leading_58 ⟨Nat.le_of_ble_eq_true rfl, Nat.le_of_ble_eq_true rfl⟩) (fun r_17 hr_17 => ?_)
              subst hr_17
              refine lv_iload_n hx hb dX8_leading_61 rfl (lv_at hl 1 rfl) ?_
              refine lv_isub hx hb dX8_leading_62 ?_
              have hPc := hP.part (cx := []) [] rfl
              have hDc := hD.part (cx := []) [] (by decide) rfl
              have hKc := hK
              have hFc := va_freeP (cx := []) hD hS hA [] rfl
              have hf_18 : f_2 a3 = .inr (1, [.ref (ad 41 0), .ref (ad 42 0), .ref (ad 43 0), .ref (ad 44 0)]) := hT.get hY.2.1
              obtain ⟨q_19, hq_19⟩ := pl_at (X := []) (f := f_2) (e := .inr (1, [.ref (ad 41 0), .ref (ad 42 0), .ref (ad 43 0), .ref (ad 44 0)])) hY.2.1.1 hf_18
              refine va_callv (va_runV (As := [.int (nI k), .int ((nI (cn (pH S8 (nI k)) n0)) - r_15)]) (rest := []) ⟨hx, hb, hml, hown, hts⟩ (e_X1_setSpare l dC dI cs L ka ix ad n0 n6 n2 S8 f_2 a3 (nI k) ((nI (cn (pH S8 (nI k)) n0)) - r_15) H.size hT hY.2.1) (cwV 2 hts gX8_leading_X1_setSpare rfl rfl rfl (by decide +kernel) ⟨Nat.le_of_ble_eq_true rfl, Nat.le_of_ble_eq_true rfl⟩) ⟨c_blind, va_recv hKc hPc (ci := 1) (q0 := q_19) rfl hq_19, c_pre hPc hKc hDc hN⟩ rfl rfl hl.1 rfl (lv_room (Nat.le_of_ble_eq_true rfl)) dX8_leading_63 ⟨Nat.le_of_ble_eq_true rfl, Nat.le_of_ble_eq_true rfl⟩) hS (fun q _ h => hFc q h) hFc (fun u9 t9 H1 locs ht hvm hw hB hz1 hk1 hS => ?_)
              obtain ⟨S_21, f_22, hf_x_23, hf_x_24, hP1, hK1, hD1⟩ := hB
              rw [ht] at hP1
              have hK1 := va_K.moved hvm.symm hK1
              obtain ⟨hP, hD⟩ := va_joinP (X := [(h0, .inr (8, [.ref a1, .ref a2, .ref a3, .ref a4, .ref a5, .ref a6, .ref a7, .ref a8, .ref a9, .int j_faultKind, .int j_horseCount, .int j_tabletCount, .int j_riderCount, .int j_lineLength, .int j_hour])), (a1, .inr (7, [.ref b1, .int i_len])), (b1, .inl (cs 0, 200, .inl a_b))]) (cx := []) (wr := [(h0, .inr (8, [.ref a1, .ref a2, .ref a3, .ref a4, .ref a5, .ref a6, .ref a7, .ref a8, .ref a9, .int j_faultKind, .int j_horseCount, .int j_tabletCount, .int j_riderCount, .int j_lineLength, .int j_hour])), (a1, .inr (7, [.ref b1, .int i_len])), (b1, .inl (cs 0, 200, .inl a_b))]) (rx := []) (pl := va_pl L f_2) (pl1 := va_pl L f_22) hP hD [] [0, 1, 2] rfl rfl (by decide) (by decide) hk1 hFc hP1 hD1
              have hT := hf_x_23
              generalize H1 = H at hP hS ⊢
              have hP : va_P (dC, dI) vwCl ([(h0, .inr (8, [.ref a1, .ref a2, .ref a3, .ref a4, .ref a5, .ref a6, .ref a7, .ref a8, .ref a9, .int j_faultKind, .int j_horseCount, .int j_tabletCount, .int j_riderCount, .int j_lineLength, .int j_hour])), (a1, .inr (7, [.ref b1, .int i_len])), (b1, .inl (cs 0, 200, .inl a_b))] ++ va_pl L f_22) H := hP
              have hD : va_D A ([(h0, .inr (8, [.ref a1, .ref a2, .ref a3, .ref a4, .ref a5, .ref a6, .ref a7, .ref a8, .ref a9, .int j_faultKind, .int j_horseCount, .int j_tabletCount, .int j_riderCount, .int j_lineLength, .int j_hour])), (a1, .inr (7, [.ref b1, .int i_len])), (b1, .inl (cs 0, 200, .inl a_b))] ++ va_pl L f_22) := hD
              have hFr_25 := AG.tr hFrS8 hf_x_24
              refine W.widen (k := 0) (n := 0) (Nat.le_of_ble_eq_true rfl) (Nat.le_of_ble_eq_true rfl) ?_
              refine lv_iinc (v := nI (k + 1)) (lv' := [(2, .int (nI (k + 1))), (1, .int 0), (3, .int r_15), (0, .ref h0)]) hx hb dX8_leading_66 hl (k := 3) rfl (by exact (nI_1 k)) (by decide) rfl (fun ls hl => ?_)
              refine lv_goto (tgt := 20) hx hb dX8_leading_69 (by decide) ?_
              exact ih (k + 1) 0 S_21 (by omega) (by omega) hFr_25 _ _ _ hT (hP.part (cx := _) [0, 1, 2] rfl) (hD.part (cx := _) [0, 1, 2] (by decide) rfl) hS ls (lv_sub hl [3, 1, 0] rfl)
            · refine lv_iconst (v := 1) hx hb dX8_leading_45 (by decide) ?_
              refine lv_goto (tgt := 50) hx hb dX8_leading_46 (by decide) ?_
              refine lv_istore_n (lv' := [(1, .int 1), (3, .int r_15), (0, .ref h0), (2, .int (nI k))]) hx hb dX8_leading_50 rfl hl (by decide) rfl (fun ls hl => ?_)
              refine lv_aload_n hx hb dX8_leading_51 rfl (lv_at hl 2 rfl) ?_
              refine va_get (D := (dC, dI)) (ci := 8) (v := .ref a3) (C := RX8) (T := TX8) (N := 15) hx hb hts hin8 hown hK hP 0 rfl rfl 2 (by decide) (hts (.fieldLink RX8 26 "YamRiders" "leader" "LYamRiders$Leader;") (by decide +kernel)) (fun _ h9 => h9) rfl dX8_leading_52 ?_
              refine lv_iload_n hx hb dX8_leading_55 rfl (lv_at hl 3 rfl) ?_
              refine lv_aload_n hx hb dX8_leading_56 rfl (lv_at hl 2 rfl) ?_
              refine lv_iload_n hx hb dX8_leading_57 rfl (lv_at hl 3 rfl) ?_
              have hPc := hP.part (cx := [(h0, .inr (8, [.ref a1, .ref a2, .ref a3, .ref a4, .ref a5, .ref a6, .ref a7, .ref a8, .ref a9, .int j_faultKind, .int j_horseCount, .int j_tabletCount, .int j_riderCount, .int j_lineLength, .int j_hour]))]) [0] rfl
              have hDc := hD.part (cx := [(h0, .inr (8, [.ref a1, .ref a2, .ref a3, .ref a4, .ref a5, .ref a6, .ref a7, .ref a8, .ref a9, .int j_faultKind, .int j_horseCount, .int j_tabletCount, .int j_riderCount, .int j_lineLength, .int j_hour]))]) [0] (by decide) rfl
              have hKc := hK
              refine cs_i (va_runV (As := [.int (nI k)]) (rest := [.int (nI k), .ref a3]) ⟨hx, hb, hml, hown, hts⟩ (e_X8_horsesAt l dC dI cs L ka ix ad n0 n6 n2 S8 f_2 gq h0 a1 a2 a3 a4 a5 a6 a7 a8 a9 j_faultKind j_horseCount j_tabletCount j_riderCount j_lineLength j_hour (nI k) H.size hT hY) (cwV 1 hts gX8_leading_X8_horsesAt rfl rfl rfl (by decide +kernel) ⟨Nat.le_of_ble_eq_true rfl, Nat.le_of_ble_eq_true rfl⟩) ⟨c_blind, va_recv hKc hPc (ci := 8) (q0 := 0) rfl rfl, c_pre hPc hKc hDc hN⟩ rfl rfl hl.1 rfl (lv_room (Nat.le_of_ble_eq_true rfl)) dX8_leading_58 ⟨Nat.le_of_ble_eq_true rfl, Nat.le_of_ble_eq_true rfl⟩) (fun r_26 hr_26 => ?_)
              subst hr_26
              refine lv_iload_n hx hb dX8_leading_61 rfl (lv_at hl 1 rfl) ?_
              refine lv_isub hx hb dX8_leading_62 ?_
              have hPc := hP.part (cx := []) [] rfl
              have hDc := hD.part (cx := []) [] (by decide) rfl
              have hKc := hK
              have hFc := va_freeP (cx := []) hD hS hA [] rfl
              have hf_27 : f_2 a3 = .inr (1, [.ref (ad 41 0), .ref (ad 42 0), .ref (ad 43 0), .ref (ad 44 0)]) := hT.get hY.2.1
              obtain ⟨q_28, hq_28⟩ := pl_at (X := []) (f := f_2) (e := .inr (1, [.ref (ad 41 0), .ref (ad 42 0), .ref (ad 43 0), .ref (ad 44 0)])) hY.2.1.1 hf_27
              refine va_callv (va_runV (As := [.int (nI k), .int ((nI (cn (pH S8 (nI k)) n0)) - r_15)]) (rest := []) ⟨hx, hb, hml, hown, hts⟩ (e_X1_setSpare l dC dI cs L ka ix ad n0 n6 n2 S8 f_2 a3 (nI k) ((nI (cn (pH S8 (nI k)) n0)) - r_15) H.size hT hY.2.1) (cwV 2 hts gX8_leading_X1_setSpare rfl rfl rfl (by decide +kernel) ⟨Nat.le_of_ble_eq_true rfl, Nat.le_of_ble_eq_true rfl⟩) ⟨c_blind, va_recv hKc hPc (ci := 1) (q0 := q_28) rfl hq_28, c_pre hPc hKc hDc hN⟩ rfl rfl hl.1 rfl (lv_room (Nat.le_of_ble_eq_true rfl)) dX8_leading_63 ⟨Nat.le_of_ble_eq_true rfl, Nat.le_of_ble_eq_true rfl⟩) hS (fun q _ h => hFc q h) hFc (fun u9 t9 H1 locs ht hvm hw hB hz1 hk1 hS => ?_)
              obtain ⟨S_30, f_31, hf_x_32, hf_x_33, hP1, hK1, hD1⟩ := hB
              rw [ht] at hP1
              have hK1 := va_K.moved hvm.symm hK1
              obtain ⟨hP, hD⟩ := va_joinP (X := [(h0, .inr (8, [.ref a1, .ref a2, .ref a3, .ref a4, .ref a5, .ref a6, .ref a7, .ref a8, .ref a9, .int j_faultKind, .int j_horseCount, .int j_tabletCount, .int j_riderCount, .int j_lineLength, .int j_hour])), (a1, .inr (7, [.ref b1, .int i_len])), (b1, .inl (cs 0, 200, .inl a_b))]) (cx := []) (wr := [(h0, .inr (8, [.ref a1, .ref a2, .ref a3, .ref a4, .ref a5, .ref a6, .ref a7, .ref a8, .ref a9, .int j_faultKind, .int j_horseCount, .int j_tabletCount, .int j_riderCount, .int j_lineLength, .int j_hour])), (a1, .inr (7, [.ref b1, .int i_len])), (b1, .inl (cs 0, 200, .inl a_b))]) (rx := []) (pl := va_pl L f_2) (pl1 := va_pl L f_31) hP hD [] [0, 1, 2] rfl rfl (by decide) (by decide) hk1 hFc hP1 hD1
              have hT := hf_x_32
              generalize H1 = H at hP hS ⊢
              have hP : va_P (dC, dI) vwCl ([(h0, .inr (8, [.ref a1, .ref a2, .ref a3, .ref a4, .ref a5, .ref a6, .ref a7, .ref a8, .ref a9, .int j_faultKind, .int j_horseCount, .int j_tabletCount, .int j_riderCount, .int j_lineLength, .int j_hour])), (a1, .inr (7, [.ref b1, .int i_len])), (b1, .inl (cs 0, 200, .inl a_b))] ++ va_pl L f_31) H := hP
              have hD : va_D A ([(h0, .inr (8, [.ref a1, .ref a2, .ref a3, .ref a4, .ref a5, .ref a6, .ref a7, .ref a8, .ref a9, .int j_faultKind, .int j_horseCount, .int j_tabletCount, .int j_riderCount, .int j_lineLength, .int j_hour])), (a1, .inr (7, [.ref b1, .int i_len])), (b1, .inl (cs 0, 200, .inl a_b))] ++ va_pl L f_31) := hD
              have hFr_34 := AG.tr hFrS8 hf_x_33
              refine W.widen (k := 0) (n := 0) (Nat.le_of_ble_eq_true rfl) (Nat.le_of_ble_eq_true rfl) ?_
              refine lv_iinc (v := nI (k + 1)) (lv' := [(2, .int (nI (k + 1))), (1, .int 1), (3, .int r_15), (0, .ref h0)]) hx hb dX8_leading_66 hl (k := 3) rfl (by exact (nI_1 k)) (by decide) rfl (fun ls hl => ?_)
              refine lv_goto (tgt := 20) hx hb dX8_leading_69 (by decide) ?_
              exact ih (k + 1) 1 S_30 (by omega) (by omega) hFr_34 _ _ _ hT (hP.part (cx := _) [0, 1, 2] rfl) (hD.part (cx := _) [0, 1, 2] (by decide) rfl) hS ls (lv_sub hl [3, 1, 0] rfl)
    exact HL 13 0 0 S (by omega) (by omega) AG.rf _ _ _ hT (hP.part (cx := _) [0, 1, 2] rfl) (hD.part (cx := _) [0, 1, 2] (by decide) rfl) hS ls (lv_sub hl [2, 1, 0] rfl)
  · refine lv_iconst (v := 1) hx hb dX8_leading_12 (by decide) ?_
    refine lv_goto (tgt := 17) hx hb dX8_leading_13 (by decide) ?_
    refine lv_istore_n (lv' := [(1, .int 1), (0, .ref h0)]) hx hb dX8_leading_17 rfl hl (by decide) rfl (fun ls hl => ?_)
    refine lv_iconst (v := 0) hx hb dX8_leading_18 (by decide) ?_
    refine lv_istore_n (lv' := [(2, .int 0), (1, .int 1), (0, .ref h0)]) hx hb dX8_leading_19 rfl hl (by decide) rfl (fun ls hl => ?_)
    have HL : ∀ (n k : Nat) (x1 : Int32) (S8 : Nat → Nat → Nat → Int32), k ≤ 12 → 12 + 1 ≤ k + n → (AG S S8) → ∀ (f_35 : Nat → va_E) (H : Heap) (locs : List Loc), tB L ka ix ad cs n0 n6 n2 S8 f_35 → va_P (dC, dI) vwCl ([(h0, .inr (8, [.ref a1, .ref a2, .ref a3, .ref a4, .ref a5, .ref a6, .ref a7, .ref a8, .ref a9, .int j_faultKind, .int j_horseCount, .int j_tabletCount, .int j_riderCount, .int j_lineLength, .int j_hour])), (a1, .inr (7, [.ref b1, .int i_len])), (b1, .inl (cs 0, 200, .inl a_b))] ++ va_pl L f_35) H → va_D A ([(h0, .inr (8, [.ref a1, .ref a2, .ref a3, .ref a4, .ref a5, .ref a6, .ref a7, .ref a8, .ref a9, .int j_faultKind, .int j_horseCount, .int j_tabletCount, .int j_riderCount, .int j_lineLength, .int j_hour])), (a1, .inr (7, [.ref b1, .int i_len])), (b1, .inl (cs 0, 200, .inl a_b))] ++ va_pl L f_35) → va_S A s.heap H locs → ∀ ls : Array Slot, lv_has ls 4 [(0, .ref h0), (1, .int x1), (2, .int (nI k))] → W p l e (headSpec wsX8_leading ({ frames := 5, cells := 0, slots := 0, locals := 117 })).room s m ([.ref h0]).toArray below meth c H locs 0 0 (MQ below (va_Qi (fun (r : Int32) (_ : Unit) => True) (fun (_ : Unit) t9 => ∃ (S2 : Nat → Nat → Nat → Int32) (f2 : Nat → va_E), (tB L ka ix ad cs n0 n6 n2 S2 f2) ∧ (AG S S2) ∧ cQ dC dI ([(h0, .inr (8, [.ref a1, .ref a2, .ref a3, .ref a4, .ref a5, .ref a6, .ref a7, .ref a8, .ref a9, .int j_faultKind, .int j_horseCount, .int j_tabletCount, .int j_riderCount, .int j_lineLength, .int j_hour])), (a1, .inr (7, [.ref b1, .int 0])), (b1, .inl (cs 0, 200, .inl a_b))] ++ va_pl L f2) [] A t9) A) ([.ref h0]).toArray s 0 0 A) (F0 m 20 ls []) := by
      intro n
      induction n with
      | zero => intro k x1 S8 h1 h2; exact absurd h2 (by omega)
      | succ n ih =>
        intro k x1 S8 hk hn hFrS8 f_35 H locs hT hP hD hS ls hl
        refine lv_iload_n hx hb dX8_leading_20 rfl (lv_at hl 2 rfl) ?_
        refine lv_bipush (v := 12) hx hb dX8_leading_21 (by decide) ?_
        refine lv_icmp_ge (tgt := 72) hx hb dX8_leading_23 (by decide) (fun c_36 => ?_) (fun c_36 => ?_)
        · have hke : k = 12 := by
            rcases Nat.lt_or_ge k 12 with q | q
            · exact absurd c_36 (nI_ge q (by decide))
            · omega
          refine lv_aload_n hx hb dX8_leading_72 rfl (lv_at hl 0 rfl) ?_
          refine va_get (D := (dC, dI)) (ci := 8) (v := .ref a1) (C := RX8) (T := TX8) (N := 15) hx hb hts hin8 hown hK hP 0 rfl rfl 0 (by decide) (hts (.fieldLink RX8 10 "YamRiders" "tape" "LYamRiders$Tape;") (by decide +kernel)) (fun _ h9 => h9) rfl dX8_leading_73 ?_
          refine lv_iconst (v := 0) hx hb dX8_leading_76 (by decide) ?_
          refine va_putN (D := (dC, dI)) (ci := 7) (v := .int 0) (ty := (tyX7 1)) (C := RX7) (T := TX7) (N := 2) hx hb hts hin7 tyX7 tyX7_ok nmX7 hown hK hP hD hS 1 rfl rfl 1 (by decide) (hN.nx (.fieldLinkNest RX8 70 "YamRiders$Tape" "length" "I" "YamRiders") (by decide +kernel)) (fun _ h9 => h9) rfl (by decide +kernel) rfl rfl (Nat.le_of_ble_eq_true rfl) dX8_leading_77 (fun H locs hP hD hS => ?_)
          have hP : va_P (dC, dI) vwCl ([(h0, .inr (8, [.ref a1, .ref a2, .ref a3, .ref a4, .ref a5, .ref a6, .ref a7, .ref a8, .ref a9, .int j_faultKind, .int j_horseCount, .int j_tabletCount, .int j_riderCount, .int j_lineLength, .int j_hour])), (a1, .inr (7, [.ref b1, .int 0])), (b1, .inl (cs 0, 200, .inl a_b))] ++ va_pl L f_35) H := hP
          have hD : va_D A ([(h0, .inr (8, [.ref a1, .ref a2, .ref a3, .ref a4, .ref a5, .ref a6, .ref a7, .ref a8, .ref a9, .int j_faultKind, .int j_horseCount, .int j_tabletCount, .int j_riderCount, .int j_lineLength, .int j_hour])), (a1, .inr (7, [.ref b1, .int 0])), (b1, .inl (cs 0, 200, .inl a_b))] ++ va_pl L f_35) := hD
          refine lv_iload_n hx hb dX8_leading_80 rfl (lv_at hl 1 rfl) ?_
          refine lv_if_eq (tgt := 98) hx hb dX8_leading_81 (by decide) (fun c_37 => ?_) (fun c_37 => ?_)
          · refine lv_iconst (v := (-1)) hx hb dX8_leading_98 (by decide) ?_
            have hP9 := hP.part (cx := [(h0, .inr (8, [.ref a1, .ref a2, .ref a3, .ref a4, .ref a5, .ref a6, .ref a7, .ref a8, .ref a9, .int j_faultKind, .int j_horseCount, .int j_tabletCount, .int j_riderCount, .int j_lineLength, .int j_hour])), (a1, .inr (7, [.ref b1, .int 0])), (b1, .inl (cs 0, 200, .inl a_b))]) [0, 1, 2] rfl
            have hD9 := hD.part (cx := [(h0, .inr (8, [.ref a1, .ref a2, .ref a3, .ref a4, .ref a5, .ref a6, .ref a7, .ref a8, .ref a9, .int j_faultKind, .int j_horseCount, .int j_tabletCount, .int j_riderCount, .int j_lineLength, .int j_hour])), (a1, .inr (7, [.ref b1, .int 0])), (b1, .inl (cs 0, 200, .inl a_b))]) [0, 1, 2] (by decide) rfl
            have hK9 := hK.sub (tys' := []) [] rfl
            refine W.widen (k := 0) (n := 0) (Nat.le_of_ble_eq_true rfl) (Nat.le_of_ble_eq_true rfl) ?_
            exact W.iret (v := (-1)) hx hb hr (fun t9 ht hW => ⟨⟨_, (), rfl, trivial, S8, f_35, hT, hFrS8, by rw [ht]; exact hP9, va_K.moved hW.alike hK9, hD9⟩, hS.F ht⟩) hS.2.2 dX8_leading_99
          · refine lv_aload_n hx hb dX8_leading_84 rfl (lv_at hl 0 rfl) ?_
            refine va_get (D := (dC, dI)) (ci := 8) (v := .ref a3) (C := RX8) (T := TX8) (N := 15) hx hb hts hin8 hown hK hP 0 rfl rfl 2 (by decide) (hts (.fieldLink RX8 26 "YamRiders" "leader" "LYamRiders$Leader;") (by decide +kernel)) (fun _ h9 => h9) rfl dX8_leading_85 ?_
            refine lv_aload_n hx hb dX8_leading_88 rfl (lv_at hl 0 rfl) ?_
            refine va_get (D := (dC, dI)) (ci := 8) (v := .ref a2) (C := RX8) (T := TX8) (N := 15) hx hb hts hin8 hown hK hP 0 rfl rfl 1 (by decide) (hts (.fieldLink RX8 19 "YamRiders" "roads" "LYamRiders$Roads;") (by decide +kernel)) (fun _ h9 => h9) rfl dX8_leading_89 ?_
            have hPc := hP.part (cx := []) [] rfl
            have hDc := hD.part (cx := []) [] (by decide) rfl
            have hKc := hK
            have hFc := va_freeP (cx := []) hD hS hA [] rfl
            have hf_38 : f_35 a3 = .inr (1, [.ref (ad 41 0), .ref (ad 42 0), .ref (ad 43 0), .ref (ad 44 0)]) := hT.get hY.2.1
            obtain ⟨q_39, hq_39⟩ := pl_at (X := []) (f := f_35) (e := .inr (1, [.ref (ad 41 0), .ref (ad 42 0), .ref (ad 43 0), .ref (ad 44 0)])) hY.2.1.1 hf_38
            refine va_calli (va_runV (As := [.ref a2]) (rest := []) ⟨hx, hb, hml, hown, hts⟩ (e_X1_leastPains l dC dI cs L ka ix ad n0 n6 n2 S8 f_35 a3 a2 H.size hT hY.2.1 hY.1) (cwV 1 hts gX8_leading_X1_leastPains rfl rfl rfl (by decide +kernel) ⟨Nat.le_of_ble_eq_true rfl, Nat.le_of_ble_eq_true rfl⟩) ⟨c_blind, va_recv hKc hPc (ci := 1) (q0 := q_39) rfl hq_39, c_pre hPc hKc hDc hN⟩ rfl rfl hl.1 rfl (lv_room (Nat.le_of_ble_eq_true rfl)) dX8_leading_92 ⟨Nat.le_of_ble_eq_true rfl, Nat.le_of_ble_eq_true rfl⟩) hS (fun q _ h => hFc q h) hFc (fun r_40 u9 t9 H1 locs ht hvm hw hB hz1 hk1 hS => ?_)
            obtain ⟨S_41, f_42, hf_x_43, hf_x_44, hP1, hK1, hD1⟩ := hB
            rw [ht] at hP1
            have hK1 := va_K.moved hvm.symm hK1
            obtain ⟨hP, hD⟩ := va_joinP (X := [(h0, .inr (8, [.ref a1, .ref a2, .ref a3, .ref a4, .ref a5, .ref a6, .ref a7, .ref a8, .ref a9, .int j_faultKind, .int j_horseCount, .int j_tabletCount, .int j_riderCount, .int j_lineLength, .int j_hour])), (a1, .inr (7, [.ref b1, .int 0])), (b1, .inl (cs 0, 200, .inl a_b))]) (cx := []) (wr := [(h0, .inr (8, [.ref a1, .ref a2, .ref a3, .ref a4, .ref a5, .ref a6, .ref a7, .ref a8, .ref a9, .int j_faultKind, .int j_horseCount, .int j_tabletCount, .int j_riderCount, .int j_lineLength, .int j_hour])), (a1, .inr (7, [.ref b1, .int 0])), (b1, .inl (cs 0, 200, .inl a_b))]) (rx := []) (pl := va_pl L f_35) (pl1 := va_pl L f_42) hP hD [] [0, 1, 2] rfl rfl (by decide) (by decide) hk1 hFc hP1 hD1
            have hT := hf_x_43
            generalize H1 = H at hP hS ⊢
            have hP : va_P (dC, dI) vwCl ([(h0, .inr (8, [.ref a1, .ref a2, .ref a3, .ref a4, .ref a5, .ref a6, .ref a7, .ref a8, .ref a9, .int j_faultKind, .int j_horseCount, .int j_tabletCount, .int j_riderCount, .int j_lineLength, .int j_hour])), (a1, .inr (7, [.ref b1, .int 0])), (b1, .inl (cs 0, 200, .inl a_b))] ++ va_pl L f_42) H := hP
            have hD : va_D A ([(h0, .inr (8, [.ref a1, .ref a2, .ref a3, .ref a4, .ref a5, .ref a6, .ref a7, .ref a8, .ref a9, .int j_faultKind, .int j_horseCount, .int j_tabletCount, .int j_riderCount, .int j_lineLength, .int j_hour])), (a1, .inr (7, [.ref b1, .int 0])), (b1, .inl (cs 0, 200, .inl a_b))] ++ va_pl L f_42) := hD
            have hFr_45 := AG.tr hFrS8 hf_x_44
            refine W.widen (k := 0) (n := 0) (Nat.le_of_ble_eq_true rfl) (Nat.le_of_ble_eq_true rfl) ?_
            refine lv_goto (tgt := 99) hx hb dX8_leading_95 (by decide) ?_
            have hP9 := hP.part (cx := [(h0, .inr (8, [.ref a1, .ref a2, .ref a3, .ref a4, .ref a5, .ref a6, .ref a7, .ref a8, .ref a9, .int j_faultKind, .int j_horseCount, .int j_tabletCount, .int j_riderCount, .int j_lineLength, .int j_hour])), (a1, .inr (7, [.ref b1, .int 0])), (b1, .inl (cs 0, 200, .inl a_b))]) [0, 1, 2] rfl
            have hD9 := hD.part (cx := [(h0, .inr (8, [.ref a1, .ref a2, .ref a3, .ref a4, .ref a5, .ref a6, .ref a7, .ref a8, .ref a9, .int j_faultKind, .int j_horseCount, .int j_tabletCount, .int j_riderCount, .int j_lineLength, .int j_hour])), (a1, .inr (7, [.ref b1, .int 0])), (b1, .inl (cs 0, 200, .inl a_b))]) [0, 1, 2] (by decide) rfl
            have hK9 := hK.sub (tys' := []) [] rfl
            refine W.widen (k := 0) (n := 0) (Nat.le_of_ble_eq_true rfl) (Nat.le_of_ble_eq_true rfl) ?_
            exact W.iret (v := r_40) hx hb hr (fun t9 ht hW => ⟨⟨_, (), rfl, trivial, S_41, f_42, hT, hFr_45, by rw [ht]; exact hP9, va_K.moved hW.alike hK9, hD9⟩, hS.F ht⟩) hS.2.2 dX8_leading_99
        · have hlt : k < 12 := by
            rcases Nat.lt_or_ge k 12 with q | q
            · exact q
            · exact absurd (show nI 12 ≤ nI k from nI_le q (by omega)) c_36
          refine lv_iload_n hx hb dX8_leading_26 rfl (lv_at hl 1 rfl) ?_
          refine lv_if_eq (tgt := 72) hx hb dX8_leading_27 (by decide) (fun c_46 => ?_) (fun c_46 => ?_)
          · refine lv_aload_n hx hb dX8_leading_72 rfl (lv_at hl 0 rfl) ?_
            refine va_get (D := (dC, dI)) (ci := 8) (v := .ref a1) (C := RX8) (T := TX8) (N := 15) hx hb hts hin8 hown hK hP 0 rfl rfl 0 (by decide) (hts (.fieldLink RX8 10 "YamRiders" "tape" "LYamRiders$Tape;") (by decide +kernel)) (fun _ h9 => h9) rfl dX8_leading_73 ?_
            refine lv_iconst (v := 0) hx hb dX8_leading_76 (by decide) ?_
            refine va_putN (D := (dC, dI)) (ci := 7) (v := .int 0) (ty := (tyX7 1)) (C := RX7) (T := TX7) (N := 2) hx hb hts hin7 tyX7 tyX7_ok nmX7 hown hK hP hD hS 1 rfl rfl 1 (by decide) (hN.nx (.fieldLinkNest RX8 70 "YamRiders$Tape" "length" "I" "YamRiders") (by decide +kernel)) (fun _ h9 => h9) rfl (by decide +kernel) rfl rfl (Nat.le_of_ble_eq_true rfl) dX8_leading_77 (fun H locs hP hD hS => ?_)
            have hP : va_P (dC, dI) vwCl ([(h0, .inr (8, [.ref a1, .ref a2, .ref a3, .ref a4, .ref a5, .ref a6, .ref a7, .ref a8, .ref a9, .int j_faultKind, .int j_horseCount, .int j_tabletCount, .int j_riderCount, .int j_lineLength, .int j_hour])), (a1, .inr (7, [.ref b1, .int 0])), (b1, .inl (cs 0, 200, .inl a_b))] ++ va_pl L f_35) H := hP
            have hD : va_D A ([(h0, .inr (8, [.ref a1, .ref a2, .ref a3, .ref a4, .ref a5, .ref a6, .ref a7, .ref a8, .ref a9, .int j_faultKind, .int j_horseCount, .int j_tabletCount, .int j_riderCount, .int j_lineLength, .int j_hour])), (a1, .inr (7, [.ref b1, .int 0])), (b1, .inl (cs 0, 200, .inl a_b))] ++ va_pl L f_35) := hD
            refine lv_iload_n hx hb dX8_leading_80 rfl (lv_at hl 1 rfl) ?_
            refine lv_if_eq (tgt := 98) hx hb dX8_leading_81 (by decide) (fun _ => ?_) (fun c_47 => by first | exact absurd c_47 c_46 | exact absurd c_46 c_47)
            refine lv_iconst (v := (-1)) hx hb dX8_leading_98 (by decide) ?_
            have hP9 := hP.part (cx := [(h0, .inr (8, [.ref a1, .ref a2, .ref a3, .ref a4, .ref a5, .ref a6, .ref a7, .ref a8, .ref a9, .int j_faultKind, .int j_horseCount, .int j_tabletCount, .int j_riderCount, .int j_lineLength, .int j_hour])), (a1, .inr (7, [.ref b1, .int 0])), (b1, .inl (cs 0, 200, .inl a_b))]) [0, 1, 2] rfl
            have hD9 := hD.part (cx := [(h0, .inr (8, [.ref a1, .ref a2, .ref a3, .ref a4, .ref a5, .ref a6, .ref a7, .ref a8, .ref a9, .int j_faultKind, .int j_horseCount, .int j_tabletCount, .int j_riderCount, .int j_lineLength, .int j_hour])), (a1, .inr (7, [.ref b1, .int 0])), (b1, .inl (cs 0, 200, .inl a_b))]) [0, 1, 2] (by decide) rfl
            have hK9 := hK.sub (tys' := []) [] rfl
            refine W.widen (k := 0) (n := 0) (Nat.le_of_ble_eq_true rfl) (Nat.le_of_ble_eq_true rfl) ?_
            exact W.iret (v := (-1)) hx hb hr (fun t9 ht hW => ⟨⟨_, (), rfl, trivial, S8, f_35, hT, hFrS8, by rw [ht]; exact hP9, va_K.moved hW.alike hK9, hD9⟩, hS.F ht⟩) hS.2.2 dX8_leading_99
          · refine lv_aload_n hx hb dX8_leading_30 rfl (lv_at hl 0 rfl) ?_
            refine va_get (D := (dC, dI)) (ci := 8) (v := .ref a1) (C := RX8) (T := TX8) (N := 15) hx hb hts hin8 hown hK hP 0 rfl rfl 0 (by decide) (hts (.fieldLink RX8 10 "YamRiders" "tape" "LYamRiders$Tape;") (by decide +kernel)) (fun _ h9 => h9) rfl dX8_leading_31 ?_
            refine lv_iload_n hx hb dX8_leading_34 rfl (lv_at hl 2 rfl) ?_
            have hPc := hP.sub (ws' := [(a1, .inr (7, [.ref b1, .int i_len])), (b1, .inl (cs 0, 200, .inl a_b))]) [1, 2] rfl
            have hDc := hD.sub (ws' := [(a1, .inr (7, [.ref b1, .int i_len])), (b1, .inl (cs 0, 200, .inl a_b))]) [1, 2] (by decide) rfl
            have hKc := hK.sub (tys' := [(cs 0, .int)]) [0] rfl
            refine cs_i (va_runV (As := [.int (nI k)]) (rest := []) ⟨hx, hb, hml, hown, hts⟩ (g_X7_byteAt l dC dI a1 b1 (cs 0) a_b (nI k) i_len H.size) (cwV 1 hts gX8_leading_X7_byteAt rfl rfl rfl (by decide +kernel) ⟨Nat.le_of_ble_eq_true rfl, Nat.le_of_ble_eq_true rfl⟩) ⟨c_blind, va_recv hKc hPc (ci := 7) (q0 := 0) rfl rfl, c_pre hPc hKc hDc hN⟩ rfl rfl hl.1 rfl (lv_room (Nat.le_of_ble_eq_true rfl)) dX8_leading_35 ⟨Nat.le_of_ble_eq_true rfl, Nat.le_of_ble_eq_true rfl⟩) (fun r_48 hr_48 => ?_)
            refine lv_istore_n (lv' := [(3, .int r_48), (0, .ref h0), (1, .int x1), (2, .int (nI k))]) hx hb dX8_leading_38 rfl hl (by decide) rfl (fun ls hl => ?_)
            refine lv_iload_n hx hb dX8_leading_39 rfl (lv_at hl 0 rfl) ?_
            refine lv_bipush (v := 60) hx hb dX8_leading_40 (by decide) ?_
            refine lv_icmp_gt (tgt := 49) hx hb dX8_leading_42 (by decide) (fun c_49 => ?_) (fun c_49 => ?_)
            · refine lv_iconst (v := 0) hx hb dX8_leading_49 (by decide) ?_
              refine lv_istore_n (lv' := [(1, .int 0), (3, .int r_48), (0, .ref h0), (2, .int (nI k))]) hx hb dX8_leading_50 rfl hl (by decide) rfl (fun ls hl => ?_)
              refine lv_aload_n hx hb dX8_leading_51 rfl (lv_at hl 2 rfl) ?_
              refine va_get (D := (dC, dI)) (ci := 8) (v := .ref a3) (C := RX8) (T := TX8) (N := 15) hx hb hts hin8 hown hK hP 0 rfl rfl 2 (by decide) (hts (.fieldLink RX8 26 "YamRiders" "leader" "LYamRiders$Leader;") (by decide +kernel)) (fun _ h9 => h9) rfl dX8_leading_52 ?_
              refine lv_iload_n hx hb dX8_leading_55 rfl (lv_at hl 3 rfl) ?_
              refine lv_aload_n hx hb dX8_leading_56 rfl (lv_at hl 2 rfl) ?_
              refine lv_iload_n hx hb dX8_leading_57 rfl (lv_at hl 3 rfl) ?_
              have hPc := hP.part (cx := [(h0, .inr (8, [.ref a1, .ref a2, .ref a3, .ref a4, .ref a5, .ref a6, .ref a7, .ref a8, .ref a9, .int j_faultKind, .int j_horseCount, .int j_tabletCount, .int j_riderCount, .int j_lineLength, .int j_hour]))]) [0] rfl
              have hDc := hD.part (cx := [(h0, .inr (8, [.ref a1, .ref a2, .ref a3, .ref a4, .ref a5, .ref a6, .ref a7, .ref a8, .ref a9, .int j_faultKind, .int j_horseCount, .int j_tabletCount, .int j_riderCount, .int j_lineLength, .int j_hour]))]) [0] (by decide) rfl
              have hKc := hK
              refine cs_i (va_runV (As := [.int (nI k)]) (rest := [.int (nI k), .ref a3]) ⟨hx, hb, hml, hown, hts⟩ (e_X8_horsesAt l dC dI cs L ka ix ad n0 n6 n2 S8 f_35 gq h0 a1 a2 a3 a4 a5 a6 a7 a8 a9 j_faultKind j_horseCount j_tabletCount j_riderCount j_lineLength j_hour (nI k) H.size hT hY) (cwV 1 hts gX8_leading_X8_horsesAt rfl rfl rfl (by decide +kernel) ⟨Nat.le_of_ble_eq_true rfl, Nat.le_of_ble_eq_true rfl⟩) ⟨c_blind, va_recv hKc hPc (ci := 8) (q0 := 0) rfl rfl, c_pre hPc hKc hDc hN⟩ rfl rfl hl.1 rfl (lv_room (Nat.le_of_ble_eq_true rfl)) dX8_leading_58 ⟨Nat.le_of_ble_eq_true rfl, Nat.le_of_ble_eq_true rfl⟩) (fun r_50 hr_50 => ?_)
              subst hr_50
              refine lv_iload_n hx hb dX8_leading_61 rfl (lv_at hl 1 rfl) ?_
              refine lv_isub hx hb dX8_leading_62 ?_
              have hPc := hP.part (cx := []) [] rfl
              have hDc := hD.part (cx := []) [] (by decide) rfl
              have hKc := hK
              have hFc := va_freeP (cx := []) hD hS hA [] rfl
              have hf_51 : f_35 a3 = .inr (1, [.ref (ad 41 0), .ref (ad 42 0), .ref (ad 43 0), .ref (ad 44 0)]) := hT.get hY.2.1
              obtain ⟨q_52, hq_52⟩ := pl_at (X := []) (f := f_35) (e := .inr (1, [.ref (ad 41 0), .ref (ad 42 0), .ref (ad 43 0), .ref (ad 44 0)])) hY.2.1.1 hf_51
              refine va_callv (va_runV (As := [.int (nI k), .int ((nI (cn (pH S8 (nI k)) n0)) - r_48)]) (rest := []) ⟨hx, hb, hml, hown, hts⟩ (e_X1_setSpare l dC dI cs L ka ix ad n0 n6 n2 S8 f_35 a3 (nI k) ((nI (cn (pH S8 (nI k)) n0)) - r_48) H.size hT hY.2.1) (cwV 2 hts gX8_leading_X1_setSpare rfl rfl rfl (by decide +kernel) ⟨Nat.le_of_ble_eq_true rfl, Nat.le_of_ble_eq_true rfl⟩) ⟨c_blind, va_recv hKc hPc (ci := 1) (q0 := q_52) rfl hq_52, c_pre hPc hKc hDc hN⟩ rfl rfl hl.1 rfl (lv_room (Nat.le_of_ble_eq_true rfl)) dX8_leading_63 ⟨Nat.le_of_ble_eq_true rfl, Nat.le_of_ble_eq_true rfl⟩) hS (fun q _ h => hFc q h) hFc (fun u9 t9 H1 locs ht hvm hw hB hz1 hk1 hS => ?_)
              obtain ⟨S_54, f_55, hf_x_56, hf_x_57, hP1, hK1, hD1⟩ := hB
              rw [ht] at hP1
              have hK1 := va_K.moved hvm.symm hK1
              obtain ⟨hP, hD⟩ := va_joinP (X := [(h0, .inr (8, [.ref a1, .ref a2, .ref a3, .ref a4, .ref a5, .ref a6, .ref a7, .ref a8, .ref a9, .int j_faultKind, .int j_horseCount, .int j_tabletCount, .int j_riderCount, .int j_lineLength, .int j_hour])), (a1, .inr (7, [.ref b1, .int i_len])), (b1, .inl (cs 0, 200, .inl a_b))]) (cx := []) (wr := [(h0, .inr (8, [.ref a1, .ref a2, .ref a3, .ref a4, .ref a5, .ref a6, .ref a7, .ref a8, .ref a9, .int j_faultKind, .int j_horseCount, .int j_tabletCount, .int j_riderCount, .int j_lineLength, .int j_hour])), (a1, .inr (7, [.ref b1, .int i_len])), (b1, .inl (cs 0, 200, .inl a_b))]) (rx := []) (pl := va_pl L f_35) (pl1 := va_pl L f_55) hP hD [] [0, 1, 2] rfl rfl (by decide) (by decide) hk1 hFc hP1 hD1
              have hT := hf_x_56
              generalize H1 = H at hP hS ⊢
              have hP : va_P (dC, dI) vwCl ([(h0, .inr (8, [.ref a1, .ref a2, .ref a3, .ref a4, .ref a5, .ref a6, .ref a7, .ref a8, .ref a9, .int j_faultKind, .int j_horseCount, .int j_tabletCount, .int j_riderCount, .int j_lineLength, .int j_hour])), (a1, .inr (7, [.ref b1, .int i_len])), (b1, .inl (cs 0, 200, .inl a_b))] ++ va_pl L f_55) H := hP
              have hD : va_D A ([(h0, .inr (8, [.ref a1, .ref a2, .ref a3, .ref a4, .ref a5, .ref a6, .ref a7, .ref a8, .ref a9, .int j_faultKind, .int j_horseCount, .int j_tabletCount, .int j_riderCount, .int j_lineLength, .int j_hour])), (a1, .inr (7, [.ref b1, .int i_len])), (b1, .inl (cs 0, 200, .inl a_b))] ++ va_pl L f_55) := hD
              have hFr_58 := AG.tr hFrS8 hf_x_57
              refine W.widen (k := 0) (n := 0) (Nat.le_of_ble_eq_true rfl) (Nat.le_of_ble_eq_true rfl) ?_
              refine lv_iinc (v := nI (k + 1)) (lv' := [(2, .int (nI (k + 1))), (1, .int 0), (3, .int r_48), (0, .ref h0)]) hx hb dX8_leading_66 hl (k := 3) rfl (by exact (nI_1 k)) (by decide) rfl (fun ls hl => ?_)
              refine lv_goto (tgt := 20) hx hb dX8_leading_69 (by decide) ?_
              exact ih (k + 1) 0 S_54 (by omega) (by omega) hFr_58 _ _ _ hT (hP.part (cx := _) [0, 1, 2] rfl) (hD.part (cx := _) [0, 1, 2] (by decide) rfl) hS ls (lv_sub hl [3, 1, 0] rfl)
            · refine lv_iconst (v := 1) hx hb dX8_leading_45 (by decide) ?_
              refine lv_goto (tgt := 50) hx hb dX8_leading_46 (by decide) ?_
              refine lv_istore_n (lv' := [(1, .int 1), (3, .int r_48), (0, .ref h0), (2, .int (nI k))]) hx hb dX8_leading_50 rfl hl (by decide) rfl (fun ls hl => ?_)
              refine lv_aload_n hx hb dX8_leading_51 rfl (lv_at hl 2 rfl) ?_
              refine va_get (D := (dC, dI)) (ci := 8) (v := .ref a3) (C := RX8) (T := TX8) (N := 15) hx hb hts hin8 hown hK hP 0 rfl rfl 2 (by decide) (hts (.fieldLink RX8 26 "YamRiders" "leader" "LYamRiders$Leader;") (by decide +kernel)) (fun _ h9 => h9) rfl dX8_leading_52 ?_
              refine lv_iload_n hx hb dX8_leading_55 rfl (lv_at hl 3 rfl) ?_
              refine lv_aload_n hx hb dX8_leading_56 rfl (lv_at hl 2 rfl) ?_
              refine lv_iload_n hx hb dX8_leading_57 rfl (lv_at hl 3 rfl) ?_
              have hPc := hP.part (cx := [(h0, .inr (8, [.ref a1, .ref a2, .ref a3, .ref a4, .ref a5, .ref a6, .ref a7, .ref a8, .ref a9, .int j_faultKind, .int j_horseCount, .int j_tabletCount, .int j_riderCount, .int j_lineLength, .int j_hour]))]) [0] rfl
              have hDc := hD.part (cx := [(h0, .inr (8, [.ref a1, .ref a2, .ref a3, .ref a4, .ref a5, .ref a6, .ref a7, .ref a8, .ref a9, .int j_faultKind, .int j_horseCount, .int j_tabletCount, .int j_riderCount, .int j_lineLength, .int j_hour]))]) [0] (by decide) rfl
              have hKc := hK
              refine cs_i (va_runV (As := [.int (nI k)]) (rest := [.int (nI k), .ref a3]) ⟨hx, hb, hml, hown, hts⟩ (e_X8_horsesAt l dC dI cs L ka ix ad n0 n6 n2 S8 f_35 gq h0 a1 a2 a3 a4 a5 a6 a7 a8 a9 j_faultKind j_horseCount j_tabletCount j_riderCount j_lineLength j_hour (nI k) H.size hT hY) (cwV 1 hts gX8_leading_X8_horsesAt rfl rfl rfl (by decide +kernel) ⟨Nat.le_of_ble_eq_true rfl, Nat.le_of_ble_eq_true rfl⟩) ⟨c_blind, va_recv hKc hPc (ci := 8) (q0 := 0) rfl rfl, c_pre hPc hKc hDc hN⟩ rfl rfl hl.1 rfl (lv_room (Nat.le_of_ble_eq_true rfl)) dX8_leading_58 ⟨Nat.le_of_ble_eq_true rfl, Nat.le_of_ble_eq_true rfl⟩) (fun r_59 hr_59 => ?_)
              subst hr_59
              refine lv_iload_n hx hb dX8_leading_61 rfl (lv_at hl 1 rfl) ?_
              refine lv_isub hx hb dX8_leading_62 ?_
              have hPc := hP.part (cx := []) [] rfl
              have hDc := hD.part (cx := []) [] (by decide) rfl
              have hKc := hK
              have hFc := va_freeP (cx := []) hD hS hA [] rfl
              have hf_60 : f_35 a3 = .inr (1, [.ref (ad 41 0), .ref (ad 42 0), .ref (ad 43 0), .ref (ad 44 0)]) := hT.get hY.2.1
              obtain ⟨q_61, hq_61⟩ := pl_at (X := []) (f := f_35) (e := .inr (1, [.ref (ad 41 0), .ref (ad 42 0), .ref (ad 43 0), .ref (ad 44 0)])) hY.2.1.1 hf_60
              refine va_callv (va_runV (As := [.int (nI k), .int ((nI (cn (pH S8 (nI k)) n0)) - r_48)]) (rest := []) ⟨hx, hb, hml, hown, hts⟩ (e_X1_setSpare l dC dI cs L ka ix ad n0 n6 n2 S8 f_35 a3 (nI k) ((nI (cn (pH S8 (nI k)) n0)) - r_48) H.size hT hY.2.1) (cwV 2 hts gX8_leading_X1_setSpare rfl rfl rfl (by decide +kernel) ⟨Nat.le_of_ble_eq_true rfl, Nat.le_of_ble_eq_true rfl⟩) ⟨c_blind, va_recv hKc hPc (ci := 1) (q0 := q_61) rfl hq_61, c_pre hPc hKc hDc hN⟩ rfl rfl hl.1 rfl (lv_room (Nat.le_of_ble_eq_true rfl)) dX8_leading_63 ⟨Nat.le_of_ble_eq_true rfl, Nat.le_of_ble_eq_true rfl⟩) hS (fun q _ h => hFc q h) hFc (fun u9 t9 H1 locs ht hvm hw hB hz1 hk1 hS => ?_)
              obtain ⟨S_63, f_64, hf_x_65, hf_x_66, hP1, hK1, hD1⟩ := hB
              rw [ht] at hP1
              have hK1 := va_K.moved hvm.symm hK1
              obtain ⟨hP, hD⟩ := va_joinP (X := [(h0, .inr (8, [.ref a1, .ref a2, .ref a3, .ref a4, .ref a5, .ref a6, .ref a7, .ref a8, .ref a9, .int j_faultKind, .int j_horseCount, .int j_tabletCount, .int j_riderCount, .int j_lineLength, .int j_hour])), (a1, .inr (7, [.ref b1, .int i_len])), (b1, .inl (cs 0, 200, .inl a_b))]) (cx := []) (wr := [(h0, .inr (8, [.ref a1, .ref a2, .ref a3, .ref a4, .ref a5, .ref a6, .ref a7, .ref a8, .ref a9, .int j_faultKind, .int j_horseCount, .int j_tabletCount, .int j_riderCount, .int j_lineLength, .int j_hour])), (a1, .inr (7, [.ref b1, .int i_len])), (b1, .inl (cs 0, 200, .inl a_b))]) (rx := []) (pl := va_pl L f_35) (pl1 := va_pl L f_64) hP hD [] [0, 1, 2] rfl rfl (by decide) (by decide) hk1 hFc hP1 hD1
              have hT := hf_x_65
              generalize H1 = H at hP hS ⊢
              have hP : va_P (dC, dI) vwCl ([(h0, .inr (8, [.ref a1, .ref a2, .ref a3, .ref a4, .ref a5, .ref a6, .ref a7, .ref a8, .ref a9, .int j_faultKind, .int j_horseCount, .int j_tabletCount, .int j_riderCount, .int j_lineLength, .int j_hour])), (a1, .inr (7, [.ref b1, .int i_len])), (b1, .inl (cs 0, 200, .inl a_b))] ++ va_pl L f_64) H := hP
              have hD : va_D A ([(h0, .inr (8, [.ref a1, .ref a2, .ref a3, .ref a4, .ref a5, .ref a6, .ref a7, .ref a8, .ref a9, .int j_faultKind, .int j_horseCount, .int j_tabletCount, .int j_riderCount, .int j_lineLength, .int j_hour])), (a1, .inr (7, [.ref b1, .int i_len])), (b1, .inl (cs 0, 200, .inl a_b))] ++ va_pl L f_64) := hD
              have hFr_67 := AG.tr hFrS8 hf_x_66
              refine W.widen (k := 0) (n := 0) (Nat.le_of_ble_eq_true rfl) (Nat.le_of_ble_eq_true rfl) ?_
              refine lv_iinc (v := nI (k + 1)) (lv' := [(2, .int (nI (k + 1))), (1, .int 1), (3, .int r_48), (0, .ref h0)]) hx hb dX8_leading_66 hl (k := 3) rfl (by exact (nI_1 k)) (by decide) rfl (fun ls hl => ?_)
              refine lv_goto (tgt := 20) hx hb dX8_leading_69 (by decide) ?_
              exact ih (k + 1) 1 S_63 (by omega) (by omega) hFr_67 _ _ _ hT (hP.part (cx := _) [0, 1, 2] rfl) (hD.part (cx := _) [0, 1, 2] (by decide) rfl) hS ls (lv_sub hl [3, 1, 0] rfl)
    exact HL 13 0 1 S (by omega) (by omega) AG.rf _ _ _ hT (hP.part (cx := _) [0, 1, 2] rfl) (hD.part (cx := _) [0, 1, 2] (by decide) rfl) hS ls (lv_sub hl [2, 1, 0] rfl)
