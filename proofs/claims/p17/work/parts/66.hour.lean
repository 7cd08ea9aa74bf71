set_option maxHeartbeats 4000000 in
set_option maxRecDepth 100000 in
theorem e_X8_careFor (l : Launch) (dC : Nat → ClassId) (dI : Nat → Nat → Nat) (cs : Nat → ClassId) (L : List Nat) (ka : Nat → Nat) (ix : Nat → Nat) (ad : Nat → Nat → Nat) (n0 : Nat) (n6 : Nat) (n2 : Nat) (S : Nat → Nat → Nat → Int32) (f : Nat → va_E) (gq : Nat) (i9 : Nat) (h0 : Nat) (a1 : Nat) (a2 : Nat) (a3 : Nat) (a4 : Nat) (a5 : Nat) (a6 : Nat) (a7 : Nat) (a8 : Nat) (a9 : Nat) (j_faultKind : Int32) (j_horseCount : Int32) (j_tabletCount : Int32) (j_riderCount : Int32) (j_lineLength : Int32) (j_hour : Int32) (e1 : Nat) (p1 : Int32) (sz : Nat) (hT : tB L ka ix ad cs n0 n6 n2 S f) (hY : yX L ka ix ad gq a2 a3 a4 a5 a6 a7 a8 a9) (hk_e1 : tpx L ka ix 0 i9 e1) (hlt_i9 : i9 < n0) (hs1 : ¬ sp_st p1 = 0) : Met l yX8_careFor wsX8_careFor ({ frames := 2, cells := 0, slots := 0, locals := 45 }) (va_Pc [.ref h0, .ref e1, .int p1] (cP dC dI ([(h0, .inr (8, [.ref a1, .ref a2, .ref a3, .ref a4, .ref a5, .ref a6, .ref a7, .ref a8, .ref a9, .int j_faultKind, .int j_horseCount, .int j_tabletCount, .int j_riderCount, .int j_lineLength, .int j_hour]))] ++ va_pl L f) (tyC cs) sz)) (va_Qv (fun (_ : Unit) => True) (fun (_ : Unit) t9 => ∃ (S2 : Nat → Nat → Nat → Int32) (f2 : Nat → va_E), (tB L ka ix ad cs n0 n6 n2 S2 f2) ∧ (FR S S2) ∧ (S2 = crS S gq i9 p1.toNatClampNeg) ∧ cQ dC dI ([(h0, .inr (8, [.ref a1, .ref a2, .ref a3, .ref a4, .ref a5, .ref a6, .ref a7, .ref a8, .ref a9, .int j_faultKind, .int j_horseCount, .int j_tabletCount, .int j_riderCount, .int j_lineLength, .int j_hour]))] ++ va_pl L f2) [] (va_A ([(h0, .inr (8, [.ref a1, .ref a2, .ref a3, .ref a4, .ref a5, .ref a6, .ref a7, .ref a8, .ref a9, .int j_faultKind, .int j_horseCount, .int j_tabletCount, .int j_riderCount, .int j_lineLength, .int j_hour]))] ++ va_pl L f) sz) t9) (va_A ([(h0, .inr (8, [.ref a1, .ref a2, .ref a3, .ref a4, .ref a5, .ref a6, .ref a7, .ref a8, .ref a9, .int j_faultKind, .int j_horseCount, .int j_tabletCount, .int j_riderCount, .int j_lineLength, .int j_hour]))] ++ va_pl L f) sz)) 0 0 (va_A ([(h0, .inr (8, [.ref a1, .ref a2, .ref a3, .ref a4, .ref a5, .ref a6, .ref a7, .ref a8, .ref a9, .int j_faultKind, .int j_horseCount, .int j_tabletCount, .int j_riderCount, .int j_lineLength, .int j_hour]))] ++ va_pl L f) sz) := by
  refine Met.ofW (cc := cX8_careFor) (maxL := 3) (ret := none) (by decide) rfl ?_
  intro p e s m args below meth c s₁ B hml hv
  obtain ⟨rfl, hsz, hP, hK, hD0, hN⟩ := hv
  have hx := B.exec
  have hb := B.bytes
  have hr := B.returns
  have hts := atoms_spec (ws := wsX8_careFor) B.pre
  have hown : s.vm.findClass RX8 = some m.cls := findClass_of_methodNamed B.named
  have hlocks := B.notSynchronized
  subst hsz
  have hin0 : ∀ w ∈ u_ws RX0 TX0 3, w ∈ wsX8_careFor := by decide +kernel
  have hin8 : ∀ w ∈ u_ws RX8 TX8 15, w ∈ wsX8_careFor := by decide +kernel
  have hD := hD0.self (sz := s.heap.size)
  generalize hAe : va_A ([(h0, .inr (8, [.ref a1, .ref a2, .ref a3, .ref a4, .ref a5, .ref a6, .ref a7, .ref a8, .ref a9, .int j_faultKind, .int j_horseCount, .int j_tabletCount, .int j_riderCount, .int j_lineLength, .int j_hour]))] ++ va_pl L f) s.heap.size = A at hD ⊢
  have hA : ∀ q : Nat, s.heap.size ≤ q → A q := fun q h => by rw [← hAe]; exact Or.inr h
  have hS : va_S A s.heap s.heap [] := va_S.rf
  have hP : va_P (dC, dI) vwCl ([(h0, .inr (8, [.ref a1, .ref a2, .ref a3, .ref a4, .ref a5, .ref a6, .ref a7, .ref a8, .ref a9, .int j_faultKind, .int j_horseCount, .int j_tabletCount, .int j_riderCount, .int j_lineLength, .int j_hour]))] ++ va_pl L f) s.heap := hP
  have hl := lv_entry ([.ref h0, .ref e1, .int p1]) (n := 3) (Nat.le_of_ble_eq_true rfl)
  rw [lg_entry_eq]
  generalize (lg_sl ([.ref h0, .ref e1, .int p1]) ++ List.replicate (3 - (lg_sl ([.ref h0, .ref e1, .int p1])).length) Slot.unset).toArray = ls at hl ⊢
  have hl : lv_has ls 3 [(0, .ref h0), (1, .ref e1), (2, .int p1)] := hl
  refine lv_aload_n hx hb dX8_careFor_0 rfl (lv_at hl 0 rfl) ?_
  refine va_get (D := (dC, dI)) (ci := 8) (v := .ref a4) (C := RX8) (T := TX8) (N := 15) hx hb hts hin8 hown hK hP 0 rfl rfl 3 (by decide) (hts (.fieldLink RX8 30 "YamRiders" "fodderAt" "[I") (by decide +kernel)) (fun _ h9 => h9) rfl dX8_careFor_1 ?_
  refine lv_iload_n hx hb dX8_careFor_4 rfl (lv_at hl 2 rfl) ?_
  obtain ⟨u_1, hu_1, rfl⟩ := st_of hs1
  have hf_2 : f a4 = .inl (cs 0, 12, .inl (S 480 0)) := hT.get hY.2.2.1
  obtain ⟨q_3, hq_3⟩ := pl_at (X := [(h0, .inr (8, [.ref a1, .ref a2, .ref a3, .ref a4, .ref a5, .ref a6, .ref a7, .ref a8, .ref a9, .int j_faultKind, .int j_horseCount, .int j_tabletCount, .int j_riderCount, .int j_lineLength, .int j_hour]))]) (f := f) (e := .inl (cs 0, 12, .inl (S 480 0))) hY.2.2.1.1 hf_2
  refine va_iald hx hb hK hP q_3 0 hq_3 rfl (vp_in_nI (by omega) (by omega)) dX8_careFor_5 ?_
  refine lv_topi (fun v_4 ev_4 => ?_)
  obtain rfl : v_4 = S 480 0 u_1 := ev_4.trans (by rw [(nI_clamp (by omega))])
  refine lv_if_le (tgt := 43) hx hb dX8_careFor_6 (by decide) (fun c_5 => ?_) (fun c_5 => ?_)
  · refine lv_aload_n hx hb dX8_careFor_43 rfl (lv_at hl 1 rfl) ?_
    refine lv_aload_n hx hb dX8_careFor_44 rfl (lv_at hl 0 rfl) ?_
    refine va_get (D := (dC, dI)) (ci := 8) (v := .ref a9) (C := RX8) (T := TX8) (N := 15) hx hb hts hin8 hown hK hP 0 rfl rfl 8 (by decide) (hts (.fieldLink RX8 58 "YamRiders" "law" "LYamRiders$Statutes;") (by decide +kernel)) (fun _ h9 => h9) rfl dX8_careFor_45 ?_
    have hPc := hP.part (cx := []) [] rfl
    have hDc := hD.part (cx := []) [] (by decide) rfl
    have hKc := hK
    have hf_6 : f a9 = .inr (5, [.ref (ad 14 gq)]) := hT.get hY.2.2.2.2.2.2.2.1
    obtain ⟨q_7, hq_7⟩ := pl_at (X := []) (f := f) (e := .inr (5, [.ref (ad 14 gq)])) hY.2.2.2.2.2.2.2.1.1 hf_6
    refine cs_i (va_runV (As := []) (rest := [.ref e1]) ⟨hx, hb, hml, hown, hts⟩ (e_X5_hunger l dC dI cs L ka ix ad n0 n6 n2 S f gq a9 s.heap.size hT hY.2.2.2.2.2.2.2.2 hY.2.2.2.2.2.2.2.1) (cwV 0 hts gX8_careFor_X5_hunger rfl rfl rfl (by decide +kernel) ⟨Nat.le_of_ble_eq_true rfl, Nat.le_of_ble_eq_true rfl⟩) ⟨c_blind, va_recv hKc hPc (ci := 5) (q0 := q_7) rfl hq_7, c_pre hPc hKc hDc hN⟩ rfl rfl hl.1 rfl (lv_room (Nat.le_of_ble_eq_true rfl)) dX8_careFor_48 ⟨Nat.le_of_ble_eq_true rfl, Nat.le_of_ble_eq_true rfl⟩) (fun r_8 hr_8 => ?_)
    subst hr_8
    have hPc := hP.part (cx := []) [] rfl
    have hDc := hD.part (cx := []) [] (by decide) rfl
    have hKc := hK
    have hFc := va_freeP (cx := []) hD hS hA [] rfl
    have hf_9 : f e1 = .inr (0, [.int (nI i9), .int (S 1 i9 0), .int (S 2 i9 0)]) := hT.get hk_e1
    obtain ⟨q_10, hq_10⟩ := pl_at (X := []) (f := f) (e := .inr (0, [.int (nI i9), .int (S 1 i9 0), .int (S 2 i9 0)])) hk_e1.1 hf_9
    refine va_callv (va_runV (As := [.int (S 224 gq 2)]) (rest := []) ⟨hx, hb, hml, hown, hts⟩ (e_X0_weaken l dC dI cs L ka ix ad n0 n6 n2 S f i9 e1 (S 224 gq 2) s.heap.size hT hk_e1 (by omega)) (cwV 1 hts gX8_careFor_X0_weaken rfl rfl rfl (by decide +kernel) ⟨Nat.le_of_ble_eq_true rfl, Nat.le_of_ble_eq_true rfl⟩) ⟨c_blind, va_recv hKc hPc (ci := 0) (q0 := q_10) rfl hq_10, c_pre hPc hKc hDc hN⟩ rfl rfl hl.1 rfl (lv_room (Nat.le_of_ble_eq_true rfl)) dX8_careFor_51 ⟨Nat.le_of_ble_eq_true rfl, Nat.le_of_ble_eq_true rfl⟩) hS (fun q _ h => hFc q h) hFc (fun u9 t9 H1 locs ht hvm hw hB hz1 hk1 hS => ?_)
    obtain ⟨S_12, f_13, hf_x_14, hf_x_15, hf_x_16, hP1, hK1, hD1⟩ := hB
    rw [ht] at hP1
    have hK1 := va_K.moved hvm.symm hK1
    obtain ⟨hP, hD⟩ := va_joinP (X := [(h0, .inr (8, [.ref a1, .ref a2, .ref a3, .ref a4, .ref a5, .ref a6, .ref a7, .ref a8, .ref a9, .int j_faultKind, .int j_horseCount, .int j_tabletCount, .int j_riderCount, .int j_lineLength, .int j_hour]))]) (cx := []) (wr := [(h0, .inr (8, [.ref a1, .ref a2, .ref a3, .ref a4, .ref a5, .ref a6, .ref a7, .ref a8, .ref a9, .int j_faultKind, .int j_horseCount, .int j_tabletCount, .int j_riderCount, .int j_lineLength, .int j_hour]))]) (rx := []) (pl := va_pl L f) (pl1 := va_pl L f_13) hP hD [] [0] rfl rfl (by decide) (by decide) hk1 hFc hP1 hD1
    have hT := hf_x_14
    generalize H1 = H at hP hS ⊢
    have hP : va_P (dC, dI) vwCl ([(h0, .inr (8, [.ref a1, .ref a2, .ref a3, .ref a4, .ref a5, .ref a6, .ref a7, .ref a8, .ref a9, .int j_faultKind, .int j_horseCount, .int j_tabletCount, .int j_riderCount, .int j_lineLength, .int j_hour]))] ++ va_pl L f_13) H := hP
    have hD : va_D A ([(h0, .inr (8, [.ref a1, .ref a2, .ref a3, .ref a4, .ref a5, .ref a6, .ref a7, .ref a8, .ref a9, .int j_faultKind, .int j_horseCount, .int j_tabletCount, .int j_riderCount, .int j_lineLength, .int j_hour]))] ++ va_pl L f_13) := hD
    have hFr_17 := FR.tr FR.rf hf_x_15
    refine W.widen (k := 0) (n := 0) (Nat.le_of_ble_eq_true rfl) (Nat.le_of_ble_eq_true rfl) ?_
    have hP9 := hP.part (cx := [(h0, .inr (8, [.ref a1, .ref a2, .ref a3, .ref a4, .ref a5, .ref a6, .ref a7, .ref a8, .ref a9, .int j_faultKind, .int j_horseCount, .int j_tabletCount, .int j_riderCount, .int j_lineLength, .int j_hour]))]) [0] rfl
    have hD9 := hD.part (cx := [(h0, .inr (8, [.ref a1, .ref a2, .ref a3, .ref a4, .ref a5, .ref a6, .ref a7, .ref a8, .ref a9, .int j_faultKind, .int j_horseCount, .int j_tabletCount, .int j_riderCount, .int j_lineLength, .int j_hour]))]) [0] (by decide) rfl
    have hK9 := hK.sub (tys' := []) [] rfl
    refine W.widen (k := 0) (n := 0) (Nat.le_of_ble_eq_true rfl) (Nat.le_of_ble_eq_true rfl) ?_
    exact W.vret hx hb hr (fun t9 ht hW => ⟨⟨(), rfl, trivial, S_12, f_13, hT, hFr_17, (by rw [nI_clamp (by omega)]; unfold crS; rw [if_pos c_5]; exact hf_x_16), by rw [ht]; exact hP9, va_K.moved hW.alike hK9, hD9⟩, hS.F ht⟩) hS.2.2 dX8_careFor_54
  · refine lv_aload_n hx hb dX8_careFor_9 rfl (lv_at hl 0 rfl) ?_
    refine va_get (D := (dC, dI)) (ci := 8) (v := .ref a4) (C := RX8) (T := TX8) (N := 15) hx hb hts hin8 hown hK hP 0 rfl rfl 3 (by decide) (hts (.fieldLink RX8 30 "YamRiders" "fodderAt" "[I") (by decide +kernel)) (fun _ h9 => h9) rfl dX8_careFor_10 ?_
    refine lv_iload_n hx hb dX8_careFor_13 rfl (lv_at hl 2 rfl) ?_
    refine lv_dup2_11 hx hb dX8_careFor_14 rfl rfl ?_
    obtain ⟨q_18, hq_18⟩ := pl_at (X := [(h0, .inr (8, [.ref a1, .ref a2, .ref a3, .ref a4, .ref a5, .ref a6, .ref a7, .ref a8, .ref a9, .int j_faultKind, .int j_horseCount, .int j_tabletCount, .int j_riderCount, .int j_lineLength, .int j_hour]))]) (f := f) (e := .inl (cs 0, 12, .inl (S 480 0))) hY.2.2.1.1 hf_2
    refine va_iald hx hb hK hP q_18 0 hq_18 rfl (vp_in_nI (by omega) (by omega)) dX8_careFor_15 ?_
    refine lv_topi (fun v_19 ev_19 => ?_)
    obtain rfl : v_19 = S 480 0 u_1 := ev_19.trans (by rw [(nI_clamp (by omega))])
    refine lv_iconst (v := 1) hx hb dX8_careFor_16 (by decide) ?_
    refine lv_isub hx hb dX8_careFor_17 ?_
    obtain ⟨q_20, hq_20⟩ := pl_at (X := [(h0, .inr (8, [.ref a1, .ref a2, .ref a3, .ref a4, .ref a5, .ref a6, .ref a7, .ref a8, .ref a9, .int j_faultKind, .int j_horseCount, .int j_tabletCount, .int j_riderCount, .int j_lineLength, .int j_hour]))]) (f := f) (e := .inl (cs 0, 12, .inl (S 480 0))) hY.2.2.1.1 hf_2
    refine va_iast hx hb hK hP hD hS q_20 0 hq_20 rfl (vp_in_nI (by omega) (by omega)) dX8_careFor_18 (fun H locs hP9 hD9 hS => ?_)
    have hs_21 := pl_st (.inl (cs 0, 12, .inl (upd (S 480 0) (nI u_1).toNatClampNeg ((S 480 0 u_1) - 1)))) hD hY.2.2.1.1 hf_2 hq_20
    have hP9 : va_P (dC, dI) vwCl ((([(h0, .inr (8, [.ref a1, .ref a2, .ref a3, .ref a4, .ref a5, .ref a6, .ref a7, .ref a8, .ref a9, .int j_faultKind, .int j_horseCount, .int j_tabletCount, .int j_riderCount, .int j_lineLength, .int j_hour]))] : va_W) ++ va_pl L f).set q_20 (a4, .inl (cs 0, 12, .inl (upd (S 480 0) (nI u_1).toNatClampNeg ((S 480 0 u_1) - 1))))) H := hP9
    have hD9 : va_D A ((([(h0, .inr (8, [.ref a1, .ref a2, .ref a3, .ref a4, .ref a5, .ref a6, .ref a7, .ref a8, .ref a9, .int j_faultKind, .int j_horseCount, .int j_tabletCount, .int j_riderCount, .int j_lineLength, .int j_hour]))] : va_W) ++ va_pl L f).set q_20 (a4, .inl (cs 0, 12, .inl (upd (S 480 0) (nI u_1).toNatClampNeg ((S 480 0 u_1) - 1))))) := hD9
    rw [hs_21] at hP9 hD9
    have hT := hT.up (c := 480) (j := u_1) (v := ((S 480 0 u_1) - 1)) (e := .inl (cs 0, 12, .inl (upd (S 480 0) (nI u_1).toNatClampNeg ((S 480 0 u_1) - 1)))) hY.2.2.1 rfl (hT.2.2.up (by decide) (by decide) (by decide)) (by simp only [EN]; rw [up3_a, (nI_clamp (by omega))])
    have hP := hP9
    have hD := hD9
    clear hP9 hD9 hs_21
    obtain ⟨S_23, eS_23⟩ : ∃ S9 : Nat → Nat → Nat → Int32, S9 = up3 S 480 0 u_1 ((S 480 0 u_1) - 1) := ⟨_, rfl⟩
    rw [← eS_23] at hT
    generalize va_up f a4 (.inl (cs 0, 12, .inl (upd (S 480 0) (nI u_1).toNatClampNeg ((S 480 0 u_1) - 1)))) = f_22 at hP hD hT
    have hFr_24 : FR S S_23 := by rw [eS_23]; exact FR.up FR.rf (by decide) (by decide)
    refine lv_aload_n hx hb dX8_careFor_19 rfl (lv_at hl 1 rfl) ?_
    refine lv_bipush (v := 100) hx hb dX8_careFor_20 (by decide) ?_
    refine lv_aload_n hx hb dX8_careFor_22 rfl (lv_at hl 1 rfl) ?_
    have hf_25 : f_22 e1 = .inr (0, [.int (nI i9), .int (S_23 1 i9 0), .int (S_23 2 i9 0)]) := hT.get hk_e1
    obtain ⟨q_26, hq_26⟩ := pl_at (X := [(h0, .inr (8, [.ref a1, .ref a2, .ref a3, .ref a4, .ref a5, .ref a6, .ref a7, .ref a8, .ref a9, .int j_faultKind, .int j_horseCount, .int j_tabletCount, .int j_riderCount, .int j_lineLength, .int j_hour]))]) (f := f_22) (e := .inr (0, [.int (nI i9), .int (S_23 1 i9 0), .int (S_23 2 i9 0)])) hk_e1.1 hf_25
    refine va_getN (D := (dC, dI)) (ci := 0) (v := .int (S_23 2 i9 0)) (C := RX0) (T := TX0) (N := 3) hx hb hts hin0 hown hK hP q_26 hq_26 rfl 2 (by decide) (hN.nx (.fieldLinkNest RX8 206 "YamRiders$Horse" "strength" "I" "YamRiders") (by decide +kernel)) (fun _ h9 => h9) rfl dX8_careFor_23 ?_
    refine lv_aload_n hx hb dX8_careFor_26 rfl (lv_at hl 0 rfl) ?_
    refine va_get (D := (dC, dI)) (ci := 8) (v := .ref a9) (C := RX8) (T := TX8) (N := 15) hx hb hts hin8 hown hK hP 0 rfl rfl 8 (by decide) (hts (.fieldLink RX8 58 "YamRiders" "law" "LYamRiders$Statutes;") (by decide +kernel)) (fun _ h9 => h9) rfl dX8_careFor_27 ?_
    have hPc := hP.part (cx := []) [] rfl
    have hDc := hD.part (cx := []) [] (by decide) rfl
    have hKc := hK
    have hf_27 : f_22 a9 = .inr (5, [.ref (ad 14 gq)]) := hT.get hY.2.2.2.2.2.2.2.1
    obtain ⟨q_28, hq_28⟩ := pl_at (X := []) (f := f_22) (e := .inr (5, [.ref (ad 14 gq)])) hY.2.2.2.2.2.2.2.1.1 hf_27
    refine cs_i (va_runV (As := []) (rest := [.int (S_23 2 i9 0), .int 100, .ref e1]) ⟨hx, hb, hml, hown, hts⟩ (e_X5_rest l dC dI cs L ka ix ad n0 n6 n2 S_23 f_22 gq a9 H.size hT hY.2.2.2.2.2.2.2.2 hY.2.2.2.2.2.2.2.1) (cwV 0 hts gX8_careFor_X5_rest rfl rfl rfl (by decide +kernel) ⟨Nat.le_of_ble_eq_true rfl, Nat.le_of_ble_eq_true rfl⟩) ⟨c_blind, va_recv hKc hPc (ci := 5) (q0 := q_28) rfl hq_28, c_pre hPc hKc hDc hN⟩ rfl rfl hl.1 rfl (lv_room (Nat.le_of_ble_eq_true rfl)) dX8_careFor_30 ⟨Nat.le_of_ble_eq_true rfl, Nat.le_of_ble_eq_true rfl⟩) (fun r_29 hr_29 => ?_)
    subst hr_29
    refine lv_iadd hx hb dX8_careFor_33 ?_
    refine va_mmin (x := 100) (y := (S_23 2 i9 0) + (S_23 224 gq 1)) hx hb (by rw [hml]; exact hl.1.symm) hown (hts (.methodLink RX8 248 Lib.Math.min.name) (by decide +kernel)) (hts (.static Lib.Math.min.name) (by decide +kernel)) (hts (.initialized "java/lang/Math") (by decide +kernel)) (hts (.code Lib.Math.min.name Lib.Math.min.code 2 (some .int)) (by decide +kernel)) (Nat.le_of_ble_eq_true rfl) (Nat.le_of_ble_eq_true rfl) (Nat.le_of_ble_eq_true rfl) (Nat.le_of_ble_eq_true rfl) dX8_careFor_34 ?_
    refine lv_topi (fun v_30 ev_30 => ?_)
    obtain ⟨q_31, hq_31⟩ := pl_at (X := [(h0, .inr (8, [.ref a1, .ref a2, .ref a3, .ref a4, .ref a5, .ref a6, .ref a7, .ref a8, .ref a9, .int j_faultKind, .int j_horseCount, .int j_tabletCount, .int j_riderCount, .int j_lineLength, .int j_hour]))]) (f := f_22) (e := .inr (0, [.int (nI i9), .int (S_23 1 i9 0), .int (S_23 2 i9 0)])) hk_e1.1 hf_25
    refine va_putN (D := (dC, dI)) (ci := 0) (v := .int v_30) (ty := (tyX0 2)) (C := RX0) (T := TX0) (N := 3) hx hb hts hin0 tyX0 tyX0_ok nmX0 hown hK hP hD hS q_31 hq_31 rfl 2 (by decide) (hN.nx (.fieldLinkNest RX8 206 "YamRiders$Horse" "strength" "I" "YamRiders") (by decide +kernel)) (fun _ h9 => h9) rfl (by decide +kernel) rfl rfl (Nat.le_of_ble_eq_true rfl) dX8_careFor_37 (fun H locs hP9 hD9 hS => ?_)
    have hs_32 := pl_st (.inr (0, [.int (nI i9), .int (S_23 1 i9 0), .int v_30])) hD hk_e1.1 hf_25 hq_31
    have hP9 : va_P (dC, dI) vwCl ((([(h0, .inr (8, [.ref a1, .ref a2, .ref a3, .ref a4, .ref a5, .ref a6, .ref a7, .ref a8, .ref a9, .int j_faultKind, .int j_horseCount, .int j_tabletCount, .int j_riderCount, .int j_lineLength, .int j_hour]))] : va_W) ++ va_pl L f_22).set q_31 (e1, .inr (0, [.int (nI i9), .int (S_23 1 i9 0), .int v_30]))) H := hP9
    have hD9 : va_D A ((([(h0, .inr (8, [.ref a1, .ref a2, .ref a3, .ref a4, .ref a5, .ref a6, .ref a7, .ref a8, .ref a9, .int j_faultKind, .int j_horseCount, .int j_tabletCount, .int j_riderCount, .int j_lineLength, .int j_hour]))] : va_W) ++ va_pl L f_22).set q_31 (e1, .inr (0, [.int (nI i9), .int (S_23 1 i9 0), .int v_30]))) := hD9
    rw [hs_32] at hP9 hD9
    have hT := hT.up (c := 2) (j := 0) (v := v_30) (e := .inr (0, [.int (nI i9), .int (S_23 1 i9 0), .int v_30])) hk_e1 rfl (hT.2.2.up (by decide) (by decide) (by decide)) (by simp [EN, up3])
    have hP := hP9
    have hD := hD9
    clear hP9 hD9 hs_32
    obtain ⟨S_34, eS_34⟩ : ∃ S9 : Nat → Nat → Nat → Int32, S9 = up3 S_23 2 i9 0 v_30 := ⟨_, rfl⟩
    rw [← eS_34] at hT
    generalize va_up f_22 e1 (.inr (0, [.int (nI i9), .int (S_23 1 i9 0), .int v_30])) = f_33 at hP hD hT
    have hFr_35 : FR S S_34 := by rw [eS_34]; exact FR.up hFr_24 (by decide) (by decide)
    refine lv_goto (tgt := 54) hx hb dX8_careFor_40 (by decide) ?_
    have hP9 := hP.part (cx := [(h0, .inr (8, [.ref a1, .ref a2, .ref a3, .ref a4, .ref a5, .ref a6, .ref a7, .ref a8, .ref a9, .int j_faultKind, .int j_horseCount, .int j_tabletCount, .int j_riderCount, .int j_lineLength, .int j_hour]))]) [0] rfl
    have hD9 := hD.part (cx := [(h0, .inr (8, [.ref a1, .ref a2, .ref a3, .ref a4, .ref a5, .ref a6, .ref a7, .ref a8, .ref a9, .int j_faultKind, .int j_horseCount, .int j_tabletCount, .int j_riderCount, .int j_lineLength, .int j_hour]))]) [0] (by decide) rfl
    have hK9 := hK.sub (tys' := []) [] rfl
    refine W.widen (k := 0) (n := 0) (Nat.le_of_ble_eq_true rfl) (Nat.le_of_ble_eq_true rfl) ?_
    exact W.vret hx hb hr (fun t9 ht hW => ⟨⟨(), rfl, trivial, S_34, f_33, hT, hFr_35, (by rw [nI_clamp (by omega)]; unfold crS; rw [if_neg c_5]; unfold cr2; rw [eS_34, ev_30, eS_23]), by rw [ht]; exact hP9, va_K.moved hW.alike hK9, hD9⟩, hS.F ht⟩) hS.2.2 dX8_careFor_54

set_option maxHeartbeats 4000000 in
set_option maxRecDepth 100000 in
theorem e_X8_careForHorses (l : Launch) (dC : Nat → ClassId) (dI : Nat → Nat → Nat) (cs : Nat → ClassId) (L : List Nat) (ka : Nat → Nat) (ix : Nat → Nat) (ad : Nat → Nat → Nat) (n0 : Nat) (n6 : Nat) (n2 : Nat) (S : Nat → Nat → Nat → Int32) (f : Nat → va_E) (gq : Nat) (h0 : Nat) (a1 : Nat) (a2 : Nat) (a3 : Nat) (a4 : Nat) (a5 : Nat) (a6 : Nat) (a7 : Nat) (a8 : Nat) (a9 : Nat) (j_faultKind : Int32) (j_horseCount : Int32) (j_tabletCount : Int32) (j_riderCount : Int32) (j_lineLength : Int32) (j_hour : Int32) (sz : Nat) (hT : tB L ka ix ad cs n0 n6 n2 S f) (hY : yX L ka ix ad gq a2 a3 a4 a5 a6 a7 a8 a9) : Met l yX8_careForHorses wsX8_careForHorses ({ frames := 3, cells := 0, slots := 0, locals := 67 }) (va_Pc [.ref h0] (cP dC dI ([(h0, .inr (8, [.ref a1, .ref a2, .ref a3, .ref a4, .ref a5, .ref a6, .ref a7, .ref a8, .ref a9, .int j_faultKind, .int j_horseCount, .int j_tabletCount, .int j_riderCount, .int j_lineLength, .int j_hour]))] ++ va_pl L f) (tyC cs) sz)) (va_Qv (fun (_ : Unit) => True) (fun (_ : Unit) t9 => ∃ (S2 : Nat → Nat → Nat → Int32) (f2 : Nat → va_E), (tB L ka ix ad cs n0 n6 n2 S2 f2) ∧ (FR S S2) ∧ (S2 = crK S gq n0 60) ∧ cQ dC dI ([(h0, .inr (8, [.ref a1, .ref a2, .ref a3, .ref a4, .ref a5, .ref a6, .ref a7, .ref a8, .ref a9, .int j_faultKind, .int j_horseCount, .int j_tabletCount, .int j_riderCount, .int j_lineLength, .int j_hour]))] ++ va_pl L f2) [] (va_A ([(h0, .inr (8, [.ref a1, .ref a2, .ref a3, .ref a4, .ref a5, .ref a6, .ref a7, .ref a8, .ref a9, .int j_faultKind, .int j_horseCount, .int j_tabletCount, .int j_riderCount, .int j_lineLength, .int j_hour]))] ++ va_pl L f) sz) t9) (va_A ([(h0, .inr (8, [.ref a1, .ref a2, .ref a3, .ref a4, .ref a5, .ref a6, .ref a7, .ref a8, .ref a9, .int j_faultKind, .int j_horseCount, .int j_tabletCount, .int j_riderCount, .int j_lineLength, .int j_hour]))] ++ va_pl L f) sz)) 0 0 (va_A ([(h0, .inr (8, [.ref a1, .ref a2, .ref a3, .ref a4, .ref a5, .ref a6, .ref a7, .ref a8, .ref a9, .int j_faultKind, .int j_horseCount, .int j_tabletCount, .int j_riderCount, .int j_lineLength, .int j_hour]))] ++ va_pl L f) sz) := by
  refine Met.ofW (cc := cX8_careForHorses) (maxL := 5) (ret := none) (by decide) rfl ?_
  intro p e s m args below meth c s₁ B hml hv
  obtain ⟨rfl, hsz, hP, hK, hD0, hN⟩ := hv
  have hx := B.exec
  have hb := B.bytes
  have hr := B.returns
  have hts := atoms_spec (ws := wsX8_careForHorses) B.pre
  have hown : s.vm.findClass RX8 = some m.cls := findClass_of_methodNamed B.named
  have hlocks := B.notSynchronized
  subst hsz
  have hin0 : ∀ w ∈ u_ws RX0 TX0 3, w ∈ wsX8_careForHorses := by decide +kernel
  have hin8 : ∀ w ∈ u_ws RX8 TX8 15, w ∈ wsX8_careForHorses := by decide +kernel
  have hD := hD0.self (sz := s.heap.size)
  generalize hAe : va_A ([(h0, .inr (8, [.ref a1, .ref a2, .ref a3, .ref a4, .ref a5, .ref a6, .ref a7, .ref a8, .ref a9, .int j_faultKind, .int j_horseCount, .int j_tabletCount, .int j_riderCount, .int j_lineLength, .int j_hour]))] ++ va_pl L f) s.heap.size = A at hD ⊢
  have hA : ∀ q : Nat, s.heap.size ≤ q → A q := fun q h => by rw [← hAe]; exact Or.inr h
  have hS : va_S A s.heap s.heap [] := va_S.rf
  have hP : va_P (dC, dI) vwCl ([(h0, .inr (8, [.ref a1, .ref a2, .ref a3, .ref a4, .ref a5, .ref a6, .ref a7, .ref a8, .ref a9, .int j_faultKind, .int j_horseCount, .int j_tabletCount, .int j_riderCount, .int j_lineLength, .int j_hour]))] ++ va_pl L f) s.heap := hP
  have hl := lv_entry ([.ref h0]) (n := 5) (Nat.le_of_ble_eq_true rfl)
  rw [lg_entry_eq]
  generalize (lg_sl ([.ref h0]) ++ List.replicate (5 - (lg_sl ([.ref h0])).length) Slot.unset).toArray = ls at hl ⊢
  have hl : lv_has ls 5 [(0, .ref h0)] := hl
  refine lv_aload_n hx hb dX8_careForHorses_0 rfl (lv_at hl 0 rfl) ?_
  refine va_get (D := (dC, dI)) (ci := 8) (v := .ref a5) (C := RX8) (T := TX8) (N := 15) hx hb hts hin8 hown hK hP 0 rfl rfl 4 (by decide) (hts (.fieldLink RX8 36 "YamRiders" "horses" "[LYamRiders$Horse;") (by decide +kernel)) (fun _ h9 => h9) rfl dX8_careForHorses_1 ?_
  refine lv_astore_n (lv' := [(1, .ref a5), (0, .ref h0)]) hx hb dX8_careForHorses_4 rfl hl (by decide) rfl (fun ls hl => ?_)
  refine lv_aload_n hx hb dX8_careForHorses_5 rfl (lv_at hl 0 rfl) ?_
  have hf_1 : f a5 = .inl (cs 3, 60, .inr (.inr (.inr (.inr (gl ad 0 n0))))) := hT.get hY.2.2.2.1
  obtain ⟨q_2, hq_2⟩ := pl_at (X := [(h0, .inr (8, [.ref a1, .ref a2, .ref a3, .ref a4, .ref a5, .ref a6, .ref a7, .ref a8, .ref a9, .int j_faultKind, .int j_horseCount, .int j_tabletCount, .int j_riderCount, .int j_lineLength, .int j_hour]))]) (f := f) (e := .inl (cs 3, 60, .inr (.inr (.inr (.inr (gl ad 0 n0)))))) hY.2.2.2.1.1 hf_1
  refine va_alen (v := 60) hx hb hK hP q_2 3 hq_2 rfl rfl dX8_careForHorses_6 ?_
  refine lv_istore_n (lv' := [(2, .int 60), (1, .ref a5), (0, .ref h0)]) hx hb dX8_careForHorses_7 rfl hl (by decide) rfl (fun ls hl => ?_)
  refine lv_iconst (v := 0) hx hb dX8_careForHorses_8 (by decide) ?_
  refine lv_istore_n (lv' := [(3, .int 0), (2, .int 60), (1, .ref a5), (0, .ref h0)]) hx hb dX8_careForHorses_9 rfl hl (by decide) rfl (fun ls hl => ?_)
  have HL : ∀ (n k : Nat) (S8 : Nat → Nat → Nat → Int32), k ≤ 60 → 60 + 1 ≤ k + n → (FR S S8) → (S8 = crK S gq n0 k) → ∀ (f_3 : Nat → va_E) (H : Heap) (locs : List Loc), tB L ka ix ad cs n0 n6 n2 S8 f_3 → va_P (dC, dI) vwCl ([(h0, .inr (8, [.ref a1, .ref a2, .ref a3, .ref a4, .ref a5, .ref a6, .ref a7, .ref a8, .ref a9, .int j_faultKind, .int j_horseCount, .int j_tabletCount, .int j_riderCount, .int j_lineLength, .int j_hour]))] ++ va_pl L f_3) H → va_D A ([(h0, .inr (8, [.ref a1, .ref a2, .ref a3, .ref a4, .ref a5, .ref a6, .ref a7, .ref a8, .ref a9, .int j_faultKind, .int j_horseCount, .int j_tabletCount, .int j_riderCount, .int j_lineLength, .int j_hour]))] ++ va_pl L f_3) → va_S A s.heap H locs → ∀ ls : Array Slot, lv_has ls 5 [(0, .ref h0), (1, .ref a5), (2, .int 60), (3, .int (nI k))] → W p l e (headSpec wsX8_careForHorses ({ frames := 3, cells := 0, slots := 0, locals := 67 })).room s m ([.ref h0]).toArray below meth c H locs 0 0 (MQ below (va_Qv (fun (_ : Unit) => True) (fun (_ : Unit) t9 => ∃ (S2 : Nat → Nat → Nat → Int32) (f2 : Nat → va_E), (tB L ka ix ad cs n0 n6 n2 S2 f2) ∧ (FR S S2) ∧ (S2 = crK S gq n0 60) ∧ cQ dC dI ([(h0, .inr (8, [.ref a1, .ref a2, .ref a3, .ref a4, .ref a5, .ref a6, .ref a7, .ref a8, .ref a9, .int j_faultKind, .int j_horseCount, .int j_tabletCount, .int j_riderCount, .int j_lineLength, .int j_hour]))] ++ va_pl L f2) [] A t9) A) ([.ref h0]).toArray s 0 0 A) (F0 m 10 ls []) := by
    intro n
    induction n with
    | zero => intro k S8 h1 h2; exact absurd h2 (by omega)
    | succ n ih =>
      intro k S8 hk hn hFrS8 hit f_3 H locs hT hP hD hS ls hl
      refine lv_iload_n hx hb dX8_careForHorses_10 rfl (lv_at hl 3 rfl) ?_
      refine lv_iload_n hx hb dX8_careForHorses_11 rfl (lv_at hl 2 rfl) ?_
      refine lv_icmp_ge (tgt := 53) hx hb dX8_careForHorses_12 (by decide) (fun c_4 => ?_) (fun c_4 => ?_)
      · have hke : k = 60 := by
          rcases Nat.lt_or_ge k 60 with q | q
          · exact absurd c_4 (nI_ge q (by decide))
          · omega
        have hP9 := hP.part (cx := [(h0, .inr (8, [.ref a1, .ref a2, .ref a3, .ref a4, .ref a5, .ref a6, .ref a7, .ref a8, .ref a9, .int j_faultKind, .int j_horseCount, .int j_tabletCount, .int j_riderCount, .int j_lineLength, .int j_hour]))]) [0] rfl
        have hD9 := hD.part (cx := [(h0, .inr (8, [.ref a1, .ref a2, .ref a3, .ref a4, .ref a5, .ref a6, .ref a7, .ref a8, .ref a9, .int j_faultKind, .int j_horseCount, .int j_tabletCount, .int j_riderCount, .int j_lineLength, .int j_hour]))]) [0] (by decide) rfl
        have hK9 := hK.sub (tys' := []) [] rfl
        refine W.widen (k := 0) (n := 0) (Nat.le_of_ble_eq_true rfl) (Nat.le_of_ble_eq_true rfl) ?_
        exact W.vret hx hb hr (fun t9 ht hW => ⟨⟨(), rfl, trivial, S8, f_3, hT, hFrS8, (hke ▸ hit), by rw [ht]; exact hP9, va_K.moved hW.alike hK9, hD9⟩, hS.F ht⟩) hS.2.2 dX8_careForHorses_53
      · have hlt : k < 60 := by
          rcases Nat.lt_or_ge k 60 with q | q
          · exact q
          · exact absurd (show nI 60 ≤ nI k from nI_le q (by omega)) c_4
        refine lv_aload_n hx hb dX8_careForHorses_15 rfl (lv_at hl 1 rfl) ?_
        refine lv_iload_n hx hb dX8_careForHorses_16 rfl (lv_at hl 3 rfl) ?_
        have hf_5 : f_3 a5 = .inl (cs 3, 60, .inr (.inr (.inr (.inr (gl ad 0 n0))))) := hT.get hY.2.2.2.1
        obtain ⟨q_6, hq_6⟩ := pl_at (X := [(h0, .inr (8, [.ref a1, .ref a2, .ref a3, .ref a4, .ref a5, .ref a6, .ref a7, .ref a8, .ref a9, .int j_faultKind, .int j_horseCount, .int j_tabletCount, .int j_riderCount, .int j_lineLength, .int j_hour]))]) (f := f_3) (e := .inl (cs 3, 60, .inr (.inr (.inr (.inr (gl ad 0 n0)))))) hY.2.2.2.1.1 hf_5
        refine va_aldq hx hb hK hP q_6 3 hq_6 rfl (vp_in_nI (by omega) (by omega)) dX8_careForHorses_17 ?_
        by_cases c_7 : k < n0
        · rw [show gl ad 0 n0 (nI k).toNatClampNeg = some (ad 0 k) from by rw [(nI_clamp (by omega))]; exact gl_p c_7]
          refine W.eq (g2 := F0 m 18 ls [.ref (ad 0 k)]) rfl ?_
          refine lv_astore (lv' := [(4, .ref (ad 0 k)), (0, .ref h0), (1, .ref a5), (2, .int 60), (3, .int (nI k))]) hx hb dX8_careForHorses_18 hl (by decide) rfl (fun ls hl => ?_)
          refine lv_aload hx hb dX8_careForHorses_20 (lv_at hl 0 rfl) ?_
          refine lv_ifnull hx hb dX8_careForHorses_22 ?_
          refine lv_aload hx hb dX8_careForHorses_25 (lv_at hl 0 rfl) ?_
          have hf_8 : f_3 (ad 0 k) = .inr (0, [.int (nI k), .int (S8 1 k 0), .int (S8 2 k 0)]) := hT.get (hT.k0 (i := k) (by omega))
          obtain ⟨q_9, hq_9⟩ := pl_at (X := [(h0, .inr (8, [.ref a1, .ref a2, .ref a3, .ref a4, .ref a5, .ref a6, .ref a7, .ref a8, .ref a9, .int j_faultKind, .int j_horseCount, .int j_tabletCount, .int j_riderCount, .int j_lineLength, .int j_hour]))]) (f := f_3) (e := .inr (0, [.int (nI k), .int (S8 1 k 0), .int (S8 2 k 0)])) (hT.k0 (i := k) (by omega)).1 hf_8
          refine va_getN (D := (dC, dI)) (ci := 0) (v := .int (S8 1 k 0)) (C := RX0) (T := TX0) (N := 3) hx hb hts hin0 hown hK hP q_9 hq_9 rfl 1 (by decide) (hN.nx (.fieldLinkNest RX8 209 "YamRiders$Horse" "station" "I" "YamRiders") (by decide +kernel)) (fun _ h9 => h9) rfl dX8_careForHorses_27 ?_
          have hPc := hP.sub (ws' := []) [] rfl
          have hDc := hD.sub (ws' := []) [] (by decide) rfl
          have hKc := hK.sub (tys' := []) [] rfl
          refine cs_i (va_runS (As := [.int (S8 1 k 0)]) (rest := []) ⟨hx, hb, hml, hown, hts⟩ (c_X8_isStation l dC dI (S8 1 k 0) H.size) (va_cwS 1 hts gX8_careForHorses_X8_isStation rfl rfl rfl (by decide +kernel) ⟨Nat.le_of_ble_eq_true rfl, Nat.le_of_ble_eq_true rfl⟩) ⟨c_blind, c_pre hPc hKc hDc hN⟩ rfl rfl hl.1 rfl (lv_room (Nat.le_of_ble_eq_true rfl)) dX8_careForHorses_30 ⟨Nat.le_of_ble_eq_true rfl, Nat.le_of_ble_eq_true rfl⟩) (fun r_10 hr_10 => ?_)
          subst hr_10
          refine lv_if_eq (tgt := 47) hx hb dX8_careForHorses_33 (by decide) (fun c_11 => ?_) (fun c_11 => ?_)
          · refine lv_iinc (v := nI (k + 1)) (lv' := [(3, .int (nI (k + 1))), (4, .ref (ad 0 k)), (0, .ref h0), (1, .ref a5), (2, .int 60)]) hx hb dX8_careForHorses_47 hl (k := 4) rfl (by exact (nI_1 k)) (by decide) rfl (fun ls hl => ?_)
            refine lv_goto (tgt := 10) hx hb dX8_careForHorses_50 (by decide) ?_
            exact ih (k + 1) S8 (by omega) (by omega) hFrS8 (crK_s hit (by unfold cr1; rw [if_pos c_7, if_pos c_11])) _ _ _ hT (hP.part (cx := _) [0] rfl) (hD.part (cx := _) [0] (by decide) rfl) hS ls (lv_sub hl [2, 3, 4, 0] rfl)
          · refine lv_aload_n hx hb dX8_careForHorses_36 rfl (lv_at hl 1 rfl) ?_
            refine lv_aload hx hb dX8_careForHorses_37 (lv_at hl 0 rfl) ?_
            refine lv_aload hx hb dX8_careForHorses_39 (lv_at hl 0 rfl) ?_
            obtain ⟨q_12, hq_12⟩ := pl_at (X := [(h0, .inr (8, [.ref a1, .ref a2, .ref a3, .ref a4, .ref a5, .ref a6, .ref a7, .ref a8, .ref a9, .int j_faultKind, .int j_horseCount, .int j_tabletCount, .int j_riderCount, .int j_lineLength, .int j_hour]))]) (f := f_3) (e := .inr (0, [.int (nI k), .int (S8 1 k 0), .int (S8 2 k 0)])) (hT.k0 (i := k) (by omega)).1 hf_8
            refine va_getN (D := (dC, dI)) (ci := 0) (v := .int (S8 1 k 0)) (C := RX0) (T := TX0) (N := 3) hx hb hts hin0 hown hK hP q_12 hq_12 rfl 1 (by decide) (hN.nx (.fieldLinkNest RX8 209 "YamRiders$Horse" "station" "I" "YamRiders") (by decide +kernel)) (fun _ h9 => h9) rfl dX8_careForHorses_41 ?_
            have hPc := hP.part (cx := [(h0, .inr (8, [.ref a1, .ref a2, .ref a3, .ref a4, .ref a5, .ref a6, .ref a7, .ref a8, .ref a9, .int j_faultKind, .int j_horseCount, .int j_tabletCount, .int j_riderCount, .int j_lineLength, .int j_hour]))]) [0] rfl
            have hDc := hD.part (cx := [(h0, .inr (8, [.ref a1, .ref a2, .ref a3, .ref a4, .ref a5, .ref a6, .ref a7, .ref a8, .ref a9, .int j_faultKind, .int j_horseCount, .int j_tabletCount, .int j_riderCount, .int j_lineLength, .int j_hour]))]) [0] (by decide) rfl
            have hKc := hK
            have hFc := va_freeP (cx := [(h0, .inr (8, [.ref a1, .ref a2, .ref a3, .ref a4, .ref a5, .ref a6, .ref a7, .ref a8, .ref a9, .int j_faultKind, .int j_horseCount, .int j_tabletCount, .int j_riderCount, .int j_lineLength, .int j_hour]))]) hD hS hA [0] rfl
            refine va_callv (va_runV (As := [.ref (ad 0 k), .int (S8 1 k 0)]) (rest := []) ⟨hx, hb, hml, hown, hts⟩ (e_X8_careFor l dC dI cs L ka ix ad n0 n6 n2 S8 f_3 gq k h0 a1 a2 a3 a4 a5 a6 a7 a8 a9 j_faultKind j_horseCount j_tabletCount j_riderCount j_lineLength j_hour (ad 0 k) (S8 1 k 0) H.size hT hY (hT.k0 (i := k) (by omega)) (by omega) c_11) (cwV 2 hts gX8_careForHorses_X8_careFor rfl rfl rfl (by decide +kernel) ⟨Nat.le_of_ble_eq_true rfl, Nat.le_of_ble_eq_true rfl⟩) ⟨c_blind, va_recv hKc hPc (ci := 8) (q0 := 0) rfl rfl, c_pre hPc hKc hDc hN⟩ rfl rfl hl.1 rfl (lv_room (Nat.le_of_ble_eq_true rfl)) dX8_careForHorses_44 ⟨Nat.le_of_ble_eq_true rfl, Nat.le_of_ble_eq_true rfl⟩) hS (fun q _ h => hFc q h) hFc (fun u9 t9 H1 locs ht hvm hw hB hz1 hk1 hS => ?_)
            obtain ⟨S_14, f_15, hf_x_16, hf_x_17, hf_x_18, hP1, hK1, hD1⟩ := hB
            rw [ht] at hP1
            have hK1 := va_K.moved hvm.symm hK1
            obtain ⟨hP, hD⟩ := va_joinP (X := [(h0, .inr (8, [.ref a1, .ref a2, .ref a3, .ref a4, .ref a5, .ref a6, .ref a7, .ref a8, .ref a9, .int j_faultKind, .int j_horseCount, .int j_tabletCount, .int j_riderCount, .int j_lineLength, .int j_hour]))]) (cx := [(h0, .inr (8, [.ref a1, .ref a2, .ref a3, .ref a4, .ref a5, .ref a6, .ref a7, .ref a8, .ref a9, .int j_faultKind, .int j_horseCount, .int j_tabletCount, .int j_riderCount, .int j_lineLength, .int j_hour]))]) (wr := []) (rx := [(h0, .inr (8, [.ref a1, .ref a2, .ref a3, .ref a4, .ref a5, .ref a6, .ref a7, .ref a8, .ref a9, .int j_faultKind, .int j_horseCount, .int j_tabletCount, .int j_riderCount, .int j_lineLength, .int j_hour]))]) (pl := va_pl L f_3) (pl1 := va_pl L f_15) hP hD [0] [] rfl rfl (by decide) (by decide) hk1 hFc hP1 hD1
            have hT := hf_x_16
            generalize H1 = H at hP hS ⊢
            have hP : va_P (dC, dI) vwCl ([(h0, .inr (8, [.ref a1, .ref a2, .ref a3, .ref a4, .ref a5, .ref a6, .ref a7, .ref a8, .ref a9, .int j_faultKind, .int j_horseCount, .int j_tabletCount, .int j_riderCount, .int j_lineLength, .int j_hour]))] ++ va_pl L f_15) H := hP
            have hD : va_D A ([(h0, .inr (8, [.ref a1, .ref a2, .ref a3, .ref a4, .ref a5, .ref a6, .ref a7, .ref a8, .ref a9, .int j_faultKind, .int j_horseCount, .int j_tabletCount, .int j_riderCount, .int j_lineLength, .int j_hour]))] ++ va_pl L f_15) := hD
            have hFr_19 := FR.tr hFrS8 hf_x_17
            refine W.widen (k := 0) (n := 0) (Nat.le_of_ble_eq_true rfl) (Nat.le_of_ble_eq_true rfl) ?_
            refine lv_iinc (v := nI (k + 1)) (lv' := [(3, .int (nI (k + 1))), (4, .ref (ad 0 k)), (0, .ref h0), (1, .ref a5), (2, .int 60)]) hx hb dX8_careForHorses_47 hl (k := 4) rfl (by exact (nI_1 k)) (by decide) rfl (fun ls hl => ?_)
            refine lv_goto (tgt := 10) hx hb dX8_careForHorses_50 (by decide) ?_
            exact ih (k + 1) S_14 (by omega) (by omega) hFr_19 (crK_s hit (by unfold cr1; rw [if_pos c_7, if_neg c_11]; exact hf_x_18)) _ _ _ hT (hP.part (cx := _) [0] rfl) (hD.part (cx := _) [0] (by decide) rfl) hS ls (lv_sub hl [2, 3, 4, 0] rfl)
        · rw [show gl ad 0 n0 (nI k).toNatClampNeg = none from by rw [(nI_clamp (by omega))]; exact gl_n c_7]
          refine W.eq (g2 := F0 m 18 ls [.null]) rfl ?_
          refine lv_astoreN (lv' := [(4, .null), (0, .ref h0), (1, .ref a5), (2, .int 60), (3, .int (nI k))]) hx hb dX8_careForHorses_18 hl (by decide) rfl (fun ls hl => ?_)
          refine lv_aloadN hx hb dX8_careForHorses_20 (lv_at hl 0 rfl) ?_
          refine lv_ifnullN (tgt := 47) hx hb dX8_careForHorses_22 (by decide) ?_
          refine lv_iinc (v := nI (k + 1)) (lv' := [(3, .int (nI (k + 1))), (4, .null), (0, .ref h0), (1, .ref a5), (2, .int 60)]) hx hb dX8_careForHorses_47 hl (k := 4) rfl (by exact (nI_1 k)) (by decide) rfl (fun ls hl => ?_)
          refine lv_goto (tgt := 10) hx hb dX8_careForHorses_50 (by decide) ?_
          exact ih (k + 1) S8 (by omega) (by omega) hFrS8 (crK_s hit (by unfold cr1; rw [if_neg c_7])) _ _ _ hT (hP.part (cx := _) [0] rfl) (hD.part (cx := _) [0] (by decide) rfl) hS ls (lv_sub hl [2, 3, 4, 0] rfl)
  exact HL 61 0 S (by omega) (by omega) FR.rf rfl _ _ _ hT (hP.part (cx := _) [0] rfl) (hD.part (cx := _) [0] (by decide) rfl) hS ls (lv_sub hl [3, 2, 1, 0] rfl)

theorem nI_z {m : Nat} (c : nI m ≤ 0) (hm : m < 2 ^ 31) : m = 0 := by
  have h := Int32.le_iff_toInt_le.mp c
  rw [nI_toInt hm, Int32.toInt_zero] at h
  omega

set_option maxHeartbeats 4000000 in
set_option maxRecDepth 100000 in
theorem e_X8_putInLine (l : Launch) (dC : Nat → ClassId) (dI : Nat → Nat → Nat) (cs : Nat → ClassId) (L : List Nat) (ka : Nat → Nat) (ix : Nat → Nat) (ad : Nat → Nat → Nat) (n0 : Nat) (n6 : Nat) (n2 : Nat) (S : Nat → Nat → Nat → Int32) (f : Nat → va_E) (gq : Nat) (i9 : Nat) (h0 : Nat) (a1 : Nat) (a2 : Nat) (a3 : Nat) (a4 : Nat) (a5 : Nat) (a6 : Nat) (a7 : Nat) (a8 : Nat) (a9 : Nat) (j_faultKind : Int32) (j_horseCount : Int32) (j_tabletCount : Int32) (j_riderCount : Int32) (j_hour : Int32) (e1 : Nat) (ll9 : Nat) (lm : Nat → Nat) (sz : Nat) (hT : tB L ka ix ad cs n0 n6 n2 S f) (hY : yX L ka ix ad gq a2 a3 a4 a5 a6 a7 a8 a9) (hk_e1 : tpx L ka ix 2 i9 e1) (hlt_i9 : i9 < n2) (hll : ll9 < 60) (hln : LNs S n2 ll9 lm) : Met l yX8_putInLine wsX8_putInLine ({ frames := 3, cells := 0, slots := 0, locals := 62 }) (va_Pc [.ref h0, .ref e1] (cP dC dI ([(h0, .inr (8, [.ref a1, .ref a2, .ref a3, .ref a4, .ref a5, .ref a6, .ref a7, .ref a8, .ref a9, .int j_faultKind, .int j_horseCount, .int j_tabletCount, .int j_riderCount, .int (nI ll9), .int j_hour]))] ++ va_pl L f) (tyC cs) sz)) (va_Qv (fun (_ : Unit) => True) (fun (_ : Unit) t9 => ∃ (S2 : Nat → Nat → Nat → Int32) (f2 : Nat → va_E), (tB L ka ix ad cs n0 n6 n2 S2 f2) ∧ (FR S S2) ∧ (PIL S S2 i9 ll9) ∧ cQ dC dI ([(h0, .inr (8, [.ref a1, .ref a2, .ref a3, .ref a4, .ref a5, .ref a6, .ref a7, .ref a8, .ref a9, .int j_faultKind, .int j_horseCount, .int j_tabletCount, .int j_riderCount, .int (nI (ll9 + 1)), .int j_hour]))] ++ va_pl L f2) [] (va_A ([(h0, .inr (8, [.ref a1, .ref a2, .ref a3, .ref a4, .ref a5, .ref a6, .ref a7, .ref a8, .ref a9, .int j_faultKind, .int j_horseCount, .int j_tabletCount, .int j_riderCount, .int (nI ll9), .int j_hour]))] ++ va_pl L f) sz) t9) (va_A ([(h0, .inr (8, [.ref a1, .ref a2, .ref a3, .ref a4, .ref a5, .ref a6, .ref a7, .ref a8, .ref a9, .int j_faultKind, .int j_horseCount, .int j_tabletCount, .int j_riderCount, .int (nI ll9), .int j_hour]))] ++ va_pl L f) sz)) 0 0 (va_A ([(h0, .inr (8, [.ref a1, .ref a2, .ref a3, .ref a4, .ref a5, .ref a6, .ref a7, .ref a8, .ref a9, .int j_faultKind, .int j_horseCount, .int j_tabletCount, .int j_riderCount, .int (nI ll9), .int j_hour]))] ++ va_pl L f) sz) := by
  refine Met.ofW (cc := cX8_putInLine) (maxL := 3) (ret := none) (by decide) rfl ?_
  intro p e s m args below meth c s₁ B hml hv
  obtain ⟨rfl, hsz, hP, hK, hD0, hN⟩ := hv
  have hx := B.exec
  have hb := B.bytes
  have hr := B.returns
  have hts := atoms_spec (ws := wsX8_putInLine) B.pre
  have hown : s.vm.findClass RX8 = some m.cls := findClass_of_methodNamed B.named
  have hlocks := B.notSynchronized
  subst hsz
  have hin8 : ∀ w ∈ u_ws RX8 TX8 15, w ∈ wsX8_putInLine := by decide +kernel
  have hD := hD0.self (sz := s.heap.size)
  generalize hAe : va_A ([(h0, .inr (8, [.ref a1, .ref a2, .ref a3, .ref a4, .ref a5, .ref a6, .ref a7, .ref a8, .ref a9, .int j_faultKind, .int j_horseCount, .int j_tabletCount, .int j_riderCount, .int (nI ll9), .int j_hour]))] ++ va_pl L f) s.heap.size = A at hD ⊢
  have hA : ∀ q : Nat, s.heap.size ≤ q → A q := fun q h => by rw [← hAe]; exact Or.inr h
  have hS : va_S A s.heap s.heap [] := va_S.rf
  have hP : va_P (dC, dI) vwCl ([(h0, .inr (8, [.ref a1, .ref a2, .ref a3, .ref a4, .ref a5, .ref a6, .ref a7, .ref a8, .ref a9, .int j_faultKind, .int j_horseCount, .int j_tabletCount, .int j_riderCount, .int (nI ll9), .int j_hour]))] ++ va_pl L f) s.heap := hP
  have hl := lv_entry ([.ref h0, .ref e1]) (n := 3) (Nat.le_of_ble_eq_true rfl)
  rw [lg_entry_eq]
  generalize (lg_sl ([.ref h0, .ref e1]) ++ List.replicate (3 - (lg_sl ([.ref h0, .ref e1])).length) Slot.unset).toArray = ls at hl ⊢
  have hl : lv_has ls 3 [(0, .ref h0), (1, .ref e1)] := hl
  refine lv_aload_n hx hb dX8_putInLine_0 rfl (lv_at hl 0 rfl) ?_
  refine va_get (D := (dC, dI)) (ci := 8) (v := .int (nI ll9)) (C := RX8) (T := TX8) (N := 15) hx hb hts hin8 hown hK hP 0 rfl rfl 13 (by decide) (hts (.fieldLink RX8 259 "YamRiders" "lineLength" "I") (by decide +kernel)) (fun _ h9 => h9) rfl dX8_putInLine_1 ?_
  refine lv_bipush (v := 60) hx hb dX8_putInLine_4 (by decide) ?_
  refine lv_icmp_lt (tgt := 10) hx hb dX8_putInLine_6 (by decide) (fun _ => ?_) (fun c_1 => by first | exact absurd c_1 (show nI ll9 < nI 60 from nI_lt hll (by decide)) | exact absurd (show nI ll9 < nI 60 from nI_lt hll (by decide)) c_1)
  refine lv_aload_n hx hb dX8_putInLine_10 rfl (lv_at hl 0 rfl) ?_
  refine va_get (D := (dC, dI)) (ci := 8) (v := .int (nI ll9)) (C := RX8) (T := TX8) (N := 15) hx hb hts hin8 hown hK hP 0 rfl rfl 13 (by decide) (hts (.fieldLink RX8 259 "YamRiders" "lineLength" "I") (by decide +kernel)) (fun _ h9 => h9) rfl dX8_putInLine_11 ?_
  refine lv_istore_n (lv' := [(2, .int (nI ll9)), (0, .ref h0), (1, .ref e1)]) hx hb dX8_putInLine_14 rfl hl (by decide) rfl (fun ls hl => ?_)
  have HL : ∀ (n k : Nat) (S8 : Nat → Nat → Nat → Int32), k ≤ ll9 → ll9 + 1 ≤ k + n → (FR S S8) → (AL S S8) → (PB S S8 ll9 (ll9 - k)) → (PC S i9 ll9 (ll9 - k)) → ∀ (f_2 : Nat → va_E) (H : Heap) (locs : List Loc), tB L ka ix ad cs n0 n6 n2 S8 f_2 → va_P (dC, dI) vwCl ([(h0, .inr (8, [.ref a1, .ref a2, .ref a3, .ref a4, .ref a5, .ref a6, .ref a7, .ref a8, .ref a9, .int j_faultKind, .int j_horseCount, .int j_tabletCount, .int j_riderCount, .int (nI ll9), .int j_hour]))] ++ va_pl L f_2) H → va_D A ([(h0, .inr (8, [.ref a1, .ref a2, .ref a3, .ref a4, .ref a5, .ref a6, .ref a7, .ref a8, .ref a9, .int j_faultKind, .int j_horseCount, .int j_tabletCount, .int j_riderCount, .int (nI ll9), .int j_hour]))] ++ va_pl L f_2) → va_S A s.heap H locs → ∀ ls : Array Slot, lv_has ls 3 [(0, .ref h0), (1, .ref e1), (2, .int (nI (ll9 - k)))] → W p l e (headSpec wsX8_putInLine ({ frames := 3, cells := 0, slots := 0, locals := 62 })).room s m ([.ref h0, .ref e1]).toArray below meth c H locs 0 0 (MQ below (va_Qv (fun (_ : Unit) => True) (fun (_ : Unit) t9 => ∃ (S2 : Nat → Nat → Nat → Int32) (f2 : Nat → va_E), (tB L ka ix ad cs n0 n6 n2 S2 f2) ∧ (FR S S2) ∧ (PIL S S2 i9 ll9) ∧ cQ dC dI ([(h0, .inr (8, [.ref a1, .ref a2, .ref a3, .ref a4, .ref a5, .ref a6, .ref a7, .ref a8, .ref a9, .int j_faultKind, .int j_horseCount, .int j_tabletCount, .int j_riderCount, .int (nI (ll9 + 1)), .int j_hour]))] ++ va_pl L f2) [] A t9) A) ([.ref h0, .ref e1]).toArray s 0 0 A) (F0 m 15 ls []) := by
    intro n
    induction n with
    | zero => intro k S8 h1 h2; exact absurd h2 (by omega)
    | succ n ih =>
      intro k S8 hk hn hFrS8 hAL hPB hPC f_2 H locs hT hP hD hS ls hl
      refine lv_iload_n hx hb dX8_putInLine_15 rfl (lv_at hl 2 rfl) ?_
      refine lv_if_le (tgt := 54) hx hb dX8_putInLine_16 (by decide) (fun c_3 => ?_) (fun c_3 => ?_)
      · refine lv_aload_n hx hb dX8_putInLine_54 rfl (lv_at hl 0 rfl) ?_
        refine va_get (D := (dC, dI)) (ci := 8) (v := .ref a8) (C := RX8) (T := TX8) (N := 15) hx hb hts hin8 hown hK hP 0 rfl rfl 7 (by decide) (hts (.fieldLink RX8 52 "YamRiders" "line" "[LYamRiders$Rider;") (by decide +kernel)) (fun _ h9 => h9) rfl dX8_putInLine_55 ?_
        refine lv_iload_n hx hb dX8_putInLine_58 rfl (lv_at hl 2 rfl) ?_
        refine lv_aload_n hx hb dX8_putInLine_59 rfl (lv_at hl 1 rfl) ?_
        have hf_4 : f_2 a8 = .inl (cs 5, 60, .inr (.inr (.inr (.inr (fun j => oq ad 2 (S8 448 0 j)))))) := hT.get hY.2.2.2.2.2.2.1
        obtain ⟨q_5, hq_5⟩ := pl_at (X := [(h0, .inr (8, [.ref a1, .ref a2, .ref a3, .ref a4, .ref a5, .ref a6, .ref a7, .ref a8, .ref a9, .int j_faultKind, .int j_horseCount, .int j_tabletCount, .int j_riderCount, .int (nI ll9), .int j_hour]))]) (f := f_2) (e := .inl (cs 5, 60, .inr (.inr (.inr (.inr (fun j => oq ad 2 (S8 448 0 j))))))) hY.2.2.2.2.2.2.1.1 hf_4
        have hf_6 : f_2 e1 = .inr (2, [.int (S8 32 i9 0), .int (S8 33 i9 0), .ref (ad 37 i9), .ref (ad 36 i9), .int (S8 36 i9 0), .int (S8 37 i9 0), .int (S8 38 i9 0), va_rf (oq ad 0 (S8 39 i9 0)), .int (S8 40 i9 0), .int (S8 41 i9 0)]) := hT.get hk_e1
        obtain ⟨q_7, hq_7⟩ := pl_at (X := [(h0, .inr (8, [.ref a1, .ref a2, .ref a3, .ref a4, .ref a5, .ref a6, .ref a7, .ref a8, .ref a9, .int j_faultKind, .int j_horseCount, .int j_tabletCount, .int j_riderCount, .int (nI ll9), .int j_hour]))]) (f := f_2) (e := .inr (2, [.int (S8 32 i9 0), .int (S8 33 i9 0), .ref (ad 37 i9), .ref (ad 36 i9), .int (S8 36 i9 0), .int (S8 37 i9 0), .int (S8 38 i9 0), va_rf (oq ad 0 (S8 39 i9 0)), .int (S8 40 i9 0), .int (S8 41 i9 0)])) hk_e1.1 hf_6
        refine va_astq hx hb hK hP hD hS q_5 5 q_7 2 hq_5 rfl hq_7 rfl (vp_in_nI (by omega) (by omega)) dX8_putInLine_60 (fun H locs hP9 hD9 hS => ?_)
        have hn9 := hT.b2
        have hs_8 := pl_st (.inl (cs 5, 60, .inr (.inr (.inr (.inr (va_up (fun j => oq ad 2 (S8 448 0 j)) (nI (ll9 - k)).toNatClampNeg (some e1))))))) hD hY.2.2.2.2.2.2.1.1 hf_4 hq_5
        have hP9 : va_P (dC, dI) vwCl ((([(h0, .inr (8, [.ref a1, .ref a2, .ref a3, .ref a4, .ref a5, .ref a6, .ref a7, .ref a8, .ref a9, .int j_faultKind, .int j_horseCount, .int j_tabletCount, .int j_riderCount, .int (nI ll9), .int j_hour]))] : va_W) ++ va_pl L f_2).set q_5 (a8, .inl (cs 5, 60, .inr (.inr (.inr (.inr (va_up (fun j => oq ad 2 (S8 448 0 j)) (nI (ll9 - k)).toNatClampNeg (some e1)))))))) H := hP9
        have hD9 : va_D A ((([(h0, .inr (8, [.ref a1, .ref a2, .ref a3, .ref a4, .ref a5, .ref a6, .ref a7, .ref a8, .ref a9, .int j_faultKind, .int j_horseCount, .int j_tabletCount, .int j_riderCount, .int (nI ll9), .int j_hour]))] : va_W) ++ va_pl L f_2).set q_5 (a8, .inl (cs 5, 60, .inr (.inr (.inr (.inr (va_up (fun j => oq ad 2 (S8 448 0 j)) (nI (ll9 - k)).toNatClampNeg (some e1)))))))) := hD9
        rw [hs_8] at hP9 hD9
        have hT := hT.up (c := 448) (j := (ll9 - k)) (v := (nI i9)) (e := .inl (cs 5, 60, .inr (.inr (.inr (.inr (va_up (fun j => oq ad 2 (S8 448 0 j)) (nI (ll9 - k)).toNatClampNeg (some e1))))))) hY.2.2.2.2.2.2.1 rfl (hT.2.2.li (Or.inr ⟨i9, by omega, rfl⟩)) (by have hadr := hT.adr hk_e1; rw [(nI_clamp (by omega))]; first | exact li_e (r := i9) (by omega) | (rw [hadr]; exact li_e (r := i9) (by omega)))
        have hP := hP9
        have hD := hD9
        clear hP9 hD9 hs_8
        obtain ⟨S_10, eS_10⟩ : ∃ S9 : Nat → Nat → Nat → Int32, S9 = up3 S8 448 0 (ll9 - k) (nI i9) := ⟨_, rfl⟩
        rw [← eS_10] at hT
        generalize va_up f_2 a8 (.inl (cs 5, 60, .inr (.inr (.inr (.inr (va_up (fun j => oq ad 2 (S8 448 0 j)) (nI (ll9 - k)).toNatClampNeg (some e1))))))) = f_9 at hP hD hT
        have hFr_11 : FR S S_10 := by rw [eS_10]; exact FR.up hFrS8 (by decide) (by decide)
        refine lv_aload_n hx hb dX8_putInLine_61 rfl (lv_at hl 0 rfl) ?_
        refine lv_dup hx hb dX8_putInLine_62 rfl ?_
        refine va_get (D := (dC, dI)) (ci := 8) (v := .int (nI ll9)) (C := RX8) (T := TX8) (N := 15) hx hb hts hin8 hown hK hP 0 rfl rfl 13 (by decide) (hts (.fieldLink RX8 259 "YamRiders" "lineLength" "I") (by decide +kernel)) (fun _ h9 => h9) rfl dX8_putInLine_63 ?_
        refine lv_iconst (v := 1) hx hb dX8_putInLine_66 (by decide) ?_
        refine lv_iadd hx hb dX8_putInLine_67 ?_
        refine lv_topi (fun y_12 ey_12 => ?_)
        obtain rfl : y_12 = nI (ll9 + 1) := ey_12.trans (nI_1 ll9)
        refine va_put (D := (dC, dI)) (ci := 8) (v := .int (nI (ll9 + 1))) (ty := (tyX8 13)) (C := RX8) (T := TX8) (N := 15) hx hb hts hin8 tyX8 tyX8_ok nmX8 hown hK hP hD hS 0 rfl rfl 13 (by decide) (hts (.fieldLink RX8 259 "YamRiders" "lineLength" "I") (by decide +kernel)) (fun _ h9 => h9) rfl (by decide +kernel) rfl rfl (Nat.le_of_ble_eq_true rfl) dX8_putInLine_68 (fun H locs hP hD hS => ?_)
        have hP : va_P (dC, dI) vwCl ([(h0, .inr (8, [.ref a1, .ref a2, .ref a3, .ref a4, .ref a5, .ref a6, .ref a7, .ref a8, .ref a9, .int j_faultKind, .int j_horseCount, .int j_tabletCount, .int j_riderCount, .int (nI (ll9 + 1)), .int j_hour]))] ++ va_pl L f_9) H := hP
        have hD : va_D A ([(h0, .inr (8, [.ref a1, .ref a2, .ref a3, .ref a4, .ref a5, .ref a6, .ref a7, .ref a8, .ref a9, .int j_faultKind, .int j_horseCount, .int j_tabletCount, .int j_riderCount, .int (nI (ll9 + 1)), .int j_hour]))] ++ va_pl L f_9) := hD
        have hP9 := hP.part (cx := [(h0, .inr (8, [.ref a1, .ref a2, .ref a3, .ref a4, .ref a5, .ref a6, .ref a7, .ref a8, .ref a9, .int j_faultKind, .int j_horseCount, .int j_tabletCount, .int j_riderCount, .int (nI (ll9 + 1)), .int j_hour]))]) [0] rfl
        have hD9 := hD.part (cx := [(h0, .inr (8, [.ref a1, .ref a2, .ref a3, .ref a4, .ref a5, .ref a6, .ref a7, .ref a8, .ref a9, .int j_faultKind, .int j_horseCount, .int j_tabletCount, .int j_riderCount, .int (nI (ll9 + 1)), .int j_hour]))]) [0] (by decide) rfl
        have hK9 := hK.sub (tys' := []) [] rfl
        refine W.widen (k := 0) (n := 0) (Nat.le_of_ble_eq_true rfl) (Nat.le_of_ble_eq_true rfl) ?_
        exact W.vret hx hb hr (fun t9 ht hW => ⟨⟨(), rfl, trivial, S_10, f_9, hT, hFr_11, (by rw [eS_10]; exact PIL_e hAL hPB hPC (fun w => absurd w (by have h9 : ll9 - k = 0 := nI_z c_3 (by omega); omega))), by rw [ht]; exact hP9, va_K.moved hW.alike hK9, hD9⟩, hS.F ht⟩) hS.2.2 dX8_putInLine_71
      · have hpos : 0 < ll9 - k := nI_p c_3 (by omega)
        refine lv_aload_n hx hb dX8_putInLine_19 rfl (lv_at hl 1 rfl) ?_
        refine lv_aload_n hx hb dX8_putInLine_20 rfl (lv_at hl 0 rfl) ?_
        refine va_get (D := (dC, dI)) (ci := 8) (v := .ref a8) (C := RX8) (T := TX8) (N := 15) hx hb hts hin8 hown hK hP 0 rfl rfl 7 (by decide) (hts (.fieldLink RX8 52 "YamRiders" "line" "[LYamRiders$Rider;") (by decide +kernel)) (fun _ h9 => h9) rfl dX8_putInLine_21 ?_
        refine lv_iload_n hx hb dX8_putInLine_24 rfl (lv_at hl 2 rfl) ?_
        refine lv_iconst (v := 1) hx hb dX8_putInLine_25 (by decide) ?_
        refine lv_isub hx hb dX8_putInLine_26 ?_
        refine lv_topi (fun y_13 ey_13 => ?_)
        obtain rfl : y_13 = nI (ll9 - (k + 1)) := ey_13.trans (nI_s1 (by omega))
        have hne9 : ¬ S8 448 0 (ll9 - (k + 1)) = -1 := LN_ne hln (by have h9 := hT.b2; omega) hPB (by omega)
        have hf_14 : f_2 a8 = .inl (cs 5, 60, .inr (.inr (.inr (.inr (fun j => oq ad 2 (S8 448 0 j)))))) := hT.get hY.2.2.2.2.2.2.1
        obtain ⟨q_15, hq_15⟩ := pl_at (X := [(h0, .inr (8, [.ref a1, .ref a2, .ref a3, .ref a4, .ref a5, .ref a6, .ref a7, .ref a8, .ref a9, .int j_faultKind, .int j_horseCount, .int j_tabletCount, .int j_riderCount, .int (nI ll9), .int j_hour]))]) (f := f_2) (e := .inl (cs 5, 60, .inr (.inr (.inr (.inr (fun j => oq ad 2 (S8 448 0 j))))))) hY.2.2.2.2.2.2.1.1 hf_14
        refine va_aldq hx hb hK hP q_15 5 hq_15 rfl (vp_in_nI (by omega) (by omega)) dX8_putInLine_27 ?_
        rw [show oq ad 2 (S8 448 0 (nI (ll9 - (k + 1))).toNatClampNeg) = oq ad 2 (S8 448 0 (ll9 - (k + 1))) from by rw [(nI_clamp (by omega))]]
        obtain ⟨u_16, hu_16, eu_16⟩ := hT.li hne9
        have hn9 := hT.b2
        rw [show oq ad 2 (S8 448 0 (ll9 - (k + 1))) = some (ad 2 u_16) from by rw [eu_16]; exact oq_s (by omega)]
        refine W.eq (g2 := F0 m 28 ls [.ref (ad 2 u_16), .ref e1]) rfl ?_
        have hPc := hP.part (cx := []) [] rfl
        have hDc := hD.part (cx := []) [] (by decide) rfl
        have hKc := hK
        refine cs_i (va_runS (As := [.ref e1, .ref (ad 2 u_16)]) (rest := []) ⟨hx, hb, hml, hown, hts⟩ (e_X8_goesBefore l dC dI cs L ka ix ad n0 n6 n2 S8 f_2 i9 u_16 e1 (ad 2 u_16) H.size hT hk_e1 (hT.k2 (i := u_16) (by omega)) (by omega) (by omega)) (va_cwS 2 hts gX8_putInLine_X8_goesBefore rfl rfl rfl (by decide +kernel) ⟨Nat.le_of_ble_eq_true rfl, Nat.le_of_ble_eq_true rfl⟩) ⟨c_blind, c_pre hPc hKc hDc hN⟩ rfl rfl hl.1 rfl (lv_room (Nat.le_of_ble_eq_true rfl)) dX8_putInLine_28 ⟨Nat.le_of_ble_eq_true rfl, Nat.le_of_ble_eq_true rfl⟩) (fun r_17 hr_17 => ?_)
        subst hr_17
        refine lv_if_eq (tgt := 54) hx hb dX8_putInLine_31 (by decide) (fun c_18 => ?_) (fun c_18 => ?_)
        · refine lv_aload_n hx hb dX8_putInLine_54 rfl (lv_at hl 0 rfl) ?_
          refine va_get (D := (dC, dI)) (ci := 8) (v := .ref a8) (C := RX8) (T := TX8) (N := 15) hx hb hts hin8 hown hK hP 0 rfl rfl 7 (by decide) (hts (.fieldLink RX8 52 "YamRiders" "line" "[LYamRiders$Rider;") (by decide +kernel)) (fun _ h9 => h9) rfl dX8_putInLine_55 ?_
          refine lv_iload_n hx hb dX8_putInLine_58 rfl (lv_at hl 2 rfl) ?_
          refine lv_aload_n hx hb dX8_putInLine_59 rfl (lv_at hl 1 rfl) ?_
          obtain ⟨q_19, hq_19⟩ := pl_at (X := [(h0, .inr (8, [.ref a1, .ref a2, .ref a3, .ref a4, .ref a5, .ref a6, .ref a7, .ref a8, .ref a9, .int j_faultKind, .int j_horseCount, .int j_tabletCount, .int j_riderCount, .int (nI ll9), .int j_hour]))]) (f := f_2) (e := .inl (cs 5, 60, .inr (.inr (.inr (.inr (fun j => oq ad 2 (S8 448 0 j))))))) hY.2.2.2.2.2.2.1.1 hf_14
          have hf_20 : f_2 e1 = .inr (2, [.int (S8 32 i9 0), .int (S8 33 i9 0), .ref (ad 37 i9), .ref (ad 36 i9), .int (S8 36 i9 0), .int (S8 37 i9 0), .int (S8 38 i9 0), va_rf (oq ad 0 (S8 39 i9 0)), .int (S8 40 i9 0), .int (S8 41 i9 0)]) := hT.get hk_e1
          obtain ⟨q_21, hq_21⟩ := pl_at (X := [(h0, .inr (8, [.ref a1, .ref a2, .ref a3, .ref a4, .ref a5, .ref a6, .ref a7, .ref a8, .ref a9, .int j_faultKind, .int j_horseCount, .int j_tabletCount, .int j_riderCount, .int (nI ll9), .int j_hour]))]) (f := f_2) (e := .inr (2, [.int (S8 32 i9 0), .int (S8 33 i9 0), .ref (ad 37 i9), .ref (ad 36 i9), .int (S8 36 i9 0), .int (S8 37 i9 0), .int (S8 38 i9 0), va_rf (oq ad 0 (S8 39 i9 0)), .int (S8 40 i9 0), .int (S8 41 i9 0)])) hk_e1.1 hf_20
          refine va_astq hx hb hK hP hD hS q_19 5 q_21 2 hq_19 rfl hq_21 rfl (vp_in_nI (by omega) (by omega)) dX8_putInLine_60 (fun H locs hP9 hD9 hS => ?_)
          have hn9 := hT.b2
          have hs_22 := pl_st (.inl (cs 5, 60, .inr (.inr (.inr (.inr (va_up (fun j => oq ad 2 (S8 448 0 j)) (nI (ll9 - k)).toNatClampNeg (some e1))))))) hD hY.2.2.2.2.2.2.1.1 hf_14 hq_19
          have hP9 : va_P (dC, dI) vwCl ((([(h0, .inr (8, [.ref a1, .ref a2, .ref a3, .ref a4, .ref a5, .ref a6, .ref a7, .ref a8, .ref a9, .int j_faultKind, .int j_horseCount, .int j_tabletCount, .int j_riderCount, .int (nI ll9), .int j_hour]))] : va_W) ++ va_pl L f_2).set q_19 (a8, .inl (cs 5, 60, .inr (.inr (.inr (.inr (va_up (fun j => oq ad 2 (S8 448 0 j)) (nI (ll9 - k)).toNatClampNeg (some e1)))))))) H := hP9
          have hD9 : va_D A ((([(h0, .inr (8, [.ref a1, .ref a2, .ref a3, .ref a4, .ref a5, .ref a6, .ref a7, .ref a8, .ref a9, .int j_faultKind, .int j_horseCount, .int j_tabletCount, .int j_riderCount, .int (nI ll9), .int j_hour]))] : va_W) ++ va_pl L f_2).set q_19 (a8, .inl (cs 5, 60, .inr (.inr (.inr (.inr (va_up (fun j => oq ad 2 (S8 448 0 j)) (nI (ll9 - k)).toNatClampNeg (some e1)))))))) := hD9
          rw [hs_22] at hP9 hD9
          have hT := hT.up (c := 448) (j := (ll9 - k)) (v := (nI i9)) (e := .inl (cs 5, 60, .inr (.inr (.inr (.inr (va_up (fun j => oq ad 2 (S8 448 0 j)) (nI (ll9 - k)).toNatClampNeg (some e1))))))) hY.2.2.2.2.2.2.1 rfl (hT.2.2.li (Or.inr ⟨i9, by omega, rfl⟩)) (by have hadr := hT.adr hk_e1; rw [(nI_clamp (by omega))]; first | exact li_e (r := i9) (by omega) | (rw [hadr]; exact li_e (r := i9) (by omega)))
          have hP := hP9
          have hD := hD9
          clear hP9 hD9 hs_22
          obtain ⟨S_24, eS_24⟩ : ∃ S9 : Nat → Nat → Nat → Int32, S9 = up3 S8 448 0 (ll9 - k) (nI i9) := ⟨_, rfl⟩
          rw [← eS_24] at hT
          generalize va_up f_2 a8 (.inl (cs 5, 60, .inr (.inr (.inr (.inr (va_up (fun j => oq ad 2 (S8 448 0 j)) (nI (ll9 - k)).toNatClampNeg (some e1))))))) = f_23 at hP hD hT
          have hFr_25 : FR S S_24 := by rw [eS_24]; exact FR.up hFrS8 (by decide) (by decide)
          refine lv_aload_n hx hb dX8_putInLine_61 rfl (lv_at hl 0 rfl) ?_
          refine lv_dup hx hb dX8_putInLine_62 rfl ?_
          refine va_get (D := (dC, dI)) (ci := 8) (v := .int (nI ll9)) (C := RX8) (T := TX8) (N := 15) hx hb hts hin8 hown hK hP 0 rfl rfl 13 (by decide) (hts (.fieldLink RX8 259 "YamRiders" "lineLength" "I") (by decide +kernel)) (fun _ h9 => h9) rfl dX8_putInLine_63 ?_
          refine lv_iconst (v := 1) hx hb dX8_putInLine_66 (by decide) ?_
          refine lv_iadd hx hb dX8_putInLine_67 ?_
          refine lv_topi (fun y_26 ey_26 => ?_)
          obtain rfl : y_26 = nI (ll9 + 1) := ey_26.trans (nI_1 ll9)
          refine va_put (D := (dC, dI)) (ci := 8) (v := .int (nI (ll9 + 1))) (ty := (tyX8 13)) (C := RX8) (T := TX8) (N := 15) hx hb hts hin8 tyX8 tyX8_ok nmX8 hown hK hP hD hS 0 rfl rfl 13 (by decide) (hts (.fieldLink RX8 259 "YamRiders" "lineLength" "I") (by decide +kernel)) (fun _ h9 => h9) rfl (by decide +kernel) rfl rfl (Nat.le_of_ble_eq_true rfl) dX8_putInLine_68 (fun H locs hP hD hS => ?_)
          have hP : va_P (dC, dI) vwCl ([(h0, .inr (8, [.ref a1, .ref a2, .ref a3, .ref a4, .ref a5, .ref a6, .ref a7, .ref a8, .ref a9, .int j_faultKind, .int j_horseCount, .int j_tabletCount, .int j_riderCount, .int (nI (ll9 + 1)), .int j_hour]))] ++ va_pl L f_23) H := hP
          have hD : va_D A ([(h0, .inr (8, [.ref a1, .ref a2, .ref a3, .ref a4, .ref a5, .ref a6, .ref a7, .ref a8, .ref a9, .int j_faultKind, .int j_horseCount, .int j_tabletCount, .int j_riderCount, .int (nI (ll9 + 1)), .int j_hour]))] ++ va_pl L f_23) := hD
          have hP9 := hP.part (cx := [(h0, .inr (8, [.ref a1, .ref a2, .ref a3, .ref a4, .ref a5, .ref a6, .ref a7, .ref a8, .ref a9, .int j_faultKind, .int j_horseCount, .int j_tabletCount, .int j_riderCount, .int (nI (ll9 + 1)), .int j_hour]))]) [0] rfl
          have hD9 := hD.part (cx := [(h0, .inr (8, [.ref a1, .ref a2, .ref a3, .ref a4, .ref a5, .ref a6, .ref a7, .ref a8, .ref a9, .int j_faultKind, .int j_horseCount, .int j_tabletCount, .int j_riderCount, .int (nI (ll9 + 1)), .int j_hour]))]) [0] (by decide) rfl
          have hK9 := hK.sub (tys' := []) [] rfl
          refine W.widen (k := 0) (n := 0) (Nat.le_of_ble_eq_true rfl) (Nat.le_of_ble_eq_true rfl) ?_
          exact W.vret hx hb hr (fun t9 ht hW => ⟨⟨(), rfl, trivial, S_24, f_23, hT, hFr_25, (by rw [eS_24]; exact PIL_e hAL hPB hPC (fun _ => PIL_z hAL hPB (by omega) eu_16 (by have h9 := hT.b2; omega) rfl c_18)), by rw [ht]; exact hP9, va_K.moved hW.alike hK9, hD9⟩, hS.F ht⟩) hS.2.2 dX8_putInLine_71
        · refine lv_aload_n hx hb dX8_putInLine_34 rfl (lv_at hl 0 rfl) ?_
          refine va_get (D := (dC, dI)) (ci := 8) (v := .ref a8) (C := RX8) (T := TX8) (N := 15) hx hb hts hin8 hown hK hP 0 rfl rfl 7 (by decide) (hts (.fieldLink RX8 52 "YamRiders" "line" "[LYamRiders$Rider;") (by decide +kernel)) (fun _ h9 => h9) rfl dX8_putInLine_35 ?_
          refine lv_iload_n hx hb dX8_putInLine_38 rfl (lv_at hl 2 rfl) ?_
          refine lv_aload_n hx hb dX8_putInLine_39 rfl (lv_at hl 0 rfl) ?_
          refine va_get (D := (dC, dI)) (ci := 8) (v := .ref a8) (C := RX8) (T := TX8) (N := 15) hx hb hts hin8 hown hK hP 0 rfl rfl 7 (by decide) (hts (.fieldLink RX8 52 "YamRiders" "line" "[LYamRiders$Rider;") (by decide +kernel)) (fun _ h9 => h9) rfl dX8_putInLine_40 ?_
          refine lv_iload_n hx hb dX8_putInLine_43 rfl (lv_at hl 2 rfl) ?_
          refine lv_iconst (v := 1) hx hb dX8_putInLine_44 (by decide) ?_
          refine lv_isub hx hb dX8_putInLine_45 ?_
          refine lv_topi (fun y_27 ey_27 => ?_)
          obtain rfl : y_27 = nI (ll9 - (k + 1)) := ey_27.trans (nI_s1 (by omega))
          obtain ⟨q_28, hq_28⟩ := pl_at (X := [(h0, .inr (8, [.ref a1, .ref a2, .ref a3, .ref a4, .ref a5, .ref a6, .ref a7, .ref a8, .ref a9, .int j_faultKind, .int j_horseCount, .int j_tabletCount, .int j_riderCount, .int (nI ll9), .int j_hour]))]) (f := f_2) (e := .inl (cs 5, 60, .inr (.inr (.inr (.inr (fun j => oq ad 2 (S8 448 0 j))))))) hY.2.2.2.2.2.2.1.1 hf_14
          refine va_aldq hx hb hK hP q_28 5 hq_28 rfl (vp_in_nI (by omega) (by omega)) dX8_putInLine_46 ?_
          rw [show oq ad 2 (S8 448 0 (nI (ll9 - (k + 1))).toNatClampNeg) = oq ad 2 (S8 448 0 (ll9 - (k + 1))) from by rw [(nI_clamp (by omega))]]
          have hn9 := hT.b2
          rw [show oq ad 2 (S8 448 0 (ll9 - (k + 1))) = some (ad 2 u_16) from by rw [eu_16]; exact oq_s (by omega)]
          refine W.eq (g2 := F0 m 47 ls [.ref (ad 2 u_16), .int (nI (ll9 - k)), .ref a8]) rfl ?_
          obtain ⟨q_29, hq_29⟩ := pl_at (X := [(h0, .inr (8, [.ref a1, .ref a2, .ref a3, .ref a4, .ref a5, .ref a6, .ref a7, .ref a8, .ref a9, .int j_faultKind, .int j_horseCount, .int j_tabletCount, .int j_riderCount, .int (nI ll9), .int j_hour]))]) (f := f_2) (e := .inl (cs 5, 60, .inr (.inr (.inr (.inr (fun j => oq ad 2 (S8 448 0 j))))))) hY.2.2.2.2.2.2.1.1 hf_14
          have hf_30 : f_2 (ad 2 u_16) = .inr (2, [.int (S8 32 u_16 0), .int (S8 33 u_16 0), .ref (ad 37 u_16), .ref (ad 36 u_16), .int (S8 36 u_16 0), .int (S8 37 u_16 0), .int (S8 38 u_16 0), va_rf (oq ad 0 (S8 39 u_16 0)), .int (S8 40 u_16 0), .int (S8 41 u_16 0)]) := hT.get (hT.k2 (i := u_16) (by omega))
          obtain ⟨q_31, hq_31⟩ := pl_at (X := [(h0, .inr (8, [.ref a1, .ref a2, .ref a3, .ref a4, .ref a5, .ref a6, .ref a7, .ref a8, .ref a9, .int j_faultKind, .int j_horseCount, .int j_tabletCount, .int j_riderCount, .int (nI ll9), .int j_hour]))]) (f := f_2) (e := .inr (2, [.int (S8 32 u_16 0), .int (S8 33 u_16 0), .ref (ad 37 u_16), .ref (ad 36 u_16), .int (S8 36 u_16 0), .int (S8 37 u_16 0), .int (S8 38 u_16 0), va_rf (oq ad 0 (S8 39 u_16 0)), .int (S8 40 u_16 0), .int (S8 41 u_16 0)])) (hT.k2 (i := u_16) (by omega)).1 hf_30
          refine va_astq hx hb hK hP hD hS q_29 5 q_31 2 hq_29 rfl hq_31 rfl (vp_in_nI (by omega) (by omega)) dX8_putInLine_47 (fun H locs hP9 hD9 hS => ?_)
          have hn9 := hT.b2
          have hs_32 := pl_st (.inl (cs 5, 60, .inr (.inr (.inr (.inr (va_up (fun j => oq ad 2 (S8 448 0 j)) (nI (ll9 - k)).toNatClampNeg (some (ad 2 u_16)))))))) hD hY.2.2.2.2.2.2.1.1 hf_14 hq_29
          have hP9 : va_P (dC, dI) vwCl ((([(h0, .inr (8, [.ref a1, .ref a2, .ref a3, .ref a4, .ref a5, .ref a6, .ref a7, .ref a8, .ref a9, .int j_faultKind, .int j_horseCount, .int j_tabletCount, .int j_riderCount, .int (nI ll9), .int j_hour]))] : va_W) ++ va_pl L f_2).set q_29 (a8, .inl (cs 5, 60, .inr (.inr (.inr (.inr (va_up (fun j => oq ad 2 (S8 448 0 j)) (nI (ll9 - k)).toNatClampNeg (some (ad 2 u_16))))))))) H := hP9
          have hD9 : va_D A ((([(h0, .inr (8, [.ref a1, .ref a2, .ref a3, .ref a4, .ref a5, .ref a6, .ref a7, .ref a8, .ref a9, .int j_faultKind, .int j_horseCount, .int j_tabletCount, .int j_riderCount, .int (nI ll9), .int j_hour]))] : va_W) ++ va_pl L f_2).set q_29 (a8, .inl (cs 5, 60, .inr (.inr (.inr (.inr (va_up (fun j => oq ad 2 (S8 448 0 j)) (nI (ll9 - k)).toNatClampNeg (some (ad 2 u_16))))))))) := hD9
          rw [hs_32] at hP9 hD9
          have hT := hT.up (c := 448) (j := (ll9 - k)) (v := (nI u_16)) (e := .inl (cs 5, 60, .inr (.inr (.inr (.inr (va_up (fun j => oq ad 2 (S8 448 0 j)) (nI (ll9 - k)).toNatClampNeg (some (ad 2 u_16)))))))) hY.2.2.2.2.2.2.1 rfl (hT.2.2.li (Or.inr ⟨u_16, by omega, rfl⟩)) (by have hadr := hT.adr (hT.k2 (i := u_16) (by omega)); rw [(nI_clamp (by omega))]; first | exact li_e (r := u_16) (by omega) | (rw [hadr]; exact li_e (r := u_16) (by omega)))
          have hP := hP9
          have hD := hD9
          clear hP9 hD9 hs_32
          obtain ⟨S_34, eS_34⟩ : ∃ S9 : Nat → Nat → Nat → Int32, S9 = up3 S8 448 0 (ll9 - k) (nI u_16) := ⟨_, rfl⟩
          rw [← eS_34] at hT
          generalize va_up f_2 a8 (.inl (cs 5, 60, .inr (.inr (.inr (.inr (va_up (fun j => oq ad 2 (S8 448 0 j)) (nI (ll9 - k)).toNatClampNeg (some (ad 2 u_16)))))))) = f_33 at hP hD hT
          have hFr_35 : FR S S_34 := by rw [eS_34]; exact FR.up hFrS8 (by decide) (by decide)
          refine lv_iinc (v := nI (ll9 - (k + 1))) (lv' := [(2, .int (nI (ll9 - (k + 1)))), (0, .ref h0), (1, .ref e1)]) hx hb dX8_putInLine_48 hl (k := 2) rfl (by exact (nI_m1 (by omega))) (by decide) rfl (fun ls hl => ?_)
          refine lv_goto (tgt := 15) hx hb dX8_putInLine_51 (by decide) ?_
          exact ih (k + 1) S_34 (by omega) (by omega) hFr_35 (by rw [eS_34]; exact hAL.up) (by rw [eS_34]; exact PB_s hPB (by omega) eu_16) (PC_s hPC hAL hPB (by omega) eu_16 (by have h9 := hT.b2; omega) rfl c_18) _ _ _ hT (hP.part (cx := _) [0] rfl) (hD.part (cx := _) [0] (by decide) rfl) hS ls (lv_sub hl [1, 2, 0] rfl)
  exact HL (ll9 + 1) 0 S (by omega) (by omega) FR.rf AL.rf PB_0 PC_0 _ _ _ hT (hP.part (cx := _) [0] rfl) (hD.part (cx := _) [0] (by decide) rfl) hS ls (lv_sub hl [1, 2, 0] rfl)

set_option maxHeartbeats 4000000 in
set_option maxRecDepth 100000 in
theorem e_X8_lineUpWaiting (l : Launch) (dC : Nat → ClassId) (dI : Nat → Nat → Nat) (cs : Nat → ClassId) (L : List Nat) (ka : Nat → Nat) (ix : Nat → Nat) (ad : Nat → Nat → Nat) (n0 : Nat) (n6 : Nat) (n2 : Nat) (S : Nat → Nat → Nat → Int32) (f : Nat → va_E) (gq : Nat) (h0 : Nat) (a1 : Nat) (a2 : Nat) (a3 : Nat) (a4 : Nat) (a5 : Nat) (a6 : Nat) (a7 : Nat) (a8 : Nat) (a9 : Nat) (j_faultKind : Int32) (j_horseCount : Int32) (j_tabletCount : Int32) (j_riderCount : Int32) (j_lineLength : Int32) (j_hour : Int32) (sz : Nat) (hT : tB L ka ix ad cs n0 n6 n2 S f) (hY : yX L ka ix ad gq a2 a3 a4 a5 a6 a7 a8 a9) : Met l yX8_lineUpWaiting wsX8_lineUpWaiting ({ frames := 4, cells := 0, slots := 0, locals := 84 }) (va_Pc [.ref h0] (cP dC dI ([(h0, .inr (8, [.ref a1, .ref a2, .ref a3, .ref a4, .ref a5, .ref a6, .ref a7, .ref a8, .ref a9, .int j_faultKind, .int j_horseCount, .int j_tabletCount, .int j_riderCount, .int j_lineLength, .int j_hour]))] ++ va_pl L f) (tyC cs) sz)) (va_Qv (fun (_ : Unit) => True) (fun (_ : Unit) t9 => ∃ (S2 : Nat → Nat → Nat → Int32) (f2 : Nat → va_E) (ll2 : Nat) (lm2 : Nat → Nat), (tB L ka ix ad cs n0 n6 n2 S2 f2) ∧ (FR S S2) ∧ (ll2 ≤ 60 ∧ LU S S2 n2 lm2 ll2) ∧ cQ dC dI ([(h0, .inr (8, [.ref a1, .ref a2, .ref a3, .ref a4, .ref a5, .ref a6, .ref a7, .ref a8, .ref a9, .int j_faultKind, .int j_horseCount, .int j_tabletCount, .int j_riderCount, .int (nI ll2), .int j_hour]))] ++ va_pl L f2) [] (va_A ([(h0, .inr (8, [.ref a1, .ref a2, .ref a3, .ref a4, .ref a5, .ref a6, .ref a7, .ref a8, .ref a9, .int j_faultKind, .int j_horseCount, .int j_tabletCount, .int j_riderCount, .int j_lineLength, .int j_hour]))] ++ va_pl L f) sz) t9) (va_A ([(h0, .inr (8, [.ref a1, .ref a2, .ref a3, .ref a4, .ref a5, .ref a6, .ref a7, .ref a8, .ref a9, .int j_faultKind, .int j_horseCount, .int j_tabletCount, .int j_riderCount, .int j_lineLength, .int j_hour]))] ++ va_pl L f) sz)) 0 0 (va_A ([(h0, .inr (8, [.ref a1, .ref a2, .ref a3, .ref a4, .ref a5, .ref a6, .ref a7, .ref a8, .ref a9, .int j_faultKind, .int j_horseCount, .int j_tabletCount, .int j_riderCount, .int j_lineLength, .int j_hour]))] ++ va_pl L f) sz) := by
  refine Met.ofW (cc := cX8_lineUpWaiting) (maxL := 5) (ret := none) (by decide) rfl ?_
  intro p e s m args below meth c s₁ B hml hv
  obtain ⟨rfl, hsz, hP, hK, hD0, hN⟩ := hv
  have hx := B.exec
  have hb := B.bytes
  have hr := B.returns
  have hts := atoms_spec (ws := wsX8_lineUpWaiting) B.pre
  have hown : s.vm.findClass RX8 = some m.cls := findClass_of_methodNamed B.named
  have hlocks := B.notSynchronized
  subst hsz
  have hin2 : ∀ w ∈ u_ws RX2 TX2 10, w ∈ wsX8_lineUpWaiting := by decide +kernel
  have hin8 : ∀ w ∈ u_ws RX8 TX8 15, w ∈ wsX8_lineUpWaiting := by decide +kernel
  have hD := hD0.self (sz := s.heap.size)
  generalize hAe : va_A ([(h0, .inr (8, [.ref a1, .ref a2, .ref a3, .ref a4, .ref a5, .ref a6, .ref a7, .ref a8, .ref a9, .int j_faultKind, .int j_horseCount, .int j_tabletCount, .int j_riderCount, .int j_lineLength, .int j_hour]))] ++ va_pl L f) s.heap.size = A at hD ⊢
  have hA : ∀ q : Nat, s.heap.size ≤ q → A q := fun q h => by rw [← hAe]; exact Or.inr h
  have hS : va_S A s.heap s.heap [] := va_S.rf
  have hP : va_P (dC, dI) vwCl ([(h0, .inr (8, [.ref a1, .ref a2, .ref a3, .ref a4, .ref a5, .ref a6, .ref a7, .ref a8, .ref a9, .int j_faultKind, .int j_horseCount, .int j_tabletCount, .int j_riderCount, .int j_lineLength, .int j_hour]))] ++ va_pl L f) s.heap := hP
  have hl := lv_entry ([.ref h0]) (n := 5) (Nat.le_of_ble_eq_true rfl)
  rw [lg_entry_eq]
  generalize (lg_sl ([.ref h0]) ++ List.replicate (5 - (lg_sl ([.ref h0])).length) Slot.unset).toArray = ls at hl ⊢
  have hl : lv_has ls 5 [(0, .ref h0)] := hl
  refine lv_aload_n hx hb dX8_lineUpWaiting_0 rfl (lv_at hl 0 rfl) ?_
  refine lv_iconst (v := 0) hx hb dX8_lineUpWaiting_1 (by decide) ?_
  refine va_put (D := (dC, dI)) (ci := 8) (v := .int 0) (ty := (tyX8 13)) (C := RX8) (T := TX8) (N := 15) hx hb hts hin8 tyX8 tyX8_ok nmX8 hown hK hP hD hS 0 rfl rfl 13 (by decide) (hts (.fieldLink RX8 259 "YamRiders" "lineLength" "I") (by decide +kernel)) (fun _ h9 => h9) rfl (by decide +kernel) rfl rfl (Nat.le_of_ble_eq_true rfl) dX8_lineUpWaiting_2 (fun H locs hP hD hS => ?_)
  have hP : va_P (dC, dI) vwCl ([(h0, .inr (8, [.ref a1, .ref a2, .ref a3, .ref a4, .ref a5, .ref a6, .ref a7, .ref a8, .ref a9, .int j_faultKind, .int j_horseCount, .int j_tabletCount, .int j_riderCount, .int 0, .int j_hour]))] ++ va_pl L f) H := hP
  have hD : va_D A ([(h0, .inr (8, [.ref a1, .ref a2, .ref a3, .ref a4, .ref a5, .ref a6, .ref a7, .ref a8, .ref a9, .int j_faultKind, .int j_horseCount, .int j_tabletCount, .int j_riderCount, .int 0, .int j_hour]))] ++ va_pl L f) := hD
  refine lv_aload_n hx hb dX8_lineUpWaiting_5 rfl (lv_at hl 0 rfl) ?_
  refine va_get (D := (dC, dI)) (ci := 8) (v := .ref a7) (C := RX8) (T := TX8) (N := 15) hx hb hts hin8 hown hK hP 0 rfl rfl 6 (by decide) (hts (.fieldLink RX8 48 "YamRiders" "riders" "[LYamRiders$Rider;") (by decide +kernel)) (fun _ h9 => h9) rfl dX8_lineUpWaiting_6 ?_
  refine lv_astore_n (lv' := [(1, .ref a7), (0, .ref h0)]) hx hb dX8_lineUpWaiting_9 rfl hl (by decide) rfl (fun ls hl => ?_)
  refine lv_aload_n hx hb dX8_lineUpWaiting_10 rfl (lv_at hl 0 rfl) ?_
  have hf_1 : f a7 = .inl (cs 5, 60, .inr (.inr (.inr (.inr (gl ad 2 n2))))) := hT.get hY.2.2.2.2.2.1
  obtain ⟨q_2, hq_2⟩ := pl_at (X := [(h0, .inr (8, [.ref a1, .ref a2, .ref a3, .ref a4, .ref a5, .ref a6, .ref a7, .ref a8, .ref a9, .int j_faultKind, .int j_horseCount, .int j_tabletCount, .int j_riderCount, .int 0, .int j_hour]))]) (f := f) (e := .inl (cs 5, 60, .inr (.inr (.inr (.inr (gl ad 2 n2)))))) hY.2.2.2.2.2.1.1 hf_1
  refine va_alen (v := 60) hx hb hK hP q_2 5 hq_2 rfl rfl dX8_lineUpWaiting_11 ?_
  refine lv_istore_n (lv' := [(2, .int 60), (1, .ref a7), (0, .ref h0)]) hx hb dX8_lineUpWaiting_12 rfl hl (by decide) rfl (fun ls hl => ?_)
  refine lv_iconst (v := 0) hx hb dX8_lineUpWaiting_13 (by decide) ?_
  refine lv_istore_n (lv' := [(3, .int 0), (2, .int 60), (1, .ref a7), (0, .ref h0)]) hx hb dX8_lineUpWaiting_14 rfl hl (by decide) rfl (fun ls hl => ?_)
  have HL : ∀ (n k : Nat) (ll8 : Nat) (lm8 : Nat → Nat) (S8 : Nat → Nat → Nat → Int32), k ≤ 60 → 60 + 1 ≤ k + n → (FR S S8) → (LUk S S8 n2 lm8 ll8 k) → ∀ (f_3 : Nat → va_E) (H : Heap) (locs : List Loc), tB L ka ix ad cs n0 n6 n2 S8 f_3 → va_P (dC, dI) vwCl ([(h0, .inr (8, [.ref a1, .ref a2, .ref a3, .ref a4, .ref a5, .ref a6, .ref a7, .ref a8, .ref a9, .int j_faultKind, .int j_horseCount, .int j_tabletCount, .int j_riderCount, .int (nI ll8), .int j_hour]))] ++ va_pl L f_3) H → va_D A ([(h0, .inr (8, [.ref a1, .ref a2, .ref a3, .ref a4, .ref a5, .ref a6, .ref a7, .ref a8, .ref a9, .int j_faultKind, .int j_horseCount, .int j_tabletCount, .int j_riderCount, .int (nI ll8), .int j_hour]))] ++ va_pl L f_3) → va_S A s.heap H locs → ∀ ls : Array Slot, lv_has ls 5 [(0, .ref h0), (1, .ref a7), (2, .int 60), (3, .int (nI k))] → W p l e (headSpec wsX8_lineUpWaiting ({ frames := 4, cells := 0, slots := 0, locals := 84 })).room s m ([.ref h0]).toArray below meth c H locs 0 0 (MQ below (va_Qv (fun (_ : Unit) => True) (fun (_ : Unit) t9 => ∃ (S2 : Nat → Nat → Nat → Int32) (f2 : Nat → va_E) (ll2 : Nat) (lm2 : Nat → Nat), (tB L ka ix ad cs n0 n6 n2 S2 f2) ∧ (FR S S2) ∧ (ll2 ≤ 60 ∧ LU S S2 n2 lm2 ll2) ∧ cQ dC dI ([(h0, .inr (8, [.ref a1, .ref a2, .ref a3, .ref a4, .ref a5, .ref a6, .ref a7, .ref a8, .ref a9, .int j_faultKind, .int j_horseCount, .int j_tabletCount, .int j_riderCount, .int (nI ll2), .int j_hour]))] ++ va_pl L f2) [] A t9) A) ([.ref h0]).toArray s 0 0 A) (F0 m 15 ls []) := by
    intro n
    induction n with
    | zero => intro k ll8 lm8 S8 h1 h2; exact absurd h2 (by omega)
    | succ n ih =>
      intro k ll8 lm8 S8 hk hn hFrS8 hlu f_3 H locs hT hP hD hS ls hl
      refine lv_iload_n hx hb dX8_lineUpWaiting_15 rfl (lv_at hl 3 rfl) ?_
      refine lv_iload_n hx hb dX8_lineUpWaiting_16 rfl (lv_at hl 2 rfl) ?_
      refine lv_icmp_ge (tgt := 50) hx hb dX8_lineUpWaiting_17 (by decide) (fun c_4 => ?_) (fun c_4 => ?_)
      · have hke : k = 60 := by
          rcases Nat.lt_or_ge k 60 with q | q
          · exact absurd c_4 (nI_ge q (by decide))
          · omega
        have hP9 := hP.part (cx := [(h0, .inr (8, [.ref a1, .ref a2, .ref a3, .ref a4, .ref a5, .ref a6, .ref a7, .ref a8, .ref a9, .int j_faultKind, .int j_horseCount, .int j_tabletCount, .int j_riderCount, .int (nI ll8), .int j_hour]))]) [0] rfl
        have hD9 := hD.part (cx := [(h0, .inr (8, [.ref a1, .ref a2, .ref a3, .ref a4, .ref a5, .ref a6, .ref a7, .ref a8, .ref a9, .int j_faultKind, .int j_horseCount, .int j_tabletCount, .int j_riderCount, .int (nI ll8), .int j_hour]))]) [0] (by decide) rfl
        have hK9 := hK.sub (tys' := []) [] rfl
        refine W.widen (k := 0) (n := 0) (Nat.le_of_ble_eq_true rfl) (Nat.le_of_ble_eq_true rfl) ?_
        exact W.vret hx hb hr (fun t9 ht hW => ⟨⟨(), rfl, trivial, S8, f_3, ll8, lm8, hT, hFrS8, ⟨by have h9 := hlu.2.2.1; rw [hke, mn_e hT.b2] at h9; have h8 := hT.b2; omega, LU_e hlu hke hT.b2⟩, by rw [ht]; exact hP9, va_K.moved hW.alike hK9, hD9⟩, hS.F ht⟩) hS.2.2 dX8_lineUpWaiting_50
      · have hlt : k < 60 := by
          rcases Nat.lt_or_ge k 60 with q | q
          · exact q
          · exact absurd (show nI 60 ≤ nI k from nI_le q (by omega)) c_4
        refine lv_aload_n hx hb dX8_lineUpWaiting_20 rfl (lv_at hl 1 rfl) ?_
        refine lv_iload_n hx hb dX8_lineUpWaiting_21 rfl (lv_at hl 3 rfl) ?_
        have hf_5 : f_3 a7 = .inl (cs 5, 60, .inr (.inr (.inr (.inr (gl ad 2 n2))))) := hT.get hY.2.2.2.2.2.1
        obtain ⟨q_6, hq_6⟩ := pl_at (X := [(h0, .inr (8, [.ref a1, .ref a2, .ref a3, .ref a4, .ref a5, .ref a6, .ref a7, .ref a8, .ref a9, .int j_faultKind, .int j_horseCount, .int j_tabletCount, .int j_riderCount, .int (nI ll8), .int j_hour]))]) (f := f_3) (e := .inl (cs 5, 60, .inr (.inr (.inr (.inr (gl ad 2 n2)))))) hY.2.2.2.2.2.1.1 hf_5
        refine va_aldq hx hb hK hP q_6 5 hq_6 rfl (vp_in_nI (by omega) (by omega)) dX8_lineUpWaiting_22 ?_
        by_cases c_7 : k < n2
        · rw [show gl ad 2 n2 (nI k).toNatClampNeg = some (ad 2 k) from by rw [(nI_clamp (by omega))]; exact gl_p c_7]
          refine W.eq (g2 := F0 m 23 ls [.ref (ad 2 k)]) rfl ?_
          refine lv_astore (lv' := [(4, .ref (ad 2 k)), (0, .ref h0), (1, .ref a7), (2, .int 60), (3, .int (nI k))]) hx hb dX8_lineUpWaiting_23 hl (by decide) rfl (fun ls hl => ?_)
          refine lv_aload hx hb dX8_lineUpWaiting_25 (lv_at hl 0 rfl) ?_
          refine lv_ifnull hx hb dX8_lineUpWaiting_27 ?_
          refine lv_aload hx hb dX8_lineUpWaiting_30 (lv_at hl 0 rfl) ?_
          have hf_8 : f_3 (ad 2 k) = .inr (2, [.int (S8 32 k 0), .int (S8 33 k 0), .ref (ad 37 k), .ref (ad 36 k), .int (S8 36 k 0), .int (S8 37 k 0), .int (S8 38 k 0), va_rf (oq ad 0 (S8 39 k 0)), .int (S8 40 k 0), .int (S8 41 k 0)]) := hT.get (hT.k2 (i := k) (by omega))
          obtain ⟨q_9, hq_9⟩ := pl_at (X := [(h0, .inr (8, [.ref a1, .ref a2, .ref a3, .ref a4, .ref a5, .ref a6, .ref a7, .ref a8, .ref a9, .int j_faultKind, .int j_horseCount, .int j_tabletCount, .int j_riderCount, .int (nI ll8), .int j_hour]))]) (f := f_3) (e := .inr (2, [.int (S8 32 k 0), .int (S8 33 k 0), .ref (ad 37 k), .ref (ad 36 k), .int (S8 36 k 0), .int (S8 37 k 0), .int (S8 38 k 0), va_rf (oq ad 0 (S8 39 k 0)), .int (S8 40 k 0), .int (S8 41 k 0)])) (hT.k2 (i := k) (by omega)).1 hf_8
          refine va_getN (D := (dC, dI)) (ci := 2) (v := .int (S8 36 k 0)) (C := RX2) (T := TX2) (N := 10) hx hb hts hin2 hown hK hP q_9 hq_9 rfl 4 (by decide) (hN.nx (.fieldLinkNest RX8 158 "YamRiders$Rider" "state" "I" "YamRiders") (by decide +kernel)) (fun _ h9 => h9) rfl dX8_lineUpWaiting_32 ?_
          refine lv_if_ne (tgt := 44) hx hb dX8_lineUpWaiting_35 (by decide) (fun c_10 => ?_) (fun c_10 => ?_)
          · refine lv_iinc (v := nI (k + 1)) (lv' := [(3, .int (nI (k + 1))), (4, .ref (ad 2 k)), (0, .ref h0), (1, .ref a7), (2, .int 60)]) hx hb dX8_lineUpWaiting_44 hl (k := 4) rfl (by exact (nI_1 k)) (by decide) rfl (fun ls hl => ?_)
            refine lv_goto (tgt := 15) hx hb dX8_lineUpWaiting_47 (by decide) ?_
            exact ih (k + 1) ll8 lm8 S8 (by omega) (by omega) hFrS8 (LU_n hlu (fun w => c_10 (by rw [hlu.1 36 (by decide)]; exact w.2))) _ _ _ hT (hP.part (cx := _) [0] rfl) (hD.part (cx := _) [0] (by decide) rfl) hS ls (lv_sub hl [2, 3, 4, 0] rfl)
          · refine lv_aload_n hx hb dX8_lineUpWaiting_38 rfl (lv_at hl 1 rfl) ?_
            refine lv_aload hx hb dX8_lineUpWaiting_39 (lv_at hl 0 rfl) ?_
            have hlk9 : ll8 < 60 := by have h9 := hlu.2.2.1; rw [mn_k c_7] at h9; omega
            have hPc := hP.part (cx := [(h0, .inr (8, [.ref a1, .ref a2, .ref a3, .ref a4, .ref a5, .ref a6, .ref a7, .ref a8, .ref a9, .int j_faultKind, .int j_horseCount, .int j_tabletCount, .int j_riderCount, .int (nI ll8), .int j_hour]))]) [0] rfl
            have hDc := hD.part (cx := [(h0, .inr (8, [.ref a1, .ref a2, .ref a3, .ref a4, .ref a5, .ref a6, .ref a7, .ref a8, .ref a9, .int j_faultKind, .int j_horseCount, .int j_tabletCount, .int j_riderCount, .int (nI ll8), .int j_hour]))]) [0] (by decide) rfl
            have hKc := hK
            have hFc := va_freeP (cx := [(h0, .inr (8, [.ref a1, .ref a2, .ref a3, .ref a4, .ref a5, .ref a6, .ref a7, .ref a8, .ref a9, .int j_faultKind, .int j_horseCount, .int j_tabletCount, .int j_riderCount, .int (nI ll8), .int j_hour]))]) hD hS hA [0] rfl
            refine va_callv (va_runV (As := [.ref (ad 2 k)]) (rest := []) ⟨hx, hb, hml, hown, hts⟩ (e_X8_putInLine l dC dI cs L ka ix ad n0 n6 n2 S8 f_3 gq k h0 a1 a2 a3 a4 a5 a6 a7 a8 a9 j_faultKind j_horseCount j_tabletCount j_riderCount j_hour (ad 2 k) ll8 lm8 H.size hT hY (hT.k2 (i := k) (by omega)) (by omega) (by omega) hlu.2.1) (cwV 1 hts gX8_lineUpWaiting_X8_putInLine rfl rfl rfl (by decide +kernel) ⟨Nat.le_of_ble_eq_true rfl, Nat.le_of_ble_eq_true rfl⟩) ⟨c_blind, va_recv hKc hPc (ci := 8) (q0 := 0) rfl rfl, c_pre hPc hKc hDc hN⟩ rfl rfl hl.1 rfl (lv_room (Nat.le_of_ble_eq_true rfl)) dX8_lineUpWaiting_41 ⟨Nat.le_of_ble_eq_true rfl, Nat.le_of_ble_eq_true rfl⟩) hS (fun q _ h => hFc q h) hFc (fun u9 t9 H1 locs ht hvm hw hB hz1 hk1 hS => ?_)
            obtain ⟨S_12, f_13, hf_x_14, hf_x_15, hf_x_16, hP1, hK1, hD1⟩ := hB
            rw [ht] at hP1
            have hK1 := va_K.moved hvm.symm hK1
            obtain ⟨hP, hD⟩ := va_joinP (X := [(h0, .inr (8, [.ref a1, .ref a2, .ref a3, .ref a4, .ref a5, .ref a6, .ref a7, .ref a8, .ref a9, .int j_faultKind, .int j_horseCount, .int j_tabletCount, .int j_riderCount, .int (nI ll8), .int j_hour]))]) (cx := [(h0, .inr (8, [.ref a1, .ref a2, .ref a3, .ref a4, .ref a5, .ref a6, .ref a7, .ref a8, .ref a9, .int j_faultKind, .int j_horseCount, .int j_tabletCount, .int j_riderCount, .int (nI ll8), .int j_hour]))]) (wr := []) (rx := [(h0, .inr (8, [.ref a1, .ref a2, .ref a3, .ref a4, .ref a5, .ref a6, .ref a7, .ref a8, .ref a9, .int j_faultKind, .int j_horseCount, .int j_tabletCount, .int j_riderCount, .int (nI (ll8 + 1)), .int j_hour]))]) (pl := va_pl L f_3) (pl1 := va_pl L f_13) hP hD [0] [] rfl rfl (by decide) (by decide) hk1 hFc hP1 hD1
            have hT := hf_x_14
            generalize H1 = H at hP hS ⊢
            have hP : va_P (dC, dI) vwCl ([(h0, .inr (8, [.ref a1, .ref a2, .ref a3, .ref a4, .ref a5, .ref a6, .ref a7, .ref a8, .ref a9, .int j_faultKind, .int j_horseCount, .int j_tabletCount, .int j_riderCount, .int (nI (ll8 + 1)), .int j_hour]))] ++ va_pl L f_13) H := hP
            have hD : va_D A ([(h0, .inr (8, [.ref a1, .ref a2, .ref a3, .ref a4, .ref a5, .ref a6, .ref a7, .ref a8, .ref a9, .int j_faultKind, .int j_horseCount, .int j_tabletCount, .int j_riderCount, .int (nI (ll8 + 1)), .int j_hour]))] ++ va_pl L f_13) := hD
            have hFr_17 := FR.tr hFrS8 hf_x_15
            refine W.widen (k := 0) (n := 0) (Nat.le_of_ble_eq_true rfl) (Nat.le_of_ble_eq_true rfl) ?_
            refine lv_iinc (v := nI (k + 1)) (lv' := [(3, .int (nI (k + 1))), (4, .ref (ad 2 k)), (0, .ref h0), (1, .ref a7), (2, .int 60)]) hx hb dX8_lineUpWaiting_44 hl (k := 4) rfl (by exact (nI_1 k)) (by decide) rfl (fun ls hl => ?_)
            refine lv_goto (tgt := 15) hx hb dX8_lineUpWaiting_47 (by decide) ?_
            obtain ⟨lm9, hlu9⟩ := LU_y hlu c_7 (by have h9 := hT.b2; omega) (by rw [← hlu.1 36 (by decide)]; exact c_10) hf_x_16
            exact ih (k + 1) (ll8 + 1) lm9 S_12 (by omega) (by omega) hFr_17 hlu9 _ _ _ hT (hP.part (cx := _) [0] rfl) (hD.part (cx := _) [0] (by decide) rfl) hS ls (lv_sub hl [2, 3, 4, 0] rfl)
        · rw [show gl ad 2 n2 (nI k).toNatClampNeg = none from by rw [(nI_clamp (by omega))]; exact gl_n c_7]
          refine W.eq (g2 := F0 m 23 ls [.null]) rfl ?_
          refine lv_astoreN (lv' := [(4, .null), (0, .ref h0), (1, .ref a7), (2, .int 60), (3, .int (nI k))]) hx hb dX8_lineUpWaiting_23 hl (by decide) rfl (fun ls hl => ?_)
          refine lv_aloadN hx hb dX8_lineUpWaiting_25 (lv_at hl 0 rfl) ?_
          refine lv_ifnullN (tgt := 44) hx hb dX8_lineUpWaiting_27 (by decide) ?_
          refine lv_iinc (v := nI (k + 1)) (lv' := [(3, .int (nI (k + 1))), (4, .null), (0, .ref h0), (1, .ref a7), (2, .int 60)]) hx hb dX8_lineUpWaiting_44 hl (k := 4) rfl (by exact (nI_1 k)) (by decide) rfl (fun ls hl => ?_)
          refine lv_goto (tgt := 15) hx hb dX8_lineUpWaiting_47 (by decide) ?_
          exact ih (k + 1) ll8 lm8 S8 (by omega) (by omega) hFrS8 (LU_n hlu (fun w => c_7 w.1)) _ _ _ hT (hP.part (cx := _) [0] rfl) (hD.part (cx := _) [0] (by decide) rfl) hS ls (lv_sub hl [2, 3, 4, 0] rfl)
  exact HL 61 0 0 (fun _ => 0) S (by omega) (by omega) FR.rf (LU_0 AL.rf) _ _ _ hT (hP.part (cx := _) [0] rfl) (hD.part (cx := _) [0] (by decide) rfl) hS ls (lv_sub hl [3, 2, 1, 0] rfl)

set_option maxHeartbeats 4000000 in
set_option maxRecDepth 100000 in
theorem e_X8_send (l : Launch) (dC : Nat → ClassId) (dI : Nat → Nat → Nat) (cs : Nat → ClassId) (L : List Nat) (ka : Nat → Nat) (ix : Nat → Nat) (ad : Nat → Nat → Nat) (n0 : Nat) (n6 : Nat) (n2 : Nat) (S : Nat → Nat → Nat → Int32) (f : Nat → va_E) (gq : Nat) (i9 : Nat) (h0 : Nat) (a1 : Nat) (a2 : Nat) (a3 : Nat) (a4 : Nat) (a5 : Nat) (a6 : Nat) (a7 : Nat) (a8 : Nat) (a9 : Nat) (j_faultKind : Int32) (j_horseCount : Int32) (j_tabletCount : Int32) (j_riderCount : Int32) (j_lineLength : Int32) (j_hour : Int32) (e1 : Nat) (sz : Nat) (hT : tB L ka ix ad cs n0 n6 n2 S f) (hY : yX L ka ix ad gq a2 a3 a4 a5 a6 a7 a8 a9) (hk_e1 : tpx L ka ix 2 i9 e1) (hlt_i9 : i9 < n2) : Met l yX8_send wsX8_send ({ frames := 3, cells := 0, slots := 0, locals := 64 }) (va_Pc [.ref h0, .ref e1] (cP dC dI ([(h0, .inr (8, [.ref a1, .ref a2, .ref a3, .ref a4, .ref a5, .ref a6, .ref a7, .ref a8, .ref a9, .int j_faultKind, .int j_horseCount, .int j_tabletCount, .int j_riderCount, .int j_lineLength, .int j_hour]))] ++ va_pl L f) (tyC cs) sz)) (va_Qv (fun (_ : Unit) => True) (fun (_ : Unit) t9 => ∃ (S2 : Nat → Nat → Nat → Int32) (f2 : Nat → va_E), (tB L ka ix ad cs n0 n6 n2 S2 f2) ∧ (FR S S2) ∧ (S2 = sdS S gq n0 n6 j_hour i9) ∧ cQ dC dI ([(h0, .inr (8, [.ref a1, .ref a2, .ref a3, .ref a4, .ref a5, .ref a6, .ref a7, .ref a8, .ref a9, .int j_faultKind, .int j_horseCount, .int j_tabletCount, .int j_riderCount, .int j_lineLength, .int j_hour]))] ++ va_pl L f2) [] (va_A ([(h0, .inr (8, [.ref a1, .ref a2, .ref a3, .ref a4, .ref a5, .ref a6, .ref a7, .ref a8, .ref a9, .int j_faultKind, .int j_horseCount, .int j_tabletCount, .int j_riderCount, .int j_lineLength, .int j_hour]))] ++ va_pl L f) sz) t9) (va_A ([(h0, .inr (8, [.ref a1, .ref a2, .ref a3, .ref a4, .ref a5, .ref a6, .ref a7, .ref a8, .ref a9, .int j_faultKind, .int j_horseCount, .int j_tabletCount, .int j_riderCount, .int j_lineLength, .int j_hour]))] ++ va_pl L f) sz)) 0 0 (va_A ([(h0, .inr (8, [.ref a1, .ref a2, .ref a3, .ref a4, .ref a5, .ref a6, .ref a7, .ref a8, .ref a9, .int j_faultKind, .int j_horseCount, .int j_tabletCount, .int j_riderCount, .int j_lineLength, .int j_hour]))] ++ va_pl L f) sz) := by
  refine Met.ofW (cc := cX8_send) (maxL := 5) (ret := none) (by decide) rfl ?_
  intro p e s m args below meth c s₁ B hml hv
  obtain ⟨rfl, hsz, hP, hK, hD0, hN⟩ := hv
  have hx := B.exec
  have hb := B.bytes
  have hr := B.returns
  have hts := atoms_spec (ws := wsX8_send) B.pre
  have hown : s.vm.findClass RX8 = some m.cls := findClass_of_methodNamed B.named
  have hlocks := B.notSynchronized
  subst hsz
  have hin0 : ∀ w ∈ u_ws RX0 TX0 3, w ∈ wsX8_send := by decide +kernel
  have hin2 : ∀ w ∈ u_ws RX2 TX2 10, w ∈ wsX8_send := by decide +kernel
  have hin8 : ∀ w ∈ u_ws RX8 TX8 15, w ∈ wsX8_send := by decide +kernel
  have hD := hD0.self (sz := s.heap.size)
  generalize hAe : va_A ([(h0, .inr (8, [.ref a1, .ref a2, .ref a3, .ref a4, .ref a5, .ref a6, .ref a7, .ref a8, .ref a9, .int j_faultKind, .int j_horseCount, .int j_tabletCount, .int j_riderCount, .int j_lineLength, .int j_hour]))] ++ va_pl L f) s.heap.size = A at hD ⊢
  have hA : ∀ q : Nat, s.heap.size ≤ q → A q := fun q h => by rw [← hAe]; exact Or.inr h
  have hS : va_S A s.heap s.heap [] := va_S.rf
  have hP : va_P (dC, dI) vwCl ([(h0, .inr (8, [.ref a1, .ref a2, .ref a3, .ref a4, .ref a5, .ref a6, .ref a7, .ref a8, .ref a9, .int j_faultKind, .int j_horseCount, .int j_tabletCount, .int j_riderCount, .int j_lineLength, .int j_hour]))] ++ va_pl L f) s.heap := hP
  have hl := lv_entry ([.ref h0, .ref e1]) (n := 5) (Nat.le_of_ble_eq_true rfl)
  rw [lg_entry_eq]
  generalize (lg_sl ([.ref h0, .ref e1]) ++ List.replicate (5 - (lg_sl ([.ref h0, .ref e1])).length) Slot.unset).toArray = ls at hl ⊢
  have hl : lv_has ls 5 [(0, .ref h0), (1, .ref e1)] := hl
  refine lv_aload_n hx hb dX8_send_0 rfl (lv_at hl 1 rfl) ?_
  have hPc := hP.part (cx := []) [] rfl
  have hDc := hD.part (cx := []) [] (by decide) rfl
  have hKc := hK
  have hf_1 : f e1 = .inr (2, [.int (S 32 i9 0), .int (S 33 i9 0), .ref (ad 37 i9), .ref (ad 36 i9), .int (S 36 i9 0), .int (S 37 i9 0), .int (S 38 i9 0), va_rf (oq ad 0 (S 39 i9 0)), .int (S 40 i9 0), .int (S 41 i9 0)]) := hT.get hk_e1
  obtain ⟨q_2, hq_2⟩ := pl_at (X := []) (f := f) (e := .inr (2, [.int (S 32 i9 0), .int (S 33 i9 0), .ref (ad 37 i9), .ref (ad 36 i9), .int (S 36 i9 0), .int (S 37 i9 0), .int (S 38 i9 0), va_rf (oq ad 0 (S 39 i9 0)), .int (S 40 i9 0), .int (S 41 i9 0)])) hk_e1.1 hf_1
  refine cs_i (va_runV (As := []) (rest := []) ⟨hx, hb, hml, hown, hts⟩ (e_X2_lastStation l dC dI cs L ka ix ad n0 n6 n2 S f i9 e1 s.heap.size hT hk_e1 (by omega)) (cwV 0 hts gX8_send_X2_lastStation rfl rfl rfl (by decide +kernel) ⟨Nat.le_of_ble_eq_true rfl, Nat.le_of_ble_eq_true rfl⟩) ⟨c_blind, va_recv hKc hPc (ci := 2) (q0 := q_2) rfl hq_2, c_pre hPc hKc hDc hN⟩ rfl rfl hl.1 rfl (lv_room (Nat.le_of_ble_eq_true rfl)) dX8_send_1 ⟨Nat.le_of_ble_eq_true rfl, Nat.le_of_ble_eq_true rfl⟩) (fun r_3 hr_3 => ?_)
  subst hr_3
  refine lv_istore_n (lv' := [(2, .int (sSW S i9 ((S 37 i9 0) - 1))), (0, .ref h0), (1, .ref e1)]) hx hb dX8_send_4 rfl hl (by decide) rfl (fun ls hl => ?_)
  refine lv_aload_n hx hb dX8_send_5 rfl (lv_at hl 1 rfl) ?_
  refine lv_aload_n hx hb dX8_send_6 rfl (lv_at hl 2 rfl) ?_
  obtain ⟨q_4, hq_4⟩ := pl_at (X := [(h0, .inr (8, [.ref a1, .ref a2, .ref a3, .ref a4, .ref a5, .ref a6, .ref a7, .ref a8, .ref a9, .int j_faultKind, .int j_horseCount, .int j_tabletCount, .int j_riderCount, .int j_lineLength, .int j_hour]))]) (f := f) (e := .inr (2, [.int (S 32 i9 0), .int (S 33 i9 0), .ref (ad 37 i9), .ref (ad 36 i9), .int (S 36 i9 0), .int (S 37 i9 0), .int (S 38 i9 0), va_rf (oq ad 0 (S 39 i9 0)), .int (S 40 i9 0), .int (S 41 i9 0)])) hk_e1.1 hf_1
  refine va_getN (D := (dC, dI)) (ci := 2) (v := .int (S 32 i9 0)) (C := RX2) (T := TX2) (N := 10) hx hb hts hin2 hown hK hP q_4 hq_4 rfl 0 (by decide) (hN.nx (.fieldLinkNest RX8 193 "YamRiders$Rider" "tablet" "I" "YamRiders") (by decide +kernel)) (fun _ h9 => h9) rfl dX8_send_7 ?_
  refine lv_iload_n hx hb dX8_send_10 rfl (lv_at hl 0 rfl) ?_
  have hPc := hP.part (cx := [(h0, .inr (8, [.ref a1, .ref a2, .ref a3, .ref a4, .ref a5, .ref a6, .ref a7, .ref a8, .ref a9, .int j_faultKind, .int j_horseCount, .int j_tabletCount, .int j_riderCount, .int j_lineLength, .int j_hour]))]) [0] rfl
  have hDc := hD.part (cx := [(h0, .inr (8, [.ref a1, .ref a2, .ref a3, .ref a4, .ref a5, .ref a6, .ref a7, .ref a8, .ref a9, .int j_faultKind, .int j_horseCount, .int j_tabletCount, .int j_riderCount, .int j_lineLength, .int j_hour]))]) [0] (by decide) rfl
  have hKc := hK
  refine cs_i (va_runV (As := [.int (S 32 i9 0), .int (sSW S i9 ((S 37 i9 0) - 1))]) (rest := []) ⟨hx, hb, hml, hown, hts⟩ (e_X8_voided l dC dI cs L ka ix ad n0 n6 n2 S f gq h0 a1 a2 a3 a4 a5 a6 a7 a8 a9 j_faultKind j_horseCount j_tabletCount j_riderCount j_lineLength j_hour (S 32 i9 0) (sSW S i9 ((S 37 i9 0) - 1)) s.heap.size hT hY) (cwV 2 hts gX8_send_X8_voided rfl rfl rfl (by decide +kernel) ⟨Nat.le_of_ble_eq_true rfl, Nat.le_of_ble_eq_true rfl⟩) ⟨c_blind, va_recv hKc hPc (ci := 8) (q0 := 0) rfl rfl, c_pre hPc hKc hDc hN⟩ rfl rfl hl.1 rfl (lv_room (Nat.le_of_ble_eq_true rfl)) dX8_send_11 ⟨Nat.le_of_ble_eq_true rfl, Nat.le_of_ble_eq_true rfl⟩) (fun r_5 hr_5 => ?_)
  subst hr_5
  refine lv_iconst (v := (-1)) hx hb dX8_send_14 (by decide) ?_
  refine lv_icmp_eq (tgt := 24) hx hb dX8_send_15 (by decide) (fun c_6 => ?_) (fun c_6 => ?_)
  · refine lv_aload_n hx hb dX8_send_24 rfl (lv_at hl 1 rfl) ?_
    refine va_get (D := (dC, dI)) (ci := 8) (v := .ref a2) (C := RX8) (T := TX8) (N := 15) hx hb hts hin8 hown hK hP 0 rfl rfl 1 (by decide) (hts (.fieldLink RX8 19 "YamRiders" "roads" "LYamRiders$Roads;") (by decide +kernel)) (fun _ h9 => h9) rfl dX8_send_25 ?_
    refine lv_iload_n hx hb dX8_send_28 rfl (lv_at hl 0 rfl) ?_
    refine lv_aload_n hx hb dX8_send_29 rfl (lv_at hl 2 rfl) ?_
    have hPc := hP.part (cx := []) [] rfl
    have hDc := hD.part (cx := []) [] (by decide) rfl
    have hKc := hK
    obtain ⟨q_7, hq_7⟩ := pl_at (X := []) (f := f) (e := .inr (2, [.int (S 32 i9 0), .int (S 33 i9 0), .ref (ad 37 i9), .ref (ad 36 i9), .int (S 36 i9 0), .int (S 37 i9 0), .int (S 38 i9 0), va_rf (oq ad 0 (S 39 i9 0)), .int (S 40 i9 0), .int (S 41 i9 0)])) hk_e1.1 hf_1
    refine cs_i (va_runV (As := []) (rest := [.int (sSW S i9 ((S 37 i9 0) - 1)), .ref a2]) ⟨hx, hb, hml, hown, hts⟩ (e_X2_nextStation l dC dI cs L ka ix ad n0 n6 n2 S f i9 e1 s.heap.size hT hk_e1 (by omega)) (cwV 0 hts gX8_send_X2_nextStation rfl rfl rfl (by decide +kernel) ⟨Nat.le_of_ble_eq_true rfl, Nat.le_of_ble_eq_true rfl⟩) ⟨c_blind, va_recv hKc hPc (ci := 2) (q0 := q_7) rfl hq_7, c_pre hPc hKc hDc hN⟩ rfl rfl hl.1 rfl (lv_room (Nat.le_of_ble_eq_true rfl)) dX8_send_30 ⟨Nat.le_of_ble_eq_true rfl, Nat.le_of_ble_eq_true rfl⟩) (fun r_8 hr_8 => ?_)
    subst hr_8
    have hPc := hP.part (cx := []) [] rfl
    have hDc := hD.part (cx := []) [] (by decide) rfl
    have hKc := hK
    have hf_9 : f a2 = .inr (3, [.ref (ad 24 0), .ref (ad 25 0), .ref (ad 31 0), .ref (ad 32 0), .ref (ad 33 0)]) := hT.get hY.1
    obtain ⟨q_10, hq_10⟩ := pl_at (X := []) (f := f) (e := .inr (3, [.ref (ad 24 0), .ref (ad 25 0), .ref (ad 31 0), .ref (ad 32 0), .ref (ad 33 0)])) hY.1.1 hf_9
    refine cs_i (va_runV (As := [.int (sSW S i9 ((S 37 i9 0) - 1)), .int (sSW S i9 (S 37 i9 0))]) (rest := []) ⟨hx, hb, hml, hown, hts⟩ (e_X3_time l dC dI cs L ka ix ad n0 n6 n2 S f a2 (sSW S i9 ((S 37 i9 0) - 1)) (sSW S i9 (S 37 i9 0)) s.heap.size hT hY.1) (cwV 2 hts gX8_send_X3_timeBetween rfl rfl rfl (by decide +kernel) ⟨Nat.le_of_ble_eq_true rfl, Nat.le_of_ble_eq_true rfl⟩) ⟨c_blind, va_recv hKc hPc (ci := 3) (q0 := q_10) rfl hq_10, c_pre hPc hKc hDc hN⟩ rfl rfl hl.1 rfl (lv_room (Nat.le_of_ble_eq_true rfl)) dX8_send_33 ⟨Nat.le_of_ble_eq_true rfl, Nat.le_of_ble_eq_true rfl⟩) (fun r_11 hr_11 => ?_)
    subst hr_11
    refine lv_istore_n (lv' := [(3, .int (tmG S (sSW S i9 ((S 37 i9 0) - 1)) (sSW S i9 (S 37 i9 0)))), (2, .int (sSW S i9 ((S 37 i9 0) - 1))), (0, .ref h0), (1, .ref e1)]) hx hb dX8_send_36 rfl hl (by decide) rfl (fun ls hl => ?_)
    refine lv_aload_n hx hb dX8_send_37 rfl (lv_at hl 2 rfl) ?_
    refine lv_iload_n hx hb dX8_send_38 rfl (lv_at hl 1 rfl) ?_
    have hPc := hP.part (cx := [(h0, .inr (8, [.ref a1, .ref a2, .ref a3, .ref a4, .ref a5, .ref a6, .ref a7, .ref a8, .ref a9, .int j_faultKind, .int j_horseCount, .int j_tabletCount, .int j_riderCount, .int j_lineLength, .int j_hour]))]) [0] rfl
    have hDc := hD.part (cx := [(h0, .inr (8, [.ref a1, .ref a2, .ref a3, .ref a4, .ref a5, .ref a6, .ref a7, .ref a8, .ref a9, .int j_faultKind, .int j_horseCount, .int j_tabletCount, .int j_riderCount, .int j_lineLength, .int j_hour]))]) [0] (by decide) rfl
    have hKc := hK
    refine cs_q (va_runV (As := [.int (sSW S i9 ((S 37 i9 0) - 1))]) (rest := []) ⟨hx, hb, hml, hown, hts⟩ (e_X8_strongestAt l dC dI cs L ka ix ad n0 n6 n2 S f gq h0 a1 a2 a3 a4 a5 a6 a7 a8 a9 j_faultKind j_horseCount j_tabletCount j_riderCount j_lineLength j_hour (sSW S i9 ((S 37 i9 0) - 1)) s.heap.size hT hY) (cwV 1 hts gX8_send_X8_strongestAt rfl rfl rfl (by decide +kernel) ⟨Nat.le_of_ble_eq_true rfl, Nat.le_of_ble_eq_true rfl⟩) ⟨c_blind, va_recv hKc hPc (ci := 8) (q0 := 0) rfl rfl, c_pre hPc hKc hDc hN⟩ rfl rfl hl.1 rfl (lv_room (Nat.le_of_ble_eq_true rfl)) dX8_send_39 ⟨Nat.le_of_ble_eq_true rfl, Nat.le_of_ble_eq_true rfl⟩) (fun o_12 ho_12 => ?_)
    subst ho_12
    by_cases c_13 : bst S (sSW S i9 ((S 37 i9 0) - 1)) n0 = -1
    · rw [show oq ad 0 (bst S (sSW S i9 ((S 37 i9 0) - 1)) n0) = none from oq_n c_13]
      refine W.eq (g2 := F0 m 42 ls [.null]) rfl ?_
      refine lv_astoreN (lv' := [(4, .null), (3, .int (tmG S (sSW S i9 ((S 37 i9 0) - 1)) (sSW S i9 (S 37 i9 0)))), (2, .int (sSW S i9 ((S 37 i9 0) - 1))), (0, .ref h0), (1, .ref e1)]) hx hb dX8_send_42 hl (by decide) rfl (fun ls hl => ?_)
      refine lv_iload_n hx hb dX8_send_44 rfl (lv_at hl 1 rfl) ?_
      refine lv_iconst (v := (-1)) hx hb dX8_send_45 (by decide) ?_
      refine lv_icmp_eq (tgt := 90) hx hb dX8_send_46 (by decide) (fun c_14 => ?_) (fun c_14 => ?_)
      · have hP9 := hP.part (cx := [(h0, .inr (8, [.ref a1, .ref a2, .ref a3, .ref a4, .ref a5, .ref a6, .ref a7, .ref a8, .ref a9, .int j_faultKind, .int j_horseCount, .int j_tabletCount, .int j_riderCount, .int j_lineLength, .int j_hour]))]) [0] rfl
        have hD9 := hD.part (cx := [(h0, .inr (8, [.ref a1, .ref a2, .ref a3, .ref a4, .ref a5, .ref a6, .ref a7, .ref a8, .ref a9, .int j_faultKind, .int j_horseCount, .int j_tabletCount, .int j_riderCount, .int j_lineLength, .int j_hour]))]) [0] (by decide) rfl
        have hK9 := hK.sub (tys' := []) [] rfl
        refine W.widen (k := 0) (n := 0) (Nat.le_of_ble_eq_true rfl) (Nat.le_of_ble_eq_true rfl) ?_
        exact W.vret hx hb hr (fun t9 ht hW => ⟨⟨(), rfl, trivial, S, f, hT, FR.rf, (by unfold sdS; rw [if_pos c_6]; unfold sd2; rw [if_pos c_13]), by rw [ht]; exact hP9, va_K.moved hW.alike hK9, hD9⟩, hS.F ht⟩) hS.2.2 dX8_send_90
      · refine lv_aloadN hx hb dX8_send_49 (lv_at hl 0 rfl) ?_
        refine lv_ifnullN (tgt := 90) hx hb dX8_send_51 (by decide) ?_
        have hP9 := hP.part (cx := [(h0, .inr (8, [.ref a1, .ref a2, .ref a3, .ref a4, .ref a5, .ref a6, .ref a7, .ref a8, .ref a9, .int j_faultKind, .int j_horseCount, .int j_tabletCount, .int j_riderCount, .int j_lineLength, .int j_hour]))]) [0] rfl
        have hD9 := hD.part (cx := [(h0, .inr (8, [.ref a1, .ref a2, .ref a3, .ref a4, .ref a5, .ref a6, .ref a7, .ref a8, .ref a9, .int j_faultKind, .int j_horseCount, .int j_tabletCount, .int j_riderCount, .int j_lineLength, .int j_hour]))]) [0] (by decide) rfl
        have hK9 := hK.sub (tys' := []) [] rfl
        refine W.widen (k := 0) (n := 0) (Nat.le_of_ble_eq_true rfl) (Nat.le_of_ble_eq_true rfl) ?_
        exact W.vret hx hb hr (fun t9 ht hW => ⟨⟨(), rfl, trivial, S, f, hT, FR.rf, (by unfold sdS; rw [if_pos c_6]; unfold sd2; rw [if_pos c_13]), by rw [ht]; exact hP9, va_K.moved hW.alike hK9, hD9⟩, hS.F ht⟩) hS.2.2 dX8_send_90
    · obtain ⟨u_15, hu_15, eu_15⟩ := (bst_v _).resolve_left c_13
      have hn9 := hT.b0
      rw [show oq ad 0 (bst S (sSW S i9 ((S 37 i9 0) - 1)) n0) = some (ad 0 u_15) from by rw [eu_15]; exact oq_s (by omega)]
      refine W.eq (g2 := F0 m 42 ls [.ref (ad 0 u_15)]) rfl ?_
      refine lv_astore (lv' := [(4, .ref (ad 0 u_15)), (3, .int (tmG S (sSW S i9 ((S 37 i9 0) - 1)) (sSW S i9 (S 37 i9 0)))), (2, .int (sSW S i9 ((S 37 i9 0) - 1))), (0, .ref h0), (1, .ref e1)]) hx hb dX8_send_42 hl (by decide) rfl (fun ls hl => ?_)
      refine lv_iload_n hx hb dX8_send_44 rfl (lv_at hl 1 rfl) ?_
      refine lv_iconst (v := (-1)) hx hb dX8_send_45 (by decide) ?_
      refine lv_icmp_eq (tgt := 90) hx hb dX8_send_46 (by decide) (fun c_16 => ?_) (fun c_16 => ?_)
      · have hP9 := hP.part (cx := [(h0, .inr (8, [.ref a1, .ref a2, .ref a3, .ref a4, .ref a5, .ref a6, .ref a7, .ref a8, .ref a9, .int j_faultKind, .int j_horseCount, .int j_tabletCount, .int j_riderCount, .int j_lineLength, .int j_hour]))]) [0] rfl
        have hD9 := hD.part (cx := [(h0, .inr (8, [.ref a1, .ref a2, .ref a3, .ref a4, .ref a5, .ref a6, .ref a7, .ref a8, .ref a9, .int j_faultKind, .int j_horseCount, .int j_tabletCount, .int j_riderCount, .int j_lineLength, .int j_hour]))]) [0] (by decide) rfl
        have hK9 := hK.sub (tys' := []) [] rfl
        refine W.widen (k := 0) (n := 0) (Nat.le_of_ble_eq_true rfl) (Nat.le_of_ble_eq_true rfl) ?_
        exact W.vret hx hb hr (fun t9 ht hW => ⟨⟨(), rfl, trivial, S, f, hT, FR.rf, (by unfold sdS; rw [if_pos c_6]; unfold sd2; rw [if_neg c_13, eu_15, nI_clamp (by omega), if_pos c_16]), by rw [ht]; exact hP9, va_K.moved hW.alike hK9, hD9⟩, hS.F ht⟩) hS.2.2 dX8_send_90
      · refine lv_aload hx hb dX8_send_49 (lv_at hl 0 rfl) ?_
        refine lv_ifnull hx hb dX8_send_51 ?_
        refine lv_aload_n hx hb dX8_send_54 rfl (lv_at hl 3 rfl) ?_
        refine lv_iload_n hx hb dX8_send_55 rfl (lv_at hl 2 rfl) ?_
        have hPc := hP.part (cx := [(h0, .inr (8, [.ref a1, .ref a2, .ref a3, .ref a4, .ref a5, .ref a6, .ref a7, .ref a8, .ref a9, .int j_faultKind, .int j_horseCount, .int j_tabletCount, .int j_riderCount, .int j_lineLength, .int j_hour]))]) [0] rfl
        have hDc := hD.part (cx := [(h0, .inr (8, [.ref a1, .ref a2, .ref a3, .ref a4, .ref a5, .ref a6, .ref a7, .ref a8, .ref a9, .int j_faultKind, .int j_horseCount, .int j_tabletCount, .int j_riderCount, .int j_lineLength, .int j_hour]))]) [0] (by decide) rfl
        have hKc := hK
        refine cs_i (va_runV (As := [.int (sSW S i9 ((S 37 i9 0) - 1))]) (rest := []) ⟨hx, hb, hml, hown, hts⟩ (e_X8_horsesAt l dC dI cs L ka ix ad n0 n6 n2 S f gq h0 a1 a2 a3 a4 a5 a6 a7 a8 a9 j_faultKind j_horseCount j_tabletCount j_riderCount j_lineLength j_hour (sSW S i9 ((S 37 i9 0) - 1)) s.heap.size hT hY) (cwV 1 hts gX8_send_X8_horsesAt rfl rfl rfl (by decide +kernel) ⟨Nat.le_of_ble_eq_true rfl, Nat.le_of_ble_eq_true rfl⟩) ⟨c_blind, va_recv hKc hPc (ci := 8) (q0 := 0) rfl rfl, c_pre hPc hKc hDc hN⟩ rfl rfl hl.1 rfl (lv_room (Nat.le_of_ble_eq_true rfl)) dX8_send_56 ⟨Nat.le_of_ble_eq_true rfl, Nat.le_of_ble_eq_true rfl⟩) (fun r_17 hr_17 => ?_)
        subst hr_17
        refine lv_aload_n hx hb dX8_send_59 rfl (lv_at hl 3 rfl) ?_
        refine va_get (D := (dC, dI)) (ci := 8) (v := .ref a9) (C := RX8) (T := TX8) (N := 15) hx hb hts hin8 hown hK hP 0 rfl rfl 8 (by decide) (hts (.fieldLink RX8 58 "YamRiders" "law" "LYamRiders$Statutes;") (by decide +kernel)) (fun _ h9 => h9) rfl dX8_send_60 ?_
        refine lv_aload_n hx hb dX8_send_63 rfl (lv_at hl 4 rfl) ?_
        obtain ⟨q_18, hq_18⟩ := pl_at (X := [(h0, .inr (8, [.ref a1, .ref a2, .ref a3, .ref a4, .ref a5, .ref a6, .ref a7, .ref a8, .ref a9, .int j_faultKind, .int j_horseCount, .int j_tabletCount, .int j_riderCount, .int j_lineLength, .int j_hour]))]) (f := f) (e := .inr (2, [.int (S 32 i9 0), .int (S 33 i9 0), .ref (ad 37 i9), .ref (ad 36 i9), .int (S 36 i9 0), .int (S 37 i9 0), .int (S 38 i9 0), va_rf (oq ad 0 (S 39 i9 0)), .int (S 40 i9 0), .int (S 41 i9 0)])) hk_e1.1 hf_1
        refine va_getN (D := (dC, dI)) (ci := 2) (v := .int (S 33 i9 0)) (C := RX2) (T := TX2) (N := 10) hx hb hts hin2 hown hK hP q_18 hq_18 rfl 1 (by decide) (hN.nx (.fieldLinkNest RX8 270 "YamRiders$Rider" "rank" "I" "YamRiders") (by decide +kernel)) (fun _ h9 => h9) rfl dX8_send_64 ?_
        have hPc := hP.part (cx := []) [] rfl
        have hDc := hD.part (cx := []) [] (by decide) rfl
        have hKc := hK
        have hf_19 : f a9 = .inr (5, [.ref (ad 14 gq)]) := hT.get hY.2.2.2.2.2.2.2.1
        obtain ⟨q_20, hq_20⟩ := pl_at (X := []) (f := f) (e := .inr (5, [.ref (ad 14 gq)])) hY.2.2.2.2.2.2.2.1.1 hf_19
        refine cs_i (va_runV (As := [.int (S 33 i9 0)]) (rest := [.int (nI (cn (pH S (sSW S i9 ((S 37 i9 0) - 1))) n0))]) ⟨hx, hb, hml, hown, hts⟩ (e_X5_keepFor l dC dI cs L ka ix ad n0 n6 n2 S f gq a9 (S 33 i9 0) s.heap.size hT hY.2.2.2.2.2.2.2.2 hY.2.2.2.2.2.2.2.1) (cwV 1 hts gX8_send_X5_keepFor rfl rfl rfl (by decide +kernel) ⟨Nat.le_of_ble_eq_true rfl, Nat.le_of_ble_eq_true rfl⟩) ⟨c_blind, va_recv hKc hPc (ci := 5) (q0 := q_20) rfl hq_20, c_pre hPc hKc hDc hN⟩ rfl rfl hl.1 rfl (lv_room (Nat.le_of_ble_eq_true rfl)) dX8_send_67 ⟨Nat.le_of_ble_eq_true rfl, Nat.le_of_ble_eq_true rfl⟩) (fun r_21 hr_21 => ?_)
        subst hr_21
        refine lv_icmp_le (tgt := 90) hx hb dX8_send_70 (by decide) (fun c_22 => ?_) (fun c_22 => ?_)
        · have hP9 := hP.part (cx := [(h0, .inr (8, [.ref a1, .ref a2, .ref a3, .ref a4, .ref a5, .ref a6, .ref a7, .ref a8, .ref a9, .int j_faultKind, .int j_horseCount, .int j_tabletCount, .int j_riderCount, .int j_lineLength, .int j_hour]))]) [0] rfl
          have hD9 := hD.part (cx := [(h0, .inr (8, [.ref a1, .ref a2, .ref a3, .ref a4, .ref a5, .ref a6, .ref a7, .ref a8, .ref a9, .int j_faultKind, .int j_horseCount, .int j_tabletCount, .int j_riderCount, .int j_lineLength, .int j_hour]))]) [0] (by decide) rfl
          have hK9 := hK.sub (tys' := []) [] rfl
          refine W.widen (k := 0) (n := 0) (Nat.le_of_ble_eq_true rfl) (Nat.le_of_ble_eq_true rfl) ?_
          exact W.vret hx hb hr (fun t9 ht hW => ⟨⟨(), rfl, trivial, S, f, hT, FR.rf, (by unfold sdS; rw [if_pos c_6]; unfold sd2; rw [if_neg c_13, eu_15, nI_clamp (by omega), if_neg c_16, if_pos c_22]), by rw [ht]; exact hP9, va_K.moved hW.alike hK9, hD9⟩, hS.F ht⟩) hS.2.2 dX8_send_90
        · refine lv_aload hx hb dX8_send_73 (lv_at hl 0 rfl) ?_
          have hf_23 : f (ad 0 u_15) = .inr (0, [.int (nI u_15), .int (S 1 u_15 0), .int (S 2 u_15 0)]) := hT.get (hT.k0 (i := u_15) (by omega))
          obtain ⟨q_24, hq_24⟩ := pl_at (X := [(h0, .inr (8, [.ref a1, .ref a2, .ref a3, .ref a4, .ref a5, .ref a6, .ref a7, .ref a8, .ref a9, .int j_faultKind, .int j_horseCount, .int j_tabletCount, .int j_riderCount, .int j_lineLength, .int j_hour]))]) (f := f) (e := .inr (0, [.int (nI u_15), .int (S 1 u_15 0), .int (S 2 u_15 0)])) (hT.k0 (i := u_15) (by omega)).1 hf_23
          refine va_getN (D := (dC, dI)) (ci := 0) (v := .int (S 2 u_15 0)) (C := RX0) (T := TX0) (N := 3) hx hb hts hin0 hown hK hP q_24 hq_24 rfl 2 (by decide) (hN.nx (.fieldLinkNest RX8 206 "YamRiders$Horse" "strength" "I" "YamRiders") (by decide +kernel)) (fun _ h9 => h9) rfl dX8_send_75 ?_
          refine lv_aload_n hx hb dX8_send_78 rfl (lv_at hl 3 rfl) ?_
          refine va_get (D := (dC, dI)) (ci := 8) (v := .ref a9) (C := RX8) (T := TX8) (N := 15) hx hb hts hin8 hown hK hP 0 rfl rfl 8 (by decide) (hts (.fieldLink RX8 58 "YamRiders" "law" "LYamRiders$Statutes;") (by decide +kernel)) (fun _ h9 => h9) rfl dX8_send_79 ?_
          have hPc := hP.part (cx := []) [] rfl
          have hDc := hD.part (cx := []) [] (by decide) rfl
          have hKc := hK
          obtain ⟨q_25, hq_25⟩ := pl_at (X := []) (f := f) (e := .inr (5, [.ref (ad 14 gq)])) hY.2.2.2.2.2.2.2.1.1 hf_19
          refine cs_i (va_runV (As := []) (rest := [.int (S 2 u_15 0)]) ⟨hx, hb, hml, hown, hts⟩ (e_X5_tire l dC dI cs L ka ix ad n0 n6 n2 S f gq a9 s.heap.size hT hY.2.2.2.2.2.2.2.2 hY.2.2.2.2.2.2.2.1) (cwV 0 hts gX8_send_X5_tire rfl rfl rfl (by decide +kernel) ⟨Nat.le_of_ble_eq_true rfl, Nat.le_of_ble_eq_true rfl⟩) ⟨c_blind, va_recv hKc hPc (ci := 5) (q0 := q_25) rfl hq_25, c_pre hPc hKc hDc hN⟩ rfl rfl hl.1 rfl (lv_room (Nat.le_of_ble_eq_true rfl)) dX8_send_82 ⟨Nat.le_of_ble_eq_true rfl, Nat.le_of_ble_eq_true rfl⟩) (fun r_26 hr_26 => ?_)
          subst hr_26
          refine lv_iload_n hx hb dX8_send_85 rfl (lv_at hl 1 rfl) ?_
          refine lv_imul hx hb dX8_send_86 ?_
          refine lv_icmp_ge (tgt := 91) hx hb dX8_send_87 (by decide) (fun c_27 => ?_) (fun c_27 => ?_)
          · refine lv_aload hx hb dX8_send_91 (lv_at hl 0 rfl) ?_
            refine lv_iconst (v := (-1)) hx hb dX8_send_93 (by decide) ?_
            obtain ⟨q_28, hq_28⟩ := pl_at (X := [(h0, .inr (8, [.ref a1, .ref a2, .ref a3, .ref a4, .ref a5, .ref a6, .ref a7, .ref a8, .ref a9, .int j_faultKind, .int j_horseCount, .int j_tabletCount, .int j_riderCount, .int j_lineLength, .int j_hour]))]) (f := f) (e := .inr (0, [.int (nI u_15), .int (S 1 u_15 0), .int (S 2 u_15 0)])) (hT.k0 (i := u_15) (by omega)).1 hf_23
            refine va_putN (D := (dC, dI)) (ci := 0) (v := .int (-1)) (ty := (tyX0 1)) (C := RX0) (T := TX0) (N := 3) hx hb hts hin0 tyX0 tyX0_ok nmX0 hown hK hP hD hS q_28 hq_28 rfl 1 (by decide) (hN.nx (.fieldLinkNest RX8 209 "YamRiders$Horse" "station" "I" "YamRiders") (by decide +kernel)) (fun _ h9 => h9) rfl (by decide +kernel) rfl rfl (Nat.le_of_ble_eq_true rfl) dX8_send_94 (fun H locs hP9 hD9 hS => ?_)
            have hs_29 := pl_st (.inr (0, [.int (nI u_15), .int (-1), .int (S 2 u_15 0)])) hD (hT.k0 (i := u_15) (by omega)).1 hf_23 hq_28
            have hP9 : va_P (dC, dI) vwCl ((([(h0, .inr (8, [.ref a1, .ref a2, .ref a3, .ref a4, .ref a5, .ref a6, .ref a7, .ref a8, .ref a9, .int j_faultKind, .int j_horseCount, .int j_tabletCount, .int j_riderCount, .int j_lineLength, .int j_hour]))] : va_W) ++ va_pl L f).set q_28 ((ad 0 u_15), .inr (0, [.int (nI u_15), .int (-1), .int (S 2 u_15 0)]))) H := hP9
            have hD9 : va_D A ((([(h0, .inr (8, [.ref a1, .ref a2, .ref a3, .ref a4, .ref a5, .ref a6, .ref a7, .ref a8, .ref a9, .int j_faultKind, .int j_horseCount, .int j_tabletCount, .int j_riderCount, .int j_lineLength, .int j_hour]))] : va_W) ++ va_pl L f).set q_28 ((ad 0 u_15), .inr (0, [.int (nI u_15), .int (-1), .int (S 2 u_15 0)]))) := hD9
            rw [hs_29] at hP9 hD9
            have hT := hT.up (c := 1) (j := 0) (v := (-1)) (e := .inr (0, [.int (nI u_15), .int (-1), .int (S 2 u_15 0)])) (hT.k0 (i := u_15) (by omega)) rfl (hT.2.2.up (by decide) (by decide) (by decide)) (by simp [EN, up3])
            have hP := hP9
            have hD := hD9
            clear hP9 hD9 hs_29
            obtain ⟨S_31, eS_31⟩ : ∃ S9 : Nat → Nat → Nat → Int32, S9 = up3 S 1 u_15 0 (-1) := ⟨_, rfl⟩
            rw [← eS_31] at hT
            generalize va_up f (ad 0 u_15) (.inr (0, [.int (nI u_15), .int (-1), .int (S 2 u_15 0)])) = f_30 at hP hD hT
            have hFr_32 : FR S S_31 := by rw [eS_31]; exact FR.up FR.rf (by decide) (by decide)
            refine lv_aload_n hx hb dX8_send_97 rfl (lv_at hl 4 rfl) ?_
            refine lv_aload hx hb dX8_send_98 (lv_at hl 0 rfl) ?_
            refine lv_aload_n hx hb dX8_send_100 rfl (lv_at hl 3 rfl) ?_
            refine va_get (D := (dC, dI)) (ci := 8) (v := .int j_hour) (C := RX8) (T := TX8) (N := 15) hx hb hts hin8 hown hK hP 0 rfl rfl 14 (by decide) (hts (.fieldLink RX8 140 "YamRiders" "hour" "I") (by decide +kernel)) (fun _ h9 => h9) rfl dX8_send_101 ?_
            refine lv_iload_n hx hb dX8_send_104 rfl (lv_at hl 1 rfl) ?_
            have hPc := hP.part (cx := []) [] rfl
            have hDc := hD.part (cx := []) [] (by decide) rfl
            have hKc := hK
            have hFc := va_freeP (cx := []) hD hS hA [] rfl
            have hf_33 : f_30 e1 = .inr (2, [.int (S_31 32 i9 0), .int (S_31 33 i9 0), .ref (ad 37 i9), .ref (ad 36 i9), .int (S_31 36 i9 0), .int (S_31 37 i9 0), .int (S_31 38 i9 0), va_rf (oq ad 0 (S_31 39 i9 0)), .int (S_31 40 i9 0), .int (S_31 41 i9 0)]) := hT.get hk_e1
            obtain ⟨q_34, hq_34⟩ := pl_at (X := []) (f := f_30) (e := .inr (2, [.int (S_31 32 i9 0), .int (S_31 33 i9 0), .ref (ad 37 i9), .ref (ad 36 i9), .int (S_31 36 i9 0), .int (S_31 37 i9 0), .int (S_31 38 i9 0), va_rf (oq ad 0 (S_31 39 i9 0)), .int (S_31 40 i9 0), .int (S_31 41 i9 0)])) hk_e1.1 hf_33
            refine va_callv (va_runV (As := [.ref (ad 0 u_15), .int j_hour, .int (tmG S (sSW S i9 ((S 37 i9 0) - 1)) (sSW S i9 (S 37 i9 0)))]) (rest := []) ⟨hx, hb, hml, hown, hts⟩ (e_X2_leaveOn l dC dI cs L ka ix ad n0 n6 n2 S_31 f_30 i9 u_15 e1 (ad 0 u_15) j_hour (tmG S (sSW S i9 ((S 37 i9 0) - 1)) (sSW S i9 (S 37 i9 0))) H.size hT hk_e1 (hT.k0 (i := u_15) (by omega)) (by omega) (by omega)) (cwV 3 hts gX8_send_X2_leaveOn rfl rfl rfl (by decide +kernel) ⟨Nat.le_of_ble_eq_true rfl, Nat.le_of_ble_eq_true rfl⟩) ⟨c_blind, va_recv hKc hPc (ci := 2) (q0 := q_34) rfl hq_34, c_pre hPc hKc hDc hN⟩ rfl rfl hl.1 rfl (lv_room (Nat.le_of_ble_eq_true rfl)) dX8_send_105 ⟨Nat.le_of_ble_eq_true rfl, Nat.le_of_ble_eq_true rfl⟩) hS (fun q _ h => hFc q h) hFc (fun u9 t9 H1 locs ht hvm hw hB hz1 hk1 hS => ?_)
            obtain ⟨S_36, f_37, hf_x_38, hf_x_39, hf_x_40, hP1, hK1, hD1⟩ := hB
            rw [ht] at hP1
            have hK1 := va_K.moved hvm.symm hK1
            obtain ⟨hP, hD⟩ := va_joinP (X := [(h0, .inr (8, [.ref a1, .ref a2, .ref a3, .ref a4, .ref a5, .ref a6, .ref a7, .ref a8, .ref a9, .int j_faultKind, .int j_horseCount, .int j_tabletCount, .int j_riderCount, .int j_lineLength, .int j_hour]))]) (cx := []) (wr := [(h0, .inr (8, [.ref a1, .ref a2, .ref a3, .ref a4, .ref a5, .ref a6, .ref a7, .ref a8, .ref a9, .int j_faultKind, .int j_horseCount, .int j_tabletCount, .int j_riderCount, .int j_lineLength, .int j_hour]))]) (rx := []) (pl := va_pl L f_30) (pl1 := va_pl L f_37) hP hD [] [0] rfl rfl (by decide) (by decide) hk1 hFc hP1 hD1
            have hT := hf_x_38
            generalize H1 = H at hP hS ⊢
            have hP : va_P (dC, dI) vwCl ([(h0, .inr (8, [.ref a1, .ref a2, .ref a3, .ref a4, .ref a5, .ref a6, .ref a7, .ref a8, .ref a9, .int j_faultKind, .int j_horseCount, .int j_tabletCount, .int j_riderCount, .int j_lineLength, .int j_hour]))] ++ va_pl L f_37) H := hP
            have hD : va_D A ([(h0, .inr (8, [.ref a1, .ref a2, .ref a3, .ref a4, .ref a5, .ref a6, .ref a7, .ref a8, .ref a9, .int j_faultKind, .int j_horseCount, .int j_tabletCount, .int j_riderCount, .int j_lineLength, .int j_hour]))] ++ va_pl L f_37) := hD
            have hFr_41 := FR.tr hFr_32 hf_x_39
            refine W.widen (k := 0) (n := 0) (Nat.le_of_ble_eq_true rfl) (Nat.le_of_ble_eq_true rfl) ?_
            have hP9 := hP.part (cx := [(h0, .inr (8, [.ref a1, .ref a2, .ref a3, .ref a4, .ref a5, .ref a6, .ref a7, .ref a8, .ref a9, .int j_faultKind, .int j_horseCount, .int j_tabletCount, .int j_riderCount, .int j_lineLength, .int j_hour]))]) [0] rfl
            have hD9 := hD.part (cx := [(h0, .inr (8, [.ref a1, .ref a2, .ref a3, .ref a4, .ref a5, .ref a6, .ref a7, .ref a8, .ref a9, .int j_faultKind, .int j_horseCount, .int j_tabletCount, .int j_riderCount, .int j_lineLength, .int j_hour]))]) [0] (by decide) rfl
            have hK9 := hK.sub (tys' := []) [] rfl
            refine W.widen (k := 0) (n := 0) (Nat.le_of_ble_eq_true rfl) (Nat.le_of_ble_eq_true rfl) ?_
            exact W.vret hx hb hr (fun t9 ht hW => ⟨⟨(), rfl, trivial, S_36, f_37, hT, hFr_41, (by unfold sdS; rw [if_pos c_6]; unfold sd2; rw [if_neg c_13, eu_15, nI_clamp (by omega), if_neg c_16, if_neg c_22, if_pos c_27]; rw [← eS_31]; exact hf_x_40), by rw [ht]; exact hP9, va_K.moved hW.alike hK9, hD9⟩, hS.F ht⟩) hS.2.2 dX8_send_108
          · have hP9 := hP.part (cx := [(h0, .inr (8, [.ref a1, .ref a2, .ref a3, .ref a4, .ref a5, .ref a6, .ref a7, .ref a8, .ref a9, .int j_faultKind, .int j_horseCount, .int j_tabletCount, .int j_riderCount, .int j_lineLength, .int j_hour]))]) [0] rfl
            have hD9 := hD.part (cx := [(h0, .inr (8, [.ref a1, .ref a2, .ref a3, .ref a4, .ref a5, .ref a6, .ref a7, .ref a8, .ref a9, .int j_faultKind, .int j_horseCount, .int j_tabletCount, .int j_riderCount, .int j_lineLength, .int j_hour]))]) [0] (by decide) rfl
            have hK9 := hK.sub (tys' := []) [] rfl
            refine W.widen (k := 0) (n := 0) (Nat.le_of_ble_eq_true rfl) (Nat.le_of_ble_eq_true rfl) ?_
            exact W.vret hx hb hr (fun t9 ht hW => ⟨⟨(), rfl, trivial, S, f, hT, FR.rf, (by unfold sdS; rw [if_pos c_6]; unfold sd2; rw [if_neg c_13, eu_15, nI_clamp (by omega), if_neg c_16, if_neg c_22, if_neg c_27]), by rw [ht]; exact hP9, va_K.moved hW.alike hK9, hD9⟩, hS.F ht⟩) hS.2.2 dX8_send_90
  · refine lv_aload_n hx hb dX8_send_18 rfl (lv_at hl 2 rfl) ?_
    refine lv_iconst (v := 3) hx hb dX8_send_19 (by decide) ?_
    obtain ⟨q_42, hq_42⟩ := pl_at (X := [(h0, .inr (8, [.ref a1, .ref a2, .ref a3, .ref a4, .ref a5, .ref a6, .ref a7, .ref a8, .ref a9, .int j_faultKind, .int j_horseCount, .int j_tabletCount, .int j_riderCount, .int j_lineLength, .int j_hour]))]) (f := f) (e := .inr (2, [.int (S 32 i9 0), .int (S 33 i9 0), .ref (ad 37 i9), .ref (ad 36 i9), .int (S 36 i9 0), .int (S 37 i9 0), .int (S 38 i9 0), va_rf (oq ad 0 (S 39 i9 0)), .int (S 40 i9 0), .int (S 41 i9 0)])) hk_e1.1 hf_1
    refine va_putN (D := (dC, dI)) (ci := 2) (v := .int 3) (ty := (tyX2 4)) (C := RX2) (T := TX2) (N := 10) hx hb hts hin2 tyX2 tyX2_ok nmX2 hown hK hP hD hS q_42 hq_42 rfl 4 (by decide) (hN.nx (.fieldLinkNest RX8 158 "YamRiders$Rider" "state" "I" "YamRiders") (by decide +kernel)) (fun _ h9 => h9) rfl (by decide +kernel) rfl rfl (Nat.le_of_ble_eq_true rfl) dX8_send_20 (fun H locs hP9 hD9 hS => ?_)
    have hs_43 := pl_st (.inr (2, [.int (S 32 i9 0), .int (S 33 i9 0), .ref (ad 37 i9), .ref (ad 36 i9), .int 3, .int (S 37 i9 0), .int (S 38 i9 0), va_rf (oq ad 0 (S 39 i9 0)), .int (S 40 i9 0), .int (S 41 i9 0)])) hD hk_e1.1 hf_1 hq_42
    have hP9 : va_P (dC, dI) vwCl ((([(h0, .inr (8, [.ref a1, .ref a2, .ref a3, .ref a4, .ref a5, .ref a6, .ref a7, .ref a8, .ref a9, .int j_faultKind, .int j_horseCount, .int j_tabletCount, .int j_riderCount, .int j_lineLength, .int j_hour]))] : va_W) ++ va_pl L f).set q_42 (e1, .inr (2, [.int (S 32 i9 0), .int (S 33 i9 0), .ref (ad 37 i9), .ref (ad 36 i9), .int 3, .int (S 37 i9 0), .int (S 38 i9 0), va_rf (oq ad 0 (S 39 i9 0)), .int (S 40 i9 0), .int (S 41 i9 0)]))) H := hP9
    have hD9 : va_D A ((([(h0, .inr (8, [.ref a1, .ref a2, .ref a3, .ref a4, .ref a5, .ref a6, .ref a7, .ref a8, .ref a9, .int j_faultKind, .int j_horseCount, .int j_tabletCount, .int j_riderCount, .int j_lineLength, .int j_hour]))] : va_W) ++ va_pl L f).set q_42 (e1, .inr (2, [.int (S 32 i9 0), .int (S 33 i9 0), .ref (ad 37 i9), .ref (ad 36 i9), .int 3, .int (S 37 i9 0), .int (S 38 i9 0), va_rf (oq ad 0 (S 39 i9 0)), .int (S 40 i9 0), .int (S 41 i9 0)]))) := hD9
    rw [hs_43] at hP9 hD9
    have hT := hT.up (c := 36) (j := 0) (v := 3) (e := .inr (2, [.int (S 32 i9 0), .int (S 33 i9 0), .ref (ad 37 i9), .ref (ad 36 i9), .int 3, .int (S 37 i9 0), .int (S 38 i9 0), va_rf (oq ad 0 (S 39 i9 0)), .int (S 40 i9 0), .int (S 41 i9 0)])) hk_e1 rfl (hT.2.2.up (by decide) (by decide) (by decide)) (by simp [EN, up3])
    have hP := hP9
    have hD := hD9
    clear hP9 hD9 hs_43
    obtain ⟨S_45, eS_45⟩ : ∃ S9 : Nat → Nat → Nat → Int32, S9 = up3 S 36 i9 0 3 := ⟨_, rfl⟩
    rw [← eS_45] at hT
    generalize va_up f e1 (.inr (2, [.int (S 32 i9 0), .int (S 33 i9 0), .ref (ad 37 i9), .ref (ad 36 i9), .int 3, .int (S 37 i9 0), .int (S 38 i9 0), va_rf (oq ad 0 (S 39 i9 0)), .int (S 40 i9 0), .int (S 41 i9 0)])) = f_44 at hP hD hT
    have hFr_46 : FR S S_45 := by rw [eS_45]; exact FR.up FR.rf (by decide) (by decide)
    have hP9 := hP.part (cx := [(h0, .inr (8, [.ref a1, .ref a2, .ref a3, .ref a4, .ref a5, .ref a6, .ref a7, .ref a8, .ref a9, .int j_faultKind, .int j_horseCount, .int j_tabletCount, .int j_riderCount, .int j_lineLength, .int j_hour]))]) [0] rfl
    have hD9 := hD.part (cx := [(h0, .inr (8, [.ref a1, .ref a2, .ref a3, .ref a4, .ref a5, .ref a6, .ref a7, .ref a8, .ref a9, .int j_faultKind, .int j_horseCount, .int j_tabletCount, .int j_riderCount, .int j_lineLength, .int j_hour]))]) [0] (by decide) rfl
    have hK9 := hK.sub (tys' := []) [] rfl
    refine W.widen (k := 0) (n := 0) (Nat.le_of_ble_eq_true rfl) (Nat.le_of_ble_eq_true rfl) ?_
    exact W.vret hx hb hr (fun t9 ht hW => ⟨⟨(), rfl, trivial, S_45, f_44, hT, hFr_46, (by rw [eS_45]; unfold sdS; rw [if_neg c_6]), by rw [ht]; exact hP9, va_K.moved hW.alike hK9, hD9⟩, hS.F ht⟩) hS.2.2 dX8_send_23

set_option maxHeartbeats 4000000 in
set_option maxRecDepth 100000 in
theorem e_X8_sendLine (l : Launch) (dC : Nat → ClassId) (dI : Nat → Nat → Nat) (cs : Nat → ClassId) (L : List Nat) (ka : Nat → Nat) (ix : Nat → Nat) (ad : Nat → Nat → Nat) (n0 : Nat) (n6 : Nat) (n2 : Nat) (S : Nat → Nat → Nat → Int32) (f : Nat → va_E) (gq : Nat) (h0 : Nat) (a1 : Nat) (a2 : Nat) (a3 : Nat) (a4 : Nat) (a5 : Nat) (a6 : Nat) (a7 : Nat) (a8 : Nat) (a9 : Nat) (j_faultKind : Int32) (j_horseCount : Int32) (j_tabletCount : Int32) (j_riderCount : Int32) (j_hour : Int32) (ll9 : Nat) (lm : Nat → Nat) (sz : Nat) (hT : tB L ka ix ad cs n0 n6 n2 S f) (hY : yX L ka ix ad gq a2 a3 a4 a5 a6 a7 a8 a9) (hll : ll9 ≤ 60) (hln : LNs S n2 ll9 lm) : Met l yX8_sendLine wsX8_sendLine ({ frames := 4, cells := 0, slots := 0, locals := 88 }) (va_Pc [.ref h0] (cP dC dI ([(h0, .inr (8, [.ref a1, .ref a2, .ref a3, .ref a4, .ref a5, .ref a6, .ref a7, .ref a8, .ref a9, .int j_faultKind, .int j_horseCount, .int j_tabletCount, .int j_riderCount, .int (nI ll9), .int j_hour]))] ++ va_pl L f) (tyC cs) sz)) (va_Qv (fun (_ : Unit) => True) (fun (_ : Unit) t9 => ∃ (S2 : Nat → Nat → Nat → Int32) (f2 : Nat → va_E), (tB L ka ix ad cs n0 n6 n2 S2 f2) ∧ (FR S S2) ∧ (S2 = sdK S gq n0 n6 j_hour lm ll9) ∧ cQ dC dI ([(h0, .inr (8, [.ref a1, .ref a2, .ref a3, .ref a4, .ref a5, .ref a6, .ref a7, .ref a8, .ref a9, .int j_faultKind, .int j_horseCount, .int j_tabletCount, .int j_riderCount, .int (nI ll9), .int j_hour]))] ++ va_pl L f2) [] (va_A ([(h0, .inr (8, [.ref a1, .ref a2, .ref a3, .ref a4, .ref a5, .ref a6, .ref a7, .ref a8, .ref a9, .int j_faultKind, .int j_horseCount, .int j_tabletCount, .int j_riderCount, .int (nI ll9), .int j_hour]))] ++ va_pl L f) sz) t9) (va_A ([(h0, .inr (8, [.ref a1, .ref a2, .ref a3, .ref a4, .ref a5, .ref a6, .ref a7, .ref a8, .ref a9, .int j_faultKind, .int j_horseCount, .int j_tabletCount, .int j_riderCount, .int (nI ll9), .int j_hour]))] ++ va_pl L f) sz)) 0 0 (va_A ([(h0, .inr (8, [.ref a1, .ref a2, .ref a3, .ref a4, .ref a5, .ref a6, .ref a7, .ref a8, .ref a9, .int j_faultKind, .int j_horseCount, .int j_tabletCount, .int j_riderCount, .int (nI ll9), .int j_hour]))] ++ va_pl L f) sz) := by
  refine Met.ofW (cc := cX8_sendLine) (maxL := 3) (ret := none) (by decide) rfl ?_
  intro p e s m args below meth c s₁ B hml hv
  obtain ⟨rfl, hsz, hP, hK, hD0, hN⟩ := hv
  have hx := B.exec
  have hb := B.bytes
  have hr := B.returns
  have hts := atoms_spec (ws := wsX8_sendLine) B.pre
  have hown : s.vm.findClass RX8 = some m.cls := findClass_of_methodNamed B.named
  have hlocks := B.notSynchronized
  subst hsz
  have hin8 : ∀ w ∈ u_ws RX8 TX8 15, w ∈ wsX8_sendLine := by decide +kernel
  have hD := hD0.self (sz := s.heap.size)
  generalize hAe : va_A ([(h0, .inr (8, [.ref a1, .ref a2, .ref a3, .ref a4, .ref a5, .ref a6, .ref a7, .ref a8, .ref a9, .int j_faultKind, .int j_horseCount, .int j_tabletCount, .int j_riderCount, .int (nI ll9), .int j_hour]))] ++ va_pl L f) s.heap.size = A at hD ⊢
  have hA : ∀ q : Nat, s.heap.size ≤ q → A q := fun q h => by rw [← hAe]; exact Or.inr h
  have hS : va_S A s.heap s.heap [] := va_S.rf
  have hP : va_P (dC, dI) vwCl ([(h0, .inr (8, [.ref a1, .ref a2, .ref a3, .ref a4, .ref a5, .ref a6, .ref a7, .ref a8, .ref a9, .int j_faultKind, .int j_horseCount, .int j_tabletCount, .int j_riderCount, .int (nI ll9), .int j_hour]))] ++ va_pl L f) s.heap := hP
  have hl := lv_entry ([.ref h0]) (n := 3) (Nat.le_of_ble_eq_true rfl)
  rw [lg_entry_eq]
  generalize (lg_sl ([.ref h0]) ++ List.replicate (3 - (lg_sl ([.ref h0])).length) Slot.unset).toArray = ls at hl ⊢
  have hl : lv_has ls 3 [(0, .ref h0)] := hl
  refine lv_iconst (v := 0) hx hb dX8_sendLine_0 (by decide) ?_
  refine lv_istore_n (lv' := [(1, .int 0), (0, .ref h0)]) hx hb dX8_sendLine_1 rfl hl (by decide) rfl (fun ls hl => ?_)
  have HL : ∀ (n k : Nat) (S8 : Nat → Nat → Nat → Int32), k ≤ ll9 → ll9 + 1 ≤ k + n → (FR S S8) → (S8 = sdK S gq n0 n6 j_hour lm k) → (S8 448 = S 448) → ∀ (f_1 : Nat → va_E) (H : Heap) (locs : List Loc), tB L ka ix ad cs n0 n6 n2 S8 f_1 → va_P (dC, dI) vwCl ([(h0, .inr (8, [.ref a1, .ref a2, .ref a3, .ref a4, .ref a5, .ref a6, .ref a7, .ref a8, .ref a9, .int j_faultKind, .int j_horseCount, .int j_tabletCount, .int j_riderCount, .int (nI ll9), .int j_hour]))] ++ va_pl L f_1) H → va_D A ([(h0, .inr (8, [.ref a1, .ref a2, .ref a3, .ref a4, .ref a5, .ref a6, .ref a7, .ref a8, .ref a9, .int j_faultKind, .int j_horseCount, .int j_tabletCount, .int j_riderCount, .int (nI ll9), .int j_hour]))] ++ va_pl L f_1) → va_S A s.heap H locs → ∀ ls : Array Slot, lv_has ls 3 [(0, .ref h0), (1, .int (nI k))] → W p l e (headSpec wsX8_sendLine ({ frames := 4, cells := 0, slots := 0, locals := 88 })).room s m ([.ref h0]).toArray below meth c H locs 0 0 (MQ below (va_Qv (fun (_ : Unit) => True) (fun (_ : Unit) t9 => ∃ (S2 : Nat → Nat → Nat → Int32) (f2 : Nat → va_E), (tB L ka ix ad cs n0 n6 n2 S2 f2) ∧ (FR S S2) ∧ (S2 = sdK S gq n0 n6 j_hour lm ll9) ∧ cQ dC dI ([(h0, .inr (8, [.ref a1, .ref a2, .ref a3, .ref a4, .ref a5, .ref a6, .ref a7, .ref a8, .ref a9, .int j_faultKind, .int j_horseCount, .int j_tabletCount, .int j_riderCount, .int (nI ll9), .int j_hour]))] ++ va_pl L f2) [] A t9) A) ([.ref h0]).toArray s 0 0 A) (F0 m 2 ls []) := by
    intro n
    induction n with
    | zero => intro k S8 h1 h2; exact absurd h2 (by omega)
    | succ n ih =>
      intro k S8 hk hn hFrS8 hit hl8 f_1 H locs hT hP hD hS ls hl
      refine lv_iload_n hx hb dX8_sendLine_2 rfl (lv_at hl 1 rfl) ?_
      refine lv_aload_n hx hb dX8_sendLine_3 rfl (lv_at hl 0 rfl) ?_
      refine va_get (D := (dC, dI)) (ci := 8) (v := .int (nI ll9)) (C := RX8) (T := TX8) (N := 15) hx hb hts hin8 hown hK hP 0 rfl rfl 13 (by decide) (hts (.fieldLink RX8 259 "YamRiders" "lineLength" "I") (by decide +kernel)) (fun _ h9 => h9) rfl dX8_sendLine_4 ?_
      refine lv_icmp_ge (tgt := 38) hx hb dX8_sendLine_7 (by decide) (fun c_2 => ?_) (fun c_2 => ?_)
      · have hke : k = ll9 := by
          have h9 := (nI_leI (by omega) (by omega)).mp c_2
          omega
        have hP9 := hP.part (cx := [(h0, .inr (8, [.ref a1, .ref a2, .ref a3, .ref a4, .ref a5, .ref a6, .ref a7, .ref a8, .ref a9, .int j_faultKind, .int j_horseCount, .int j_tabletCount, .int j_riderCount, .int (nI ll9), .int j_hour]))]) [0] rfl
        have hD9 := hD.part (cx := [(h0, .inr (8, [.ref a1, .ref a2, .ref a3, .ref a4, .ref a5, .ref a6, .ref a7, .ref a8, .ref a9, .int j_faultKind, .int j_horseCount, .int j_tabletCount, .int j_riderCount, .int (nI ll9), .int j_hour]))]) [0] (by decide) rfl
        have hK9 := hK.sub (tys' := []) [] rfl
        refine W.widen (k := 0) (n := 0) (Nat.le_of_ble_eq_true rfl) (Nat.le_of_ble_eq_true rfl) ?_
        exact W.vret hx hb hr (fun t9 ht hW => ⟨⟨(), rfl, trivial, S8, f_1, hT, hFrS8, (by rw [show ll9 = k by omega]; exact hit), by rw [ht]; exact hP9, va_K.moved hW.alike hK9, hD9⟩, hS.F ht⟩) hS.2.2 dX8_sendLine_38
      · have hlt : k < ll9 := Decidable.byContradiction fun q => c_2 (nI_le (by omega) (by omega))
        refine lv_iload_n hx hb dX8_sendLine_10 rfl (lv_at hl 1 rfl) ?_
        refine lv_bipush (v := 60) hx hb dX8_sendLine_11 (by decide) ?_
        refine lv_icmp_ge (tgt := 38) hx hb dX8_sendLine_13 (by decide) (fun c_3 => ?_) (fun c_3 => ?_)
        · have hke : k = 60 := by
            rcases Nat.lt_or_ge k 60 with q | q
            · exact absurd c_3 (nI_ge q (by decide))
            · omega
          have hP9 := hP.part (cx := [(h0, .inr (8, [.ref a1, .ref a2, .ref a3, .ref a4, .ref a5, .ref a6, .ref a7, .ref a8, .ref a9, .int j_faultKind, .int j_horseCount, .int j_tabletCount, .int j_riderCount, .int (nI ll9), .int j_hour]))]) [0] rfl
          have hD9 := hD.part (cx := [(h0, .inr (8, [.ref a1, .ref a2, .ref a3, .ref a4, .ref a5, .ref a6, .ref a7, .ref a8, .ref a9, .int j_faultKind, .int j_horseCount, .int j_tabletCount, .int j_riderCount, .int (nI ll9), .int j_hour]))]) [0] (by decide) rfl
          have hK9 := hK.sub (tys' := []) [] rfl
          refine W.widen (k := 0) (n := 0) (Nat.le_of_ble_eq_true rfl) (Nat.le_of_ble_eq_true rfl) ?_
          exact W.vret hx hb hr (fun t9 ht hW => ⟨⟨(), rfl, trivial, S8, f_1, hT, hFrS8, (by rw [show ll9 = k by omega]; exact hit), by rw [ht]; exact hP9, va_K.moved hW.alike hK9, hD9⟩, hS.F ht⟩) hS.2.2 dX8_sendLine_38
        · have hlt : k < 60 := by
            rcases Nat.lt_or_ge k 60 with q | q
            · exact q
            · exact absurd (show nI 60 ≤ nI k from nI_le q (by omega)) c_3
          obtain ⟨w8, hw8, ew8, ewl8⟩ : ∃ u, u < n2 ∧ S8 448 0 k = nI u ∧ u = lm k := ⟨lm k, (hln k (by omega)).2, by rw [hl8]; exact (hln k (by omega)).1, rfl⟩
          have hne9 : ¬ S8 448 0 k = -1 := by rw [ew8]; exact nI_m (by have h9 := hT.b2; omega)
          refine lv_aload_n hx hb dX8_sendLine_16 rfl (lv_at hl 0 rfl) ?_
          refine va_get (D := (dC, dI)) (ci := 8) (v := .ref a8) (C := RX8) (T := TX8) (N := 15) hx hb hts hin8 hown hK hP 0 rfl rfl 7 (by decide) (hts (.fieldLink RX8 52 "YamRiders" "line" "[LYamRiders$Rider;") (by decide +kernel)) (fun _ h9 => h9) rfl dX8_sendLine_17 ?_
          refine lv_iload_n hx hb dX8_sendLine_20 rfl (lv_at hl 1 rfl) ?_
          have hf_4 : f_1 a8 = .inl (cs 5, 60, .inr (.inr (.inr (.inr (fun j => oq ad 2 (S8 448 0 j)))))) := hT.get hY.2.2.2.2.2.2.1
          obtain ⟨q_5, hq_5⟩ := pl_at (X := [(h0, .inr (8, [.ref a1, .ref a2, .ref a3, .ref a4, .ref a5, .ref a6, .ref a7, .ref a8, .ref a9, .int j_faultKind, .int j_horseCount, .int j_tabletCount, .int j_riderCount, .int (nI ll9), .int j_hour]))]) (f := f_1) (e := .inl (cs 5, 60, .inr (.inr (.inr (.inr (fun j => oq ad 2 (S8 448 0 j))))))) hY.2.2.2.2.2.2.1.1 hf_4
          refine va_aldq hx hb hK hP q_5 5 hq_5 rfl (vp_in_nI (by omega) (by omega)) dX8_sendLine_21 ?_
          rw [show oq ad 2 (S8 448 0 (nI k).toNatClampNeg) = oq ad 2 (S8 448 0 k) from by rw [(nI_clamp (by omega))]]
          have hn9 := hT.b2
          rw [show oq ad 2 (S8 448 0 k) = some (ad 2 w8) from by rw [ew8]; exact oq_s (by omega)]
          refine W.eq (g2 := F0 m 22 ls [.ref (ad 2 w8)]) rfl ?_
          refine lv_astore_n (lv' := [(2, .ref (ad 2 w8)), (0, .ref h0), (1, .int (nI k))]) hx hb dX8_sendLine_22 rfl hl (by decide) rfl (fun ls hl => ?_)
          refine lv_aload_n hx hb dX8_sendLine_23 rfl (lv_at hl 0 rfl) ?_
          refine lv_ifnull hx hb dX8_sendLine_24 ?_
          refine lv_aload_n hx hb dX8_sendLine_27 rfl (lv_at hl 1 rfl) ?_
          refine lv_aload_n hx hb dX8_sendLine_28 rfl (lv_at hl 0 rfl) ?_
          have hPc := hP.part (cx := [(h0, .inr (8, [.ref a1, .ref a2, .ref a3, .ref a4, .ref a5, .ref a6, .ref a7, .ref a8, .ref a9, .int j_faultKind, .int j_horseCount, .int j_tabletCount, .int j_riderCount, .int (nI ll9), .int j_hour]))]) [0] rfl
          have hDc := hD.part (cx := [(h0, .inr (8, [.ref a1, .ref a2, .ref a3, .ref a4, .ref a5, .ref a6, .ref a7, .ref a8, .ref a9, .int j_faultKind, .int j_horseCount, .int j_tabletCount, .int j_riderCount, .int (nI ll9), .int j_hour]))]) [0] (by decide) rfl
          have hKc := hK
          have hFc := va_freeP (cx := [(h0, .inr (8, [.ref a1, .ref a2, .ref a3, .ref a4, .ref a5, .ref a6, .ref a7, .ref a8, .ref a9, .int j_faultKind, .int j_horseCount, .int j_tabletCount, .int j_riderCount, .int (nI ll9), .int j_hour]))]) hD hS hA [0] rfl
          refine va_callv (va_runV (As := [.ref (ad 2 w8)]) (rest := []) ⟨hx, hb, hml, hown, hts⟩ (e_X8_send l dC dI cs L ka ix ad n0 n6 n2 S8 f_1 gq w8 h0 a1 a2 a3 a4 a5 a6 a7 a8 a9 j_faultKind j_horseCount j_tabletCount j_riderCount (nI ll9) j_hour (ad 2 w8) H.size hT hY (hT.k2 (i := w8) (by omega)) (by omega)) (cwV 1 hts gX8_sendLine_X8_send rfl rfl rfl (by decide +kernel) ⟨Nat.le_of_ble_eq_true rfl, Nat.le_of_ble_eq_true rfl⟩) ⟨c_blind, va_recv hKc hPc (ci := 8) (q0 := 0) rfl rfl, c_pre hPc hKc hDc hN⟩ rfl rfl hl.1 rfl (lv_room (Nat.le_of_ble_eq_true rfl)) dX8_sendLine_29 ⟨Nat.le_of_ble_eq_true rfl, Nat.le_of_ble_eq_true rfl⟩) hS (fun q _ h => hFc q h) hFc (fun u9 t9 H1 locs ht hvm hw hB hz1 hk1 hS => ?_)
          obtain ⟨S_7, f_8, hf_x_9, hf_x_10, hf_x_11, hP1, hK1, hD1⟩ := hB
          rw [ht] at hP1
          have hK1 := va_K.moved hvm.symm hK1
          obtain ⟨hP, hD⟩ := va_joinP (X := [(h0, .inr (8, [.ref a1, .ref a2, .ref a3, .ref a4, .ref a5, .ref a6, .ref a7, .ref a8, .ref a9, .int j_faultKind, .int j_horseCount, .int j_tabletCount, .int j_riderCount, .int (nI ll9), .int j_hour]))]) (cx := [(h0, .inr (8, [.ref a1, .ref a2, .ref a3, .ref a4, .ref a5, .ref a6, .ref a7, .ref a8, .ref a9, .int j_faultKind, .int j_horseCount, .int j_tabletCount, .int j_riderCount, .int (nI ll9), .int j_hour]))]) (wr := []) (rx := [(h0, .inr (8, [.ref a1, .ref a2, .ref a3, .ref a4, .ref a5, .ref a6, .ref a7, .ref a8, .ref a9, .int j_faultKind, .int j_horseCount, .int j_tabletCount, .int j_riderCount, .int (nI ll9), .int j_hour]))]) (pl := va_pl L f_1) (pl1 := va_pl L f_8) hP hD [0] [] rfl rfl (by decide) (by decide) hk1 hFc hP1 hD1
          have hT := hf_x_9
          generalize H1 = H at hP hS ⊢
          have hP : va_P (dC, dI) vwCl ([(h0, .inr (8, [.ref a1, .ref a2, .ref a3, .ref a4, .ref a5, .ref a6, .ref a7, .ref a8, .ref a9, .int j_faultKind, .int j_horseCount, .int j_tabletCount, .int j_riderCount, .int (nI ll9), .int j_hour]))] ++ va_pl L f_8) H := hP
          have hD : va_D A ([(h0, .inr (8, [.ref a1, .ref a2, .ref a3, .ref a4, .ref a5, .ref a6, .ref a7, .ref a8, .ref a9, .int j_faultKind, .int j_horseCount, .int j_tabletCount, .int j_riderCount, .int (nI ll9), .int j_hour]))] ++ va_pl L f_8) := hD
          have hFr_12 := FR.tr hFrS8 hf_x_10
          refine W.widen (k := 0) (n := 0) (Nat.le_of_ble_eq_true rfl) (Nat.le_of_ble_eq_true rfl) ?_
          refine lv_iinc (v := nI (k + 1)) (lv' := [(1, .int (nI (k + 1))), (2, .ref (ad 2 w8)), (0, .ref h0)]) hx hb dX8_sendLine_32 hl (k := 2) rfl (by exact (nI_1 k)) (by decide) rfl (fun ls hl => ?_)
          refine lv_goto (tgt := 2) hx hb dX8_sendLine_35 (by decide) ?_
          exact ih (k + 1) S_7 (by omega) (by omega) hFr_12 (sdK_s hit ewl8 hf_x_11) (by rw [hf_x_11, sdS_l]; exact hl8) _ _ _ hT (hP.part (cx := _) [0] rfl) (hD.part (cx := _) [0] (by decide) rfl) hS ls (lv_sub hl [2, 0] rfl)
  exact HL (ll9 + 1) 0 S (by omega) (by omega) FR.rf rfl rfl _ _ _ hT (hP.part (cx := _) [0] rfl) (hD.part (cx := _) [0] (by decide) rfl) hS ls (lv_sub hl [1, 0] rfl)
