set_option maxHeartbeats 4000000 in
set_option maxRecDepth 100000 in
theorem t_X8_careFor (l : Launch) (dC : Nat → ClassId) (dI : Nat → Nat → Nat) (cs : Nat → ClassId) (L : List Nat) (ka : Nat → Nat) (f : Nat → va_E) (h0 : Nat) (a1 : Nat) (a2 : Nat) (a3 : Nat) (a4 : Nat) (a5 : Nat) (a6 : Nat) (a7 : Nat) (a8 : Nat) (a9 : Nat) (j_faultKind : Int32) (j_horseCount : Int32) (j_tabletCount : Int32) (j_riderCount : Int32) (j_lineLength : Int32) (j_hour : Int32) (e1 : Nat) (p1 : Int32) (sz : Nat) (hT : tO L ka cs f) (hY : yK L ka a2 a3 a4 a5 a6 a7 a8 a9) (hk_e1 : tp L ka 0 e1) (hs1 : ¬ sp_st p1 = 0) : Met l yX8_careFor wsX8_careFor ({ frames := 2, cells := 0, slots := 0, locals := 45 }) (va_Pc [.ref h0, .ref e1, .int p1] (cP dC dI ([(h0, .inr (8, [.ref a1, .ref a2, .ref a3, .ref a4, .ref a5, .ref a6, .ref a7, .ref a8, .ref a9, .int j_faultKind, .int j_horseCount, .int j_tabletCount, .int j_riderCount, .int j_lineLength, .int j_hour]))] ++ va_pl L f) (tyC cs) sz)) (va_Qv (fun (_ : Unit) => True) (fun (_ : Unit) t9 => ∃ (f2 : Nat → va_E), (tO L ka cs f2) ∧ cQ dC dI ([(h0, .inr (8, [.ref a1, .ref a2, .ref a3, .ref a4, .ref a5, .ref a6, .ref a7, .ref a8, .ref a9, .int j_faultKind, .int j_horseCount, .int j_tabletCount, .int j_riderCount, .int j_lineLength, .int j_hour]))] ++ va_pl L f2) [] (va_A ([(h0, .inr (8, [.ref a1, .ref a2, .ref a3, .ref a4, .ref a5, .ref a6, .ref a7, .ref a8, .ref a9, .int j_faultKind, .int j_horseCount, .int j_tabletCount, .int j_riderCount, .int j_lineLength, .int j_hour]))] ++ va_pl L f) sz) t9) (va_A ([(h0, .inr (8, [.ref a1, .ref a2, .ref a3, .ref a4, .ref a5, .ref a6, .ref a7, .ref a8, .ref a9, .int j_faultKind, .int j_horseCount, .int j_tabletCount, .int j_riderCount, .int j_lineLength, .int j_hour]))] ++ va_pl L f) sz)) 0 0 (va_A ([(h0, .inr (8, [.ref a1, .ref a2, .ref a3, .ref a4, .ref a5, .ref a6, .ref a7, .ref a8, .ref a9, .int j_faultKind, .int j_horseCount, .int j_tabletCount, .int j_riderCount, .int j_lineLength, .int j_hour]))] ++ va_pl L f) sz) := by
  refine Met.ofW (cc := cX8_careFor) (maxL := 3) (ret := none) (by decide) rfl ?_
  intro p e s m args below meth c s₁ B hml hv
  obtain ⟨rfl, hsz, hP, hK, hD0, hN⟩ := hv
  have hx := B.exec
  have hb := B.bytes
  have hr := B.returns
  have hts := atoms_spec (ws := wsX8_careFor) B.pre
  have hown : s.vm.findClass RX8 = some m.cls := findClass_of_methodNamed B.named
  have hlocks := B.notSynchronized
  subst hsz
  have hin0 : ∀ w ∈ u_ws RX0 TX0 3, w ∈ wsX8_careFor := by decide +kernel
  have hin8 : ∀ w ∈ u_ws RX8 TX8 15, w ∈ wsX8_careFor := by decide +kernel
  have hD := hD0.self (sz := s.heap.size)
  generalize hAe : va_A ([(h0, .inr (8, [.ref a1, .ref a2, .ref a3, .ref a4, .ref a5, .ref a6, .ref a7, .ref a8, .ref a9, .int j_faultKind, .int j_horseCount, .int j_tabletCount, .int j_riderCount, .int j_lineLength, .int j_hour]))] ++ va_pl L f) s.heap.size = A at hD ⊢
  have hA : ∀ q : Nat, s.heap.size ≤ q → A q := fun q h => by rw [← hAe]; exact Or.inr h
  have hS : va_S A s.heap s.heap [] := va_S.rf
  have hP : va_P (dC, dI) vwCl ([(h0, .inr (8, [.ref a1, .ref a2, .ref a3, .ref a4, .ref a5, .ref a6, .ref a7, .ref a8, .ref a9, .int j_faultKind, .int j_horseCount, .int j_tabletCount, .int j_riderCount, .int j_lineLength, .int j_hour]))] ++ va_pl L f) s.heap := hP
  have hl := lv_entry ([.ref h0, .ref e1, .int p1]) (n := 3) (Nat.le_of_ble_eq_true rfl)
  rw [lg_entry_eq]
  generalize (lg_sl ([.ref h0, .ref e1, .int p1]) ++ List.replicate (3 - (lg_sl ([.ref h0, .ref e1, .int p1])).length) Slot.unset).toArray = ls at hl ⊢
  have hl : lv_has ls 3 [(0, .ref h0), (1, .ref e1), (2, .int p1)] := hl
  refine lv_aload_n hx hb dX8_careFor_0 rfl (lv_at hl 0 rfl) ?_
  refine va_get (D := (dC, dI)) (ci := 8) (v := .ref a4) (C := RX8) (T := TX8) (N := 15) hx hb hts hin8 hown hK hP 0 rfl rfl 3 (by decide) (hts (.fieldLink RX8 30 "YamRiders" "fodderAt" "[I") (by decide +kernel)) (fun _ h9 => h9) rfl dX8_careFor_1 ?_
  refine lv_iload_n hx hb dX8_careFor_4 rfl (lv_at hl 2 rfl) ?_
  obtain ⟨g_2, hf_1⟩ := hT.get hY.2.2.1
  obtain ⟨q_3, hq_3⟩ := pl_at (X := [(h0, .inr (8, [.ref a1, .ref a2, .ref a3, .ref a4, .ref a5, .ref a6, .ref a7, .ref a8, .ref a9, .int j_faultKind, .int j_horseCount, .int j_tabletCount, .int j_riderCount, .int j_lineLength, .int j_hour]))]) (f := f) (e := .inl (cs 0, 12, .inl g_2)) hY.2.2.1.1 hf_1
  refine va_iald hx hb hK hP q_3 0 hq_3 rfl (st_in hs1) dX8_careFor_5 ?_
  refine lv_topi (fun v_4 ev_4 => ?_)
  refine lv_if_le (tgt := 43) hx hb dX8_careFor_6 (by decide) (fun c_5 => ?_) (fun c_5 => ?_)
  · refine lv_aload_n hx hb dX8_careFor_43 rfl (lv_at hl 1 rfl) ?_
    refine lv_aload_n hx hb dX8_careFor_44 rfl (lv_at hl 0 rfl) ?_
    refine va_get (D := (dC, dI)) (ci := 8) (v := .ref a9) (C := RX8) (T := TX8) (N := 15) hx hb hts hin8 hown hK hP 0 rfl rfl 8 (by decide) (hts (.fieldLink RX8 58 "YamRiders" "law" "LYamRiders$Statutes;") (by decide +kernel)) (fun _ h9 => h9) rfl dX8_careFor_45 ?_
    have hPc := hP.part (cx := []) [] rfl
    have hDc := hD.part (cx := []) [] (by decide) rfl
    have hKc := hK
    obtain ⟨o_7, hf_6, hk_o_7⟩ := hT.get hY.2.2.2.2.2.2.2
    obtain ⟨q_8, hq_8⟩ := pl_at (X := []) (f := f) (e := .inr (5, [.ref o_7])) hY.2.2.2.2.2.2.2.1 hf_6
    refine cs_i (va_runV (As := []) (rest := [.ref e1]) ⟨hx, hb, hml, hown, hts⟩ (t_X5_hunger l dC dI cs L ka f a9 s.heap.size hT hY.2.2.2.2.2.2.2) (cwV 0 hts gX8_careFor_X5_hunger rfl rfl rfl (by decide +kernel) ⟨Nat.le_of_ble_eq_true rfl, Nat.le_of_ble_eq_true rfl⟩) ⟨c_blind, va_recv hKc hPc (ci := 5) (q0 := q_8) rfl hq_8, c_pre hPc hKc hDc hN⟩ rfl rfl hl.1 rfl (lv_room (Nat.le_of_ble_eq_true rfl)) dX8_careFor_48 ⟨Nat.le_of_ble_eq_true rfl, Nat.le_of_ble_eq_true rfl⟩) (fun r_9 hr_9 => ?_)
    have hPc := hP.part (cx := []) [] rfl
    have hDc := hD.part (cx := []) [] (by decide) rfl
    have hKc := hK
    have hFc := va_freeP (cx := []) hD hS hA [] rfl
    obtain ⟨x_11, x_12, x_13, hf_10⟩ := hT.get hk_e1
    obtain ⟨q_14, hq_14⟩ := pl_at (X := []) (f := f) (e := .inr (0, [.int x_11, .int x_12, .int x_13])) hk_e1.1 hf_10
    refine va_callv (va_runV (As := [.int r_9]) (rest := []) ⟨hx, hb, hml, hown, hts⟩ (t_X0_weaken l dC dI cs L ka f e1 r_9 s.heap.size hT hk_e1) (cwV 1 hts gX8_careFor_X0_weaken rfl rfl rfl (by decide +kernel) ⟨Nat.le_of_ble_eq_true rfl, Nat.le_of_ble_eq_true rfl⟩) ⟨c_blind, va_recv hKc hPc (ci := 0) (q0 := q_14) rfl hq_14, c_pre hPc hKc hDc hN⟩ rfl rfl hl.1 rfl (lv_room (Nat.le_of_ble_eq_true rfl)) dX8_careFor_51 ⟨Nat.le_of_ble_eq_true rfl, Nat.le_of_ble_eq_true rfl⟩) hS (fun q _ h => hFc q h) hFc (fun u9 t9 H1 locs ht hvm hw hB hz1 hk1 hS => ?_)
    obtain ⟨f_16, hf_x_17, hP1, hK1, hD1⟩ := hB
    rw [ht] at hP1
    have hK1 := va_K.moved hvm.symm hK1
    obtain ⟨hP, hD⟩ := va_joinP (X := [(h0, .inr (8, [.ref a1, .ref a2, .ref a3, .ref a4, .ref a5, .ref a6, .ref a7, .ref a8, .ref a9, .int j_faultKind, .int j_horseCount, .int j_tabletCount, .int j_riderCount, .int j_lineLength, .int j_hour]))]) (cx := []) (wr := [(h0, .inr (8, [.ref a1, .ref a2, .ref a3, .ref a4, .ref a5, .ref a6, .ref a7, .ref a8, .ref a9, .int j_faultKind, .int j_horseCount, .int j_tabletCount, .int j_riderCount, .int j_lineLength, .int j_hour]))]) (rx := []) (pl := va_pl L f) (pl1 := va_pl L f_16) hP hD [] [0] rfl rfl (by decide) (by decide) hk1 hFc hP1 hD1
    have hT := hf_x_17
    generalize H1 = H at hP hS ⊢
    have hP : va_P (dC, dI) vwCl ([(h0, .inr (8, [.ref a1, .ref a2, .ref a3, .ref a4, .ref a5, .ref a6, .ref a7, .ref a8, .ref a9, .int j_faultKind, .int j_horseCount, .int j_tabletCount, .int j_riderCount, .int j_lineLength, .int j_hour]))] ++ va_pl L f_16) H := hP
    have hD : va_D A ([(h0, .inr (8, [.ref a1, .ref a2, .ref a3, .ref a4, .ref a5, .ref a6, .ref a7, .ref a8, .ref a9, .int j_faultKind, .int j_horseCount, .int j_tabletCount, .int j_riderCount, .int j_lineLength, .int j_hour]))] ++ va_pl L f_16) := hD
    refine W.widen (k := 0) (n := 0) (Nat.le_of_ble_eq_true rfl) (Nat.le_of_ble_eq_true rfl) ?_
    have hP9 := hP.part (cx := [(h0, .inr (8, [.ref a1, .ref a2, .ref a3, .ref a4, .ref a5, .ref a6, .ref a7, .ref a8, .ref a9, .int j_faultKind, .int j_horseCount, .int j_tabletCount, .int j_riderCount, .int j_lineLength, .int j_hour]))]) [0] rfl
    have hD9 := hD.part (cx := [(h0, .inr (8, [.ref a1, .ref a2, .ref a3, .ref a4, .ref a5, .ref a6, .ref a7, .ref a8, .ref a9, .int j_faultKind, .int j_horseCount, .int j_tabletCount, .int j_riderCount, .int j_lineLength, .int j_hour]))]) [0] (by decide) rfl
    have hK9 := hK.sub (tys' := []) [] rfl
    refine W.widen (k := 0) (n := 0) (Nat.le_of_ble_eq_true rfl) (Nat.le_of_ble_eq_true rfl) ?_
    exact W.vret hx hb hr (fun t9 ht hW => ⟨⟨(), rfl, trivial, f_16, hT, by rw [ht]; exact hP9, va_K.moved hW.alike hK9, hD9⟩, hS.F ht⟩) hS.2.2 dX8_careFor_54
  · refine lv_aload_n hx hb dX8_careFor_9 rfl (lv_at hl 0 rfl) ?_
    refine va_get (D := (dC, dI)) (ci := 8) (v := .ref a4) (C := RX8) (T := TX8) (N := 15) hx hb hts hin8 hown hK hP 0 rfl rfl 3 (by decide) (hts (.fieldLink RX8 30 "YamRiders" "fodderAt" "[I") (by decide +kernel)) (fun _ h9 => h9) rfl dX8_careFor_10 ?_
    refine lv_iload_n hx hb dX8_careFor_13 rfl (lv_at hl 2 rfl) ?_
    refine lv_dup2_11 hx hb dX8_careFor_14 rfl rfl ?_
    obtain ⟨q_18, hq_18⟩ := pl_at (X := [(h0, .inr (8, [.ref a1, .ref a2, .ref a3, .ref a4, .ref a5, .ref a6, .ref a7, .ref a8, .ref a9, .int j_faultKind, .int j_horseCount, .int j_tabletCount, .int j_riderCount, .int j_lineLength, .int j_hour]))]) (f := f) (e := .inl (cs 0, 12, .inl g_2)) hY.2.2.1.1 hf_1
    refine va_iald hx hb hK hP q_18 0 hq_18 rfl (st_in hs1) dX8_careFor_15 ?_
    refine lv_topi (fun v_19 ev_19 => ?_)
    obtain rfl : v_4 = v_19 := ev_4.trans ev_19.symm
    refine lv_iconst (v := 1) hx hb dX8_careFor_16 (by decide) ?_
    refine lv_isub hx hb dX8_careFor_17 ?_
    refine lv_topi (fun v_20 ev_20 => ?_)
    obtain ⟨q_21, hq_21⟩ := pl_at (X := [(h0, .inr (8, [.ref a1, .ref a2, .ref a3, .ref a4, .ref a5, .ref a6, .ref a7, .ref a8, .ref a9, .int j_faultKind, .int j_horseCount, .int j_tabletCount, .int j_riderCount, .int j_lineLength, .int j_hour]))]) (f := f) (e := .inl (cs 0, 12, .inl g_2)) hY.2.2.1.1 hf_1
    refine va_iast hx hb hK hP hD hS q_21 0 hq_21 rfl (st_in hs1) dX8_careFor_18 (fun H locs hP9 hD9 hS => ?_)
    have hs_22 := pl_st (.inl (cs 0, 12, .inl (upd g_2 p1.toNatClampNeg v_20))) hD hY.2.2.1.1 hf_1 hq_21
    have hP9 : va_P (dC, dI) vwCl ((([(h0, .inr (8, [.ref a1, .ref a2, .ref a3, .ref a4, .ref a5, .ref a6, .ref a7, .ref a8, .ref a9, .int j_faultKind, .int j_horseCount, .int j_tabletCount, .int j_riderCount, .int j_lineLength, .int j_hour]))] : va_W) ++ va_pl L f).set q_21 (a4, .inl (cs 0, 12, .inl (upd g_2 p1.toNatClampNeg v_20)))) H := hP9
    have hD9 : va_D A ((([(h0, .inr (8, [.ref a1, .ref a2, .ref a3, .ref a4, .ref a5, .ref a6, .ref a7, .ref a8, .ref a9, .int j_faultKind, .int j_horseCount, .int j_tabletCount, .int j_riderCount, .int j_lineLength, .int j_hour]))] : va_W) ++ va_pl L f).set q_21 (a4, .inl (cs 0, 12, .inl (upd g_2 p1.toNatClampNeg v_20)))) := hD9
    rw [hs_22] at hP9 hD9
    have hT := hT.put (e := .inl (cs 0, 12, .inl (upd g_2 p1.toNatClampNeg v_20))) hY.2.2.1 ⟨_, rfl⟩
    have hf_23 : va_up f a4 (.inl (cs 0, 12, .inl (upd g_2 p1.toNatClampNeg v_20))) a4 = .inl (cs 0, 12, .inl (upd g_2 p1.toNatClampNeg v_20)) := va_up_self _ _ _
    have hP := hP9
    have hD := hD9
    clear hP9 hD9 hs_22
    generalize va_up f a4 (.inl (cs 0, 12, .inl (upd g_2 p1.toNatClampNeg v_20))) = f_24 at hP hD hT hf_23
    generalize upd g_2 p1.toNatClampNeg v_20 = g_25 at hf_23
    refine lv_aload_n hx hb dX8_careFor_19 rfl (lv_at hl 1 rfl) ?_
    refine lv_bipush (v := 100) hx hb dX8_careFor_20 (by decide) ?_
    refine lv_aload_n hx hb dX8_careFor_22 rfl (lv_at hl 1 rfl) ?_
    obtain ⟨x_27, x_28, x_29, hf_26⟩ := hT.get hk_e1
    obtain ⟨q_30, hq_30⟩ := pl_at (X := [(h0, .inr (8, [.ref a1, .ref a2, .ref a3, .ref a4, .ref a5, .ref a6, .ref a7, .ref a8, .ref a9, .int j_faultKind, .int j_horseCount, .int j_tabletCount, .int j_riderCount, .int j_lineLength, .int j_hour]))]) (f := f_24) (e := .inr (0, [.int x_27, .int x_28, .int x_29])) hk_e1.1 hf_26
    refine va_getN (D := (dC, dI)) (ci := 0) (v := .int x_29) (C := RX0) (T := TX0) (N := 3) hx hb hts hin0 hown hK hP q_30 hq_30 rfl 2 (by decide) (hN.nx (.fieldLinkNest RX8 206 "YamRiders$Horse" "strength" "I" "YamRiders") (by decide +kernel)) (fun _ h9 => h9) rfl dX8_careFor_23 ?_
    refine lv_aload_n hx hb dX8_careFor_26 rfl (lv_at hl 0 rfl) ?_
    refine va_get (D := (dC, dI)) (ci := 8) (v := .ref a9) (C := RX8) (T := TX8) (N := 15) hx hb hts hin8 hown hK hP 0 rfl rfl 8 (by decide) (hts (.fieldLink RX8 58 "YamRiders" "law" "LYamRiders$Statutes;") (by decide +kernel)) (fun _ h9 => h9) rfl dX8_careFor_27 ?_
    have hPc := hP.part (cx := []) [] rfl
    have hDc := hD.part (cx := []) [] (by decide) rfl
    have hKc := hK
    obtain ⟨o_32, hf_31, hk_o_32⟩ := hT.get hY.2.2.2.2.2.2.2
    obtain ⟨q_33, hq_33⟩ := pl_at (X := []) (f := f_24) (e := .inr (5, [.ref o_32])) hY.2.2.2.2.2.2.2.1 hf_31
    refine cs_i (va_runV (As := []) (rest := [.int x_29, .int 100, .ref e1]) ⟨hx, hb, hml, hown, hts⟩ (t_X5_rest l dC dI cs L ka f_24 a9 H.size hT hY.2.2.2.2.2.2.2) (cwV 0 hts gX8_careFor_X5_rest rfl rfl rfl (by decide +kernel) ⟨Nat.le_of_ble_eq_true rfl, Nat.le_of_ble_eq_true rfl⟩) ⟨c_blind, va_recv hKc hPc (ci := 5) (q0 := q_33) rfl hq_33, c_pre hPc hKc hDc hN⟩ rfl rfl hl.1 rfl (lv_room (Nat.le_of_ble_eq_true rfl)) dX8_careFor_30 ⟨Nat.le_of_ble_eq_true rfl, Nat.le_of_ble_eq_true rfl⟩) (fun r_34 hr_34 => ?_)
    refine lv_iadd hx hb dX8_careFor_33 ?_
    refine lv_topi (fun v_35 ev_35 => ?_)
    refine va_mmin (x := 100) (y := v_35) hx hb (by rw [hml]; exact hl.1.symm) hown (hts (.methodLink RX8 248 Lib.Math.min.name) (by decide +kernel)) (hts (.static Lib.Math.min.name) (by decide +kernel)) (hts (.initialized "java/lang/Math") (by decide +kernel)) (hts (.code Lib.Math.min.name Lib.Math.min.code 2 (some .int)) (by decide +kernel)) (Nat.le_of_ble_eq_true rfl) (Nat.le_of_ble_eq_true rfl) (Nat.le_of_ble_eq_true rfl) (Nat.le_of_ble_eq_true rfl) dX8_careFor_34 ?_
    refine lv_topi (fun v_36 ev_36 => ?_)
    obtain ⟨q_37, hq_37⟩ := pl_at (X := [(h0, .inr (8, [.ref a1, .ref a2, .ref a3, .ref a4, .ref a5, .ref a6, .ref a7, .ref a8, .ref a9, .int j_faultKind, .int j_horseCount, .int j_tabletCount, .int j_riderCount, .int j_lineLength, .int j_hour]))]) (f := f_24) (e := .inr (0, [.int x_27, .int x_28, .int x_29])) hk_e1.1 hf_26
    refine va_putN (D := (dC, dI)) (ci := 0) (v := .int v_36) (ty := (tyX0 2)) (C := RX0) (T := TX0) (N := 3) hx hb hts hin0 tyX0 tyX0_ok nmX0 hown hK hP hD hS q_37 hq_37 rfl 2 (by decide) (hN.nx (.fieldLinkNest RX8 206 "YamRiders$Horse" "strength" "I" "YamRiders") (by decide +kernel)) (fun _ h9 => h9) rfl (by decide +kernel) rfl rfl (Nat.le_of_ble_eq_true rfl) dX8_careFor_37 (fun H locs hP9 hD9 hS => ?_)
    have hs_38 := pl_st (.inr (0, [.int x_27, .int x_28, .int v_36])) hD hk_e1.1 hf_26 hq_37
    have hP9 : va_P (dC, dI) vwCl ((([(h0, .inr (8, [.ref a1, .ref a2, .ref a3, .ref a4, .ref a5, .ref a6, .ref a7, .ref a8, .ref a9, .int j_faultKind, .int j_horseCount, .int j_tabletCount, .int j_riderCount, .int j_lineLength, .int j_hour]))] : va_W) ++ va_pl L f_24).set q_37 (e1, .inr (0, [.int x_27, .int x_28, .int v_36]))) H := hP9
    have hD9 : va_D A ((([(h0, .inr (8, [.ref a1, .ref a2, .ref a3, .ref a4, .ref a5, .ref a6, .ref a7, .ref a8, .ref a9, .int j_faultKind, .int j_horseCount, .int j_tabletCount, .int j_riderCount, .int j_lineLength, .int j_hour]))] : va_W) ++ va_pl L f_24).set q_37 (e1, .inr (0, [.int x_27, .int x_28, .int v_36]))) := hD9
    rw [hs_38] at hP9 hD9
    have hT := hT.put (e := .inr (0, [.int x_27, .int x_28, .int v_36])) hk_e1 ⟨x_27, x_28, v_36, rfl⟩
    have hf_39 : va_up f_24 e1 (.inr (0, [.int x_27, .int x_28, .int v_36])) e1 = .inr (0, [.int x_27, .int x_28, .int v_36]) := va_up_self _ _ _
    have hP := hP9
    have hD := hD9
    clear hP9 hD9 hs_38
    generalize va_up f_24 e1 (.inr (0, [.int x_27, .int x_28, .int v_36])) = f_40 at hP hD hT hf_39
    refine lv_goto (tgt := 54) hx hb dX8_careFor_40 (by decide) ?_
    have hP9 := hP.part (cx := [(h0, .inr (8, [.ref a1, .ref a2, .ref a3, .ref a4, .ref a5, .ref a6, .ref a7, .ref a8, .ref a9, .int j_faultKind, .int j_horseCount, .int j_tabletCount, .int j_riderCount, .int j_lineLength, .int j_hour]))]) [0] rfl
    have hD9 := hD.part (cx := [(h0, .inr (8, [.ref a1, .ref a2, .ref a3, .ref a4, .ref a5, .ref a6, .ref a7, .ref a8, .ref a9, .int j_faultKind, .int j_horseCount, .int j_tabletCount, .int j_riderCount, .int j_lineLength, .int j_hour]))]) [0] (by decide) rfl
    have hK9 := hK.sub (tys' := []) [] rfl
    refine W.widen (k := 0) (n := 0) (Nat.le_of_ble_eq_true rfl) (Nat.le_of_ble_eq_true rfl) ?_
    exact W.vret hx hb hr (fun t9 ht hW => ⟨⟨(), rfl, trivial, f_40, hT, by rw [ht]; exact hP9, va_K.moved hW.alike hK9, hD9⟩, hS.F ht⟩) hS.2.2 dX8_careFor_54

set_option maxHeartbeats 4000000 in
set_option maxRecDepth 100000 in
theorem t_X8_careForHorses (l : Launch) (dC : Nat → ClassId) (dI : Nat → Nat → Nat) (cs : Nat → ClassId) (L : List Nat) (ka : Nat → Nat) (f : Nat → va_E) (h0 : Nat) (a1 : Nat) (a2 : Nat) (a3 : Nat) (a4 : Nat) (a5 : Nat) (a6 : Nat) (a7 : Nat) (a8 : Nat) (a9 : Nat) (j_faultKind : Int32) (j_horseCount : Int32) (j_tabletCount : Int32) (j_riderCount : Int32) (j_lineLength : Int32) (j_hour : Int32) (sz : Nat) (hT : tO L ka cs f) (hY : yK L ka a2 a3 a4 a5 a6 a7 a8 a9) : Met l yX8_careForHorses wsX8_careForHorses ({ frames := 3, cells := 0, slots := 0, locals := 67 }) (va_Pc [.ref h0] (cP dC dI ([(h0, .inr (8, [.ref a1, .ref a2, .ref a3, .ref a4, .ref a5, .ref a6, .ref a7, .ref a8, .ref a9, .int j_faultKind, .int j_horseCount, .int j_tabletCount, .int j_riderCount, .int j_lineLength, .int j_hour]))] ++ va_pl L f) (tyC cs) sz)) (va_Qv (fun (_ : Unit) => True) (fun (_ : Unit) t9 => ∃ (f2 : Nat → va_E), (tO L ka cs f2) ∧ cQ dC dI ([(h0, .inr (8, [.ref a1, .ref a2, .ref a3, .ref a4, .ref a5, .ref a6, .ref a7, .ref a8, .ref a9, .int j_faultKind, .int j_horseCount, .int j_tabletCount, .int j_riderCount, .int j_lineLength, .int j_hour]))] ++ va_pl L f2) [] (va_A ([(h0, .inr (8, [.ref a1, .ref a2, .ref a3, .ref a4, .ref a5, .ref a6, .ref a7, .ref a8, .ref a9, .int j_faultKind, .int j_horseCount, .int j_tabletCount, .int j_riderCount, .int j_lineLength, .int j_hour]))] ++ va_pl L f) sz) t9) (va_A ([(h0, .inr (8, [.ref a1, .ref a2, .ref a3, .ref a4, .ref a5, .ref a6, .ref a7, .ref a8, .ref a9, .int j_faultKind, .int j_horseCount, .int j_tabletCount, .int j_riderCount, .int j_lineLength, .int j_hour]))] ++ va_pl L f) sz)) 0 0 (va_A ([(h0, .inr (8, [.ref a1, .ref a2, .ref a3, .ref a4, .ref a5, .ref a6, .ref a7, .ref a8, .ref a9, .int j_faultKind, .int j_horseCount, .int j_tabletCount, .int j_riderCount, .int j_lineLength, .int j_hour]))] ++ va_pl L f) sz) := by
  refine Met.ofW (cc := cX8_careForHorses) (maxL := 5) (ret := none) (by decide) rfl ?_
  intro p e s m args below meth c s₁ B hml hv
  obtain ⟨rfl, hsz, hP, hK, hD0, hN⟩ := hv
  have hx := B.exec
  have hb := B.bytes
  have hr := B.returns
  have hts := atoms_spec (ws := wsX8_careForHorses) B.pre
  have hown : s.vm.findClass RX8 = some m.cls := findClass_of_methodNamed B.named
  have hlocks := B.notSynchronized
  subst hsz
  have hin0 : ∀ w ∈ u_ws RX0 TX0 3, w ∈ wsX8_careForHorses := by decide +kernel
  have hin8 : ∀ w ∈ u_ws RX8 TX8 15, w ∈ wsX8_careForHorses := by decide +kernel
  have hD := hD0.self (sz := s.heap.size)
  generalize hAe : va_A ([(h0, .inr (8, [.ref a1, .ref a2, .ref a3, .ref a4, .ref a5, .ref a6, .ref a7, .ref a8, .ref a9, .int j_faultKind, .int j_horseCount, .int j_tabletCount, .int j_riderCount, .int j_lineLength, .int j_hour]))] ++ va_pl L f) s.heap.size = A at hD ⊢
  have hA : ∀ q : Nat, s.heap.size ≤ q → A q := fun q h => by rw [← hAe]; exact Or.inr h
  have hS : va_S A s.heap s.heap [] := va_S.rf
  have hP : va_P (dC, dI) vwCl ([(h0, .inr (8, [.ref a1, .ref a2, .ref a3, .ref a4, .ref a5, .ref a6, .ref a7, .ref a8, .ref a9, .int j_faultKind, .int j_horseCount, .int j_tabletCount, .int j_riderCount, .int j_lineLength, .int j_hour]))] ++ va_pl L f) s.heap := hP
  have hl := lv_entry ([.ref h0]) (n := 5) (Nat.le_of_ble_eq_true rfl)
  rw [lg_entry_eq]
  generalize (lg_sl ([.ref h0]) ++ List.replicate (5 - (lg_sl ([.ref h0])).length) Slot.unset).toArray = ls at hl ⊢
  have hl : lv_has ls 5 [(0, .ref h0)] := hl
  refine lv_aload_n hx hb dX8_careForHorses_0 rfl (lv_at hl 0 rfl) ?_
  refine va_get (D := (dC, dI)) (ci := 8) (v := .ref a5) (C := RX8) (T := TX8) (N := 15) hx hb hts hin8 hown hK hP 0 rfl rfl 4 (by decide) (hts (.fieldLink RX8 36 "YamRiders" "horses" "[LYamRiders$Horse;") (by decide +kernel)) (fun _ h9 => h9) rfl dX8_careForHorses_1 ?_
  refine lv_astore_n (lv' := [(1, .ref a5), (0, .ref h0)]) hx hb dX8_careForHorses_4 rfl hl (by decide) rfl (fun ls hl => ?_)
  refine lv_aload_n hx hb dX8_careForHorses_5 rfl (lv_at hl 0 rfl) ?_
  obtain ⟨g_2, hf_1, hr_3⟩ := hT.get hY.2.2.2.1
  obtain ⟨q_4, hq_4⟩ := pl_at (X := [(h0, .inr (8, [.ref a1, .ref a2, .ref a3, .ref a4, .ref a5, .ref a6, .ref a7, .ref a8, .ref a9, .int j_faultKind, .int j_horseCount, .int j_tabletCount, .int j_riderCount, .int j_lineLength, .int j_hour]))]) (f := f) (e := .inl (cs 3, 60, .inr (.inr (.inr (.inr g_2))))) hY.2.2.2.1.1 hf_1
  refine va_alen (v := 60) hx hb hK hP q_4 3 hq_4 rfl rfl dX8_careForHorses_6 ?_
  refine lv_istore_n (lv' := [(2, .int 60), (1, .ref a5), (0, .ref h0)]) hx hb dX8_careForHorses_7 rfl hl (by decide) rfl (fun ls hl => ?_)
  refine lv_iconst (v := 0) hx hb dX8_careForHorses_8 (by decide) ?_
  refine lv_istore_n (lv' := [(3, .int 0), (2, .int 60), (1, .ref a5), (0, .ref h0)]) hx hb dX8_careForHorses_9 rfl hl (by decide) rfl (fun ls hl => ?_)
  have HL : ∀ (n k : Nat), k ≤ 60 → 60 + 1 ≤ k + n → ∀ (f_5 : Nat → va_E) (H : Heap) (locs : List Loc), tO L ka cs f_5 → va_P (dC, dI) vwCl ([(h0, .inr (8, [.ref a1, .ref a2, .ref a3, .ref a4, .ref a5, .ref a6, .ref a7, .ref a8, .ref a9, .int j_faultKind, .int j_horseCount, .int j_tabletCount, .int j_riderCount, .int j_lineLength, .int j_hour]))] ++ va_pl L f_5) H → va_D A ([(h0, .inr (8, [.ref a1, .ref a2, .ref a3, .ref a4, .ref a5, .ref a6, .ref a7, .ref a8, .ref a9, .int j_faultKind, .int j_horseCount, .int j_tabletCount, .int j_riderCount, .int j_lineLength, .int j_hour]))] ++ va_pl L f_5) → va_S A s.heap H locs → ∀ ls : Array Slot, lv_has ls 5 [(0, .ref h0), (1, .ref a5), (2, .int 60), (3, .int (nI k))] → W p l e (headSpec wsX8_careForHorses ({ frames := 3, cells := 0, slots := 0, locals := 67 })).room s m ([.ref h0]).toArray below meth c H locs 0 0 (MQ below (va_Qv (fun (_ : Unit) => True) (fun (_ : Unit) t9 => ∃ (f2 : Nat → va_E), (tO L ka cs f2) ∧ cQ dC dI ([(h0, .inr (8, [.ref a1, .ref a2, .ref a3, .ref a4, .ref a5, .ref a6, .ref a7, .ref a8, .ref a9, .int j_faultKind, .int j_horseCount, .int j_tabletCount, .int j_riderCount, .int j_lineLength, .int j_hour]))] ++ va_pl L f2) [] A t9) A) ([.ref h0]).toArray s 0 0 A) (F0 m 10 ls []) := by
    intro n
    induction n with
    | zero => intro k h1 h2; exact absurd h2 (by omega)
    | succ n ih =>
      intro k hk hn f_5 H locs hT hP hD hS ls hl
      refine lv_iload_n hx hb dX8_careForHorses_10 rfl (lv_at hl 3 rfl) ?_
      refine lv_iload_n hx hb dX8_careForHorses_11 rfl (lv_at hl 2 rfl) ?_
      refine lv_icmp_ge (tgt := 53) hx hb dX8_careForHorses_12 (by decide) (fun c_6 => ?_) (fun c_6 => ?_)
      · have hke : k = 60 := by
          rcases Nat.lt_or_ge k 60 with q | q
          · exact absurd c_6 (nI_ge q (by decide))
          · omega
        have hP9 := hP.part (cx := [(h0, .inr (8, [.ref a1, .ref a2, .ref a3, .ref a4, .ref a5, .ref a6, .ref a7, .ref a8, .ref a9, .int j_faultKind, .int j_horseCount, .int j_tabletCount, .int j_riderCount, .int j_lineLength, .int j_hour]))]) [0] rfl
        have hD9 := hD.part (cx := [(h0, .inr (8, [.ref a1, .ref a2, .ref a3, .ref a4, .ref a5, .ref a6, .ref a7, .ref a8, .ref a9, .int j_faultKind, .int j_horseCount, .int j_tabletCount, .int j_riderCount, .int j_lineLength, .int j_hour]))]) [0] (by decide) rfl
        have hK9 := hK.sub (tys' := []) [] rfl
        refine W.widen (k := 0) (n := 0) (Nat.le_of_ble_eq_true rfl) (Nat.le_of_ble_eq_true rfl) ?_
        exact W.vret hx hb hr (fun t9 ht hW => ⟨⟨(), rfl, trivial, f_5, hT, by rw [ht]; exact hP9, va_K.moved hW.alike hK9, hD9⟩, hS.F ht⟩) hS.2.2 dX8_careForHorses_53
      · have hlt : k < 60 := by
          rcases Nat.lt_or_ge k 60 with q | q
          · exact q
          · exact absurd (show nI 60 ≤ nI k from nI_le q (by omega)) c_6
        refine lv_aload_n hx hb dX8_careForHorses_15 rfl (lv_at hl 1 rfl) ?_
        refine lv_iload_n hx hb dX8_careForHorses_16 rfl (lv_at hl 3 rfl) ?_
        obtain ⟨g_8, hf_7, hr_9⟩ := hT.get hY.2.2.2.1
        obtain ⟨q_10, hq_10⟩ := pl_at (X := [(h0, .inr (8, [.ref a1, .ref a2, .ref a3, .ref a4, .ref a5, .ref a6, .ref a7, .ref a8, .ref a9, .int j_faultKind, .int j_horseCount, .int j_tabletCount, .int j_riderCount, .int j_lineLength, .int j_hour]))]) (f := f_5) (e := .inl (cs 3, 60, .inr (.inr (.inr (.inr g_8))))) hY.2.2.2.1.1 hf_7
        refine va_aldq hx hb hK hP q_10 3 hq_10 rfl (vp_in_nI hlt (by decide)) dX8_careForHorses_17 ?_
        rcases hr_o_11 : g_8 (nI k).toNatClampNeg with _ | o_11
        · refine W.eq (g2 := F0 m 18 ls [.null]) rfl ?_
          refine lv_astoreN (lv' := [(4, .null), (0, .ref h0), (1, .ref a5), (2, .int 60), (3, .int (nI k))]) hx hb dX8_careForHorses_18 hl (by decide) rfl (fun ls hl => ?_)
          refine lv_aloadN hx hb dX8_careForHorses_20 (lv_at hl 0 rfl) ?_
          refine lv_ifnullN (tgt := 47) hx hb dX8_careForHorses_22 (by decide) ?_
          refine lv_iinc (v := nI (k + 1)) (lv' := [(3, .int (nI (k + 1))), (4, .null), (0, .ref h0), (1, .ref a5), (2, .int 60)]) hx hb dX8_careForHorses_47 hl (k := 4) rfl (by exact (nI_1 k)) (by decide) rfl (fun ls hl => ?_)
          refine lv_goto (tgt := 10) hx hb dX8_careForHorses_50 (by decide) ?_
          exact ih (k + 1) (by omega) (by omega) _ _ _ hT (hP.part (cx := _) [0] rfl) (hD.part (cx := _) [0] (by decide) rfl) hS ls (lv_sub hl [2, 3, 4, 0] rfl)
        · have hk_o_11 := hr_9 _ _ hr_o_11
          refine W.eq (g2 := F0 m 18 ls [.ref o_11]) rfl ?_
          refine lv_astore (lv' := [(4, .ref o_11), (0, .ref h0), (1, .ref a5), (2, .int 60), (3, .int (nI k))]) hx hb dX8_careForHorses_18 hl (by decide) rfl (fun ls hl => ?_)
          refine lv_aload hx hb dX8_careForHorses_20 (lv_at hl 0 rfl) ?_
          refine lv_ifnull hx hb dX8_careForHorses_22 ?_
          refine lv_aload hx hb dX8_careForHorses_25 (lv_at hl 0 rfl) ?_
          obtain ⟨x_13, x_14, x_15, hf_12⟩ := hT.get hk_o_11
          obtain ⟨q_16, hq_16⟩ := pl_at (X := [(h0, .inr (8, [.ref a1, .ref a2, .ref a3, .ref a4, .ref a5, .ref a6, .ref a7, .ref a8, .ref a9, .int j_faultKind, .int j_horseCount, .int j_tabletCount, .int j_riderCount, .int j_lineLength, .int j_hour]))]) (f := f_5) (e := .inr (0, [.int x_13, .int x_14, .int x_15])) hk_o_11.1 hf_12
          refine va_getN (D := (dC, dI)) (ci := 0) (v := .int x_14) (C := RX0) (T := TX0) (N := 3) hx hb hts hin0 hown hK hP q_16 hq_16 rfl 1 (by decide) (hN.nx (.fieldLinkNest RX8 209 "YamRiders$Horse" "station" "I" "YamRiders") (by decide +kernel)) (fun _ h9 => h9) rfl dX8_careForHorses_27 ?_
          have hPc := hP.sub (ws' := []) [] rfl
          have hDc := hD.sub (ws' := []) [] (by decide) rfl
          have hKc := hK.sub (tys' := []) [] rfl
          refine cs_i (va_runS (As := [.int x_14]) (rest := []) ⟨hx, hb, hml, hown, hts⟩ (c_X8_isStation l dC dI x_14 H.size) (va_cwS 1 hts gX8_careForHorses_X8_isStation rfl rfl rfl (by decide +kernel) ⟨Nat.le_of_ble_eq_true rfl, Nat.le_of_ble_eq_true rfl⟩) ⟨c_blind, c_pre hPc hKc hDc hN⟩ rfl rfl hl.1 rfl (lv_room (Nat.le_of_ble_eq_true rfl)) dX8_careForHorses_30 ⟨Nat.le_of_ble_eq_true rfl, Nat.le_of_ble_eq_true rfl⟩) (fun r_17 hr_17 => ?_)
          subst hr_17
          refine lv_if_eq (tgt := 47) hx hb dX8_careForHorses_33 (by decide) (fun c_18 => ?_) (fun c_18 => ?_)
          · refine lv_iinc (v := nI (k + 1)) (lv' := [(3, .int (nI (k + 1))), (4, .ref o_11), (0, .ref h0), (1, .ref a5), (2, .int 60)]) hx hb dX8_careForHorses_47 hl (k := 4) rfl (by exact (nI_1 k)) (by decide) rfl (fun ls hl => ?_)
            refine lv_goto (tgt := 10) hx hb dX8_careForHorses_50 (by decide) ?_
            exact ih (k + 1) (by omega) (by omega) _ _ _ hT (hP.part (cx := _) [0] rfl) (hD.part (cx := _) [0] (by decide) rfl) hS ls (lv_sub hl [2, 3, 4, 0] rfl)
          · refine lv_aload_n hx hb dX8_careForHorses_36 rfl (lv_at hl 1 rfl) ?_
            refine lv_aload hx hb dX8_careForHorses_37 (lv_at hl 0 rfl) ?_
            refine lv_aload hx hb dX8_careForHorses_39 (lv_at hl 0 rfl) ?_
            obtain ⟨q_19, hq_19⟩ := pl_at (X := [(h0, .inr (8, [.ref a1, .ref a2, .ref a3, .ref a4, .ref a5, .ref a6, .ref a7, .ref a8, .ref a9, .int j_faultKind, .int j_horseCount, .int j_tabletCount, .int j_riderCount, .int j_lineLength, .int j_hour]))]) (f := f_5) (e := .inr (0, [.int x_13, .int x_14, .int x_15])) hk_o_11.1 hf_12
            refine va_getN (D := (dC, dI)) (ci := 0) (v := .int x_14) (C := RX0) (T := TX0) (N := 3) hx hb hts hin0 hown hK hP q_19 hq_19 rfl 1 (by decide) (hN.nx (.fieldLinkNest RX8 209 "YamRiders$Horse" "station" "I" "YamRiders") (by decide +kernel)) (fun _ h9 => h9) rfl dX8_careForHorses_41 ?_
            have hPc := hP.part (cx := [(h0, .inr (8, [.ref a1, .ref a2, .ref a3, .ref a4, .ref a5, .ref a6, .ref a7, .ref a8, .ref a9, .int j_faultKind, .int j_horseCount, .int j_tabletCount, .int j_riderCount, .int j_lineLength, .int j_hour]))]) [0] rfl
            have hDc := hD.part (cx := [(h0, .inr (8, [.ref a1, .ref a2, .ref a3, .ref a4, .ref a5, .ref a6, .ref a7, .ref a8, .ref a9, .int j_faultKind, .int j_horseCount, .int j_tabletCount, .int j_riderCount, .int j_lineLength, .int j_hour]))]) [0] (by decide) rfl
            have hKc := hK
            have hFc := va_freeP (cx := [(h0, .inr (8, [.ref a1, .ref a2, .ref a3, .ref a4, .ref a5, .ref a6, .ref a7, .ref a8, .ref a9, .int j_faultKind, .int j_horseCount, .int j_tabletCount, .int j_riderCount, .int j_lineLength, .int j_hour]))]) hD hS hA [0] rfl
            refine va_callv (va_runV (As := [.ref o_11, .int x_14]) (rest := []) ⟨hx, hb, hml, hown, hts⟩ (t_X8_careFor l dC dI cs L ka f_5 h0 a1 a2 a3 a4 a5 a6 a7 a8 a9 j_faultKind j_horseCount j_tabletCount j_riderCount j_lineLength j_hour o_11 x_14 H.size hT hY hk_o_11 c_18) (cwV 2 hts gX8_careForHorses_X8_careFor rfl rfl rfl (by decide +kernel) ⟨Nat.le_of_ble_eq_true rfl, Nat.le_of_ble_eq_true rfl⟩) ⟨c_blind, va_recv hKc hPc (ci := 8) (q0 := 0) rfl rfl, c_pre hPc hKc hDc hN⟩ rfl rfl hl.1 rfl (lv_room (Nat.le_of_ble_eq_true rfl)) dX8_careForHorses_44 ⟨Nat.le_of_ble_eq_true rfl, Nat.le_of_ble_eq_true rfl⟩) hS (fun q _ h => hFc q h) hFc (fun u9 t9 H1 locs ht hvm hw hB hz1 hk1 hS => ?_)
            obtain ⟨f_21, hf_x_22, hP1, hK1, hD1⟩ := hB
            rw [ht] at hP1
            have hK1 := va_K.moved hvm.symm hK1
            obtain ⟨hP, hD⟩ := va_joinP (X := [(h0, .inr (8, [.ref a1, .ref a2, .ref a3, .ref a4, .ref a5, .ref a6, .ref a7, .ref a8, .ref a9, .int j_faultKind, .int j_horseCount, .int j_tabletCount, .int j_riderCount, .int j_lineLength, .int j_hour]))]) (cx := [(h0, .inr (8, [.ref a1, .ref a2, .ref a3, .ref a4, .ref a5, .ref a6, .ref a7, .ref a8, .ref a9, .int j_faultKind, .int j_horseCount, .int j_tabletCount, .int j_riderCount, .int j_lineLength, .int j_hour]))]) (wr := []) (rx := [(h0, .inr (8, [.ref a1, .ref a2, .ref a3, .ref a4, .ref a5, .ref a6, .ref a7, .ref a8, .ref a9, .int j_faultKind, .int j_horseCount, .int j_tabletCount, .int j_riderCount, .int j_lineLength, .int j_hour]))]) (pl := va_pl L f_5) (pl1 := va_pl L f_21) hP hD [0] [] rfl rfl (by decide) (by decide) hk1 hFc hP1 hD1
            have hT := hf_x_22
            generalize H1 = H at hP hS ⊢
            have hP : va_P (dC, dI) vwCl ([(h0, .inr (8, [.ref a1, .ref a2, .ref a3, .ref a4, .ref a5, .ref a6, .ref a7, .ref a8, .ref a9, .int j_faultKind, .int j_horseCount, .int j_tabletCount, .int j_riderCount, .int j_lineLength, .int j_hour]))] ++ va_pl L f_21) H := hP
            have hD : va_D A ([(h0, .inr (8, [.ref a1, .ref a2, .ref a3, .ref a4, .ref a5, .ref a6, .ref a7, .ref a8, .ref a9, .int j_faultKind, .int j_horseCount, .int j_tabletCount, .int j_riderCount, .int j_lineLength, .int j_hour]))] ++ va_pl L f_21) := hD
            refine W.widen (k := 0) (n := 0) (Nat.le_of_ble_eq_true rfl) (Nat.le_of_ble_eq_true rfl) ?_
            refine lv_iinc (v := nI (k + 1)) (lv' := [(3, .int (nI (k + 1))), (4, .ref o_11), (0, .ref h0), (1, .ref a5), (2, .int 60)]) hx hb dX8_careForHorses_47 hl (k := 4) rfl (by exact (nI_1 k)) (by decide) rfl (fun ls hl => ?_)
            refine lv_goto (tgt := 10) hx hb dX8_careForHorses_50 (by decide) ?_
            exact ih (k + 1) (by omega) (by omega) _ _ _ hT (hP.part (cx := _) [0] rfl) (hD.part (cx := _) [0] (by decide) rfl) hS ls (lv_sub hl [2, 3, 4, 0] rfl)
  exact HL 61 0 (by omega) (by omega) _ _ _ hT (hP.part (cx := [(h0, .inr (8, [.ref a1, .ref a2, .ref a3, .ref a4, .ref a5, .ref a6, .ref a7, .ref a8, .ref a9, .int j_faultKind, .int j_horseCount, .int j_tabletCount, .int j_riderCount, .int j_lineLength, .int j_hour]))]) [0] rfl) (hD.part (cx := [(h0, .inr (8, [.ref a1, .ref a2, .ref a3, .ref a4, .ref a5, .ref a6, .ref a7, .ref a8, .ref a9, .int j_faultKind, .int j_horseCount, .int j_tabletCount, .int j_riderCount, .int j_lineLength, .int j_hour]))]) [0] (by decide) rfl) hS ls (lv_sub hl [3, 2, 1, 0] rfl)

set_option maxHeartbeats 4000000 in
set_option maxRecDepth 100000 in
theorem t_X8_putInLine (l : Launch) (dC : Nat → ClassId) (dI : Nat → Nat → Nat) (cs : Nat → ClassId) (L : List Nat) (ka : Nat → Nat) (f : Nat → va_E) (h0 : Nat) (a1 : Nat) (a2 : Nat) (a3 : Nat) (a4 : Nat) (a5 : Nat) (a6 : Nat) (a7 : Nat) (a8 : Nat) (a9 : Nat) (j_faultKind : Int32) (j_horseCount : Int32) (j_tabletCount : Int32) (j_riderCount : Int32) (j_hour : Int32) (e1 : Nat) (ll9 : Nat) (sz : Nat) (hT : tO L ka cs f) (hY : yK L ka a2 a3 a4 a5 a6 a7 a8 a9) (hk_e1 : tp L ka 2 e1) (hll : ll9 ≤ 60) : Met l yX8_putInLine wsX8_putInLine ({ frames := 3, cells := 0, slots := 0, locals := 62 }) (va_Pc [.ref h0, .ref e1] (cP dC dI ([(h0, .inr (8, [.ref a1, .ref a2, .ref a3, .ref a4, .ref a5, .ref a6, .ref a7, .ref a8, .ref a9, .int j_faultKind, .int j_horseCount, .int j_tabletCount, .int j_riderCount, .int (nI ll9), .int j_hour]))] ++ va_pl L f) (tyC cs) sz)) (va_Qv (fun (_ : Unit) => True) (fun (_ : Unit) t9 => ∃ (f2 : Nat → va_E) (ll2 : Nat), (tO L ka cs f2) ∧ (ll2 ≤ 60) ∧ cQ dC dI ([(h0, .inr (8, [.ref a1, .ref a2, .ref a3, .ref a4, .ref a5, .ref a6, .ref a7, .ref a8, .ref a9, .int j_faultKind, .int j_horseCount, .int j_tabletCount, .int j_riderCount, .int (nI ll2), .int j_hour]))] ++ va_pl L f2) [] (va_A ([(h0, .inr (8, [.ref a1, .ref a2, .ref a3, .ref a4, .ref a5, .ref a6, .ref a7, .ref a8, .ref a9, .int j_faultKind, .int j_horseCount, .int j_tabletCount, .int j_riderCount, .int (nI ll9), .int j_hour]))] ++ va_pl L f) sz) t9) (va_A ([(h0, .inr (8, [.ref a1, .ref a2, .ref a3, .ref a4, .ref a5, .ref a6, .ref a7, .ref a8, .ref a9, .int j_faultKind, .int j_horseCount, .int j_tabletCount, .int j_riderCount, .int (nI ll9), .int j_hour]))] ++ va_pl L f) sz)) 0 0 (va_A ([(h0, .inr (8, [.ref a1, .ref a2, .ref a3, .ref a4, .ref a5, .ref a6, .ref a7, .ref a8, .ref a9, .int j_faultKind, .int j_horseCount, .int j_tabletCount, .int j_riderCount, .int (nI ll9), .int j_hour]))] ++ va_pl L f) sz) := by
  refine Met.ofW (cc := cX8_putInLine) (maxL := 3) (ret := none) (by decide) rfl ?_
  intro p e s m args below meth c s₁ B hml hv
  obtain ⟨rfl, hsz, hP, hK, hD0, hN⟩ := hv
  have hx := B.exec
  have hb := B.bytes
  have hr := B.returns
  have hts := atoms_spec (ws := wsX8_putInLine) B.pre
  have hown : s.vm.findClass RX8 = some m.cls := findClass_of_methodNamed B.named
  have hlocks := B.notSynchronized
  subst hsz
  have hin8 : ∀ w ∈ u_ws RX8 TX8 15, w ∈ wsX8_putInLine := by decide +kernel
  have hD := hD0.self (sz := s.heap.size)
  generalize hAe : va_A ([(h0, .inr (8, [.ref a1, .ref a2, .ref a3, .ref a4, .ref a5, .ref a6, .ref a7, .ref a8, .ref a9, .int j_faultKind, .int j_horseCount, .int j_tabletCount, .int j_riderCount, .int (nI ll9), .int j_hour]))] ++ va_pl L f) s.heap.size = A at hD ⊢
  have hA : ∀ q : Nat, s.heap.size ≤ q → A q := fun q h => by rw [← hAe]; exact Or.inr h
  have hS : va_S A s.heap s.heap [] := va_S.rf
  have hP : va_P (dC, dI) vwCl ([(h0, .inr (8, [.ref a1, .ref a2, .ref a3, .ref a4, .ref a5, .ref a6, .ref a7, .ref a8, .ref a9, .int j_faultKind, .int j_horseCount, .int j_tabletCount, .int j_riderCount, .int (nI ll9), .int j_hour]))] ++ va_pl L f) s.heap := hP
  have hl := lv_entry ([.ref h0, .ref e1]) (n := 3) (Nat.le_of_ble_eq_true rfl)
  rw [lg_entry_eq]
  generalize (lg_sl ([.ref h0, .ref e1]) ++ List.replicate (3 - (lg_sl ([.ref h0, .ref e1])).length) Slot.unset).toArray = ls at hl ⊢
  have hl : lv_has ls 3 [(0, .ref h0), (1, .ref e1)] := hl
  refine lv_aload_n hx hb dX8_putInLine_0 rfl (lv_at hl 0 rfl) ?_
  refine va_get (D := (dC, dI)) (ci := 8) (v := .int (nI ll9)) (C := RX8) (T := TX8) (N := 15) hx hb hts hin8 hown hK hP 0 rfl rfl 13 (by decide) (hts (.fieldLink RX8 259 "YamRiders" "lineLength" "I") (by decide +kernel)) (fun _ h9 => h9) rfl dX8_putInLine_1 ?_
  refine lv_bipush (v := 60) hx hb dX8_putInLine_4 (by decide) ?_
  refine lv_icmp_lt (tgt := 10) hx hb dX8_putInLine_6 (by decide) (fun c_1 => ?_) (fun c_1 => ?_)
  · have hl60 : ll9 < 60 := nI_ltq (n := 60) c_1 (by omega) (by decide)
    refine lv_aload_n hx hb dX8_putInLine_10 rfl (lv_at hl 0 rfl) ?_
    refine va_get (D := (dC, dI)) (ci := 8) (v := .int (nI ll9)) (C := RX8) (T := TX8) (N := 15) hx hb hts hin8 hown hK hP 0 rfl rfl 13 (by decide) (hts (.fieldLink RX8 259 "YamRiders" "lineLength" "I") (by decide +kernel)) (fun _ h9 => h9) rfl dX8_putInLine_11 ?_
    refine lv_istore_n (lv' := [(2, .int (nI ll9)), (0, .ref h0), (1, .ref e1)]) hx hb dX8_putInLine_14 rfl hl (by decide) rfl (fun ls hl => ?_)
    have HL : ∀ (n k : Nat), k ≤ ll9 → ll9 + 1 ≤ k + n → ∀ (f_2 : Nat → va_E) (H : Heap) (locs : List Loc), tO L ka cs f_2 → va_P (dC, dI) vwCl ([(h0, .inr (8, [.ref a1, .ref a2, .ref a3, .ref a4, .ref a5, .ref a6, .ref a7, .ref a8, .ref a9, .int j_faultKind, .int j_horseCount, .int j_tabletCount, .int j_riderCount, .int (nI ll9), .int j_hour]))] ++ va_pl L f_2) H → va_D A ([(h0, .inr (8, [.ref a1, .ref a2, .ref a3, .ref a4, .ref a5, .ref a6, .ref a7, .ref a8, .ref a9, .int j_faultKind, .int j_horseCount, .int j_tabletCount, .int j_riderCount, .int (nI ll9), .int j_hour]))] ++ va_pl L f_2) → va_S A s.heap H locs → ∀ ls : Array Slot, lv_has ls 3 [(0, .ref h0), (1, .ref e1), (2, .int (nI (ll9 - k)))] → W p l e (headSpec wsX8_putInLine ({ frames := 3, cells := 0, slots := 0, locals := 62 })).room s m ([.ref h0, .ref e1]).toArray below meth c H locs 0 0 (MQ below (va_Qv (fun (_ : Unit) => True) (fun (_ : Unit) t9 => ∃ (f2 : Nat → va_E) (ll2 : Nat), (tO L ka cs f2) ∧ (ll2 ≤ 60) ∧ cQ dC dI ([(h0, .inr (8, [.ref a1, .ref a2, .ref a3, .ref a4, .ref a5, .ref a6, .ref a7, .ref a8, .ref a9, .int j_faultKind, .int j_horseCount, .int j_tabletCount, .int j_riderCount, .int (nI ll2), .int j_hour]))] ++ va_pl L f2) [] A t9) A) ([.ref h0, .ref e1]).toArray s 0 0 A) (F0 m 15 ls []) := by
      intro n
      induction n with
      | zero => intro k h1 h2; exact absurd h2 (by omega)
      | succ n ih =>
        intro k hk hn f_2 H locs hT hP hD hS ls hl
        refine lv_iload_n hx hb dX8_putInLine_15 rfl (lv_at hl 2 rfl) ?_
        refine lv_if_le (tgt := 54) hx hb dX8_putInLine_16 (by decide) (fun c_3 => ?_) (fun c_3 => ?_)
        · refine lv_aload_n hx hb dX8_putInLine_54 rfl (lv_at hl 0 rfl) ?_
          refine va_get (D := (dC, dI)) (ci := 8) (v := .ref a8) (C := RX8) (T := TX8) (N := 15) hx hb hts hin8 hown hK hP 0 rfl rfl 7 (by decide) (hts (.fieldLink RX8 52 "YamRiders" "line" "[LYamRiders$Rider;") (by decide +kernel)) (fun _ h9 => h9) rfl dX8_putInLine_55 ?_
          refine lv_iload_n hx hb dX8_putInLine_58 rfl (lv_at hl 2 rfl) ?_
          refine lv_aload_n hx hb dX8_putInLine_59 rfl (lv_at hl 1 rfl) ?_
          obtain ⟨g_5, hf_4, hr_6⟩ := hT.get hY.2.2.2.2.2.2.1
          obtain ⟨q_7, hq_7⟩ := pl_at (X := [(h0, .inr (8, [.ref a1, .ref a2, .ref a3, .ref a4, .ref a5, .ref a6, .ref a7, .ref a8, .ref a9, .int j_faultKind, .int j_horseCount, .int j_tabletCount, .int j_riderCount, .int (nI ll9), .int j_hour]))]) (f := f_2) (e := .inl (cs 5, 60, .inr (.inr (.inr (.inr g_5))))) hY.2.2.2.2.2.2.1.1 hf_4
          obtain ⟨x_9, x_10, o_11, o_12, x_13, x_14, x_15, o_16, x_17, x_18, hf_8, hk_o_11, hk_o_12, hq_o_16⟩ := hT.get hk_e1
          obtain ⟨q_19, hq_19⟩ := pl_at (X := [(h0, .inr (8, [.ref a1, .ref a2, .ref a3, .ref a4, .ref a5, .ref a6, .ref a7, .ref a8, .ref a9, .int j_faultKind, .int j_horseCount, .int j_tabletCount, .int j_riderCount, .int (nI ll9), .int j_hour]))]) (f := f_2) (e := .inr (2, [.int x_9, .int x_10, .ref o_11, .ref o_12, .int x_13, .int x_14, .int x_15, va_rf o_16, .int x_17, .int x_18])) hk_e1.1 hf_8
          refine va_astq hx hb hK hP hD hS q_7 5 q_19 2 hq_7 rfl hq_19 rfl (vp_in_nI (by omega) (by decide)) dX8_putInLine_60 (fun H locs hP9 hD9 hS => ?_)
          have hr_20 := tq_up (i := (nI (ll9 - k)).toNatClampNeg) hr_6 hk_e1
          have hs_21 := pl_st (.inl (cs 5, 60, .inr (.inr (.inr (.inr (va_up g_5 (nI (ll9 - k)).toNatClampNeg (some e1))))))) hD hY.2.2.2.2.2.2.1.1 hf_4 hq_7
          have hP9 : va_P (dC, dI) vwCl ((([(h0, .inr (8, [.ref a1, .ref a2, .ref a3, .ref a4, .ref a5, .ref a6, .ref a7, .ref a8, .ref a9, .int j_faultKind, .int j_horseCount, .int j_tabletCount, .int j_riderCount, .int (nI ll9), .int j_hour]))] : va_W) ++ va_pl L f_2).set q_7 (a8, .inl (cs 5, 60, .inr (.inr (.inr (.inr (va_up g_5 (nI (ll9 - k)).toNatClampNeg (some e1)))))))) H := hP9
          have hD9 : va_D A ((([(h0, .inr (8, [.ref a1, .ref a2, .ref a3, .ref a4, .ref a5, .ref a6, .ref a7, .ref a8, .ref a9, .int j_faultKind, .int j_horseCount, .int j_tabletCount, .int j_riderCount, .int (nI ll9), .int j_hour]))] : va_W) ++ va_pl L f_2).set q_7 (a8, .inl (cs 5, 60, .inr (.inr (.inr (.inr (va_up g_5 (nI (ll9 - k)).toNatClampNeg (some e1)))))))) := hD9
          rw [hs_21] at hP9 hD9
          have hT := hT.put (e := .inl (cs 5, 60, .inr (.inr (.inr (.inr (va_up g_5 (nI (ll9 - k)).toNatClampNeg (some e1))))))) hY.2.2.2.2.2.2.1 ⟨_, rfl, hr_20⟩
          have hf_22 : va_up f_2 a8 (.inl (cs 5, 60, .inr (.inr (.inr (.inr (va_up g_5 (nI (ll9 - k)).toNatClampNeg (some e1))))))) a8 = .inl (cs 5, 60, .inr (.inr (.inr (.inr (va_up g_5 (nI (ll9 - k)).toNatClampNeg (some e1)))))) := va_up_self _ _ _
          have hP := hP9
          have hD := hD9
          clear hP9 hD9 hs_21
          generalize va_up f_2 a8 (.inl (cs 5, 60, .inr (.inr (.inr (.inr (va_up g_5 (nI (ll9 - k)).toNatClampNeg (some e1))))))) = f_23 at hP hD hT hf_22
          generalize va_up g_5 (nI (ll9 - k)).toNatClampNeg (some e1) = g_24 at hf_22 hr_20
          refine lv_aload_n hx hb dX8_putInLine_61 rfl (lv_at hl 0 rfl) ?_
          refine lv_dup hx hb dX8_putInLine_62 rfl ?_
          refine va_get (D := (dC, dI)) (ci := 8) (v := .int (nI ll9)) (C := RX8) (T := TX8) (N := 15) hx hb hts hin8 hown hK hP 0 rfl rfl 13 (by decide) (hts (.fieldLink RX8 259 "YamRiders" "lineLength" "I") (by decide +kernel)) (fun _ h9 => h9) rfl dX8_putInLine_63 ?_
          refine lv_iconst (v := 1) hx hb dX8_putInLine_66 (by decide) ?_
          refine lv_iadd hx hb dX8_putInLine_67 ?_
          refine lv_topi (fun v_25 ev_25 => ?_)
          obtain rfl : v_25 = nI (ll9 + 1) := ev_25.trans (nI_1 ll9)
          refine va_put (D := (dC, dI)) (ci := 8) (v := .int (nI (ll9 + 1))) (ty := (tyX8 13)) (C := RX8) (T := TX8) (N := 15) hx hb hts hin8 tyX8 tyX8_ok nmX8 hown hK hP hD hS 0 rfl rfl 13 (by decide) (hts (.fieldLink RX8 259 "YamRiders" "lineLength" "I") (by decide +kernel)) (fun _ h9 => h9) rfl (by decide +kernel) rfl rfl (Nat.le_of_ble_eq_true rfl) dX8_putInLine_68 (fun H locs hP hD hS => ?_)
          have hP : va_P (dC, dI) vwCl ([(h0, .inr (8, [.ref a1, .ref a2, .ref a3, .ref a4, .ref a5, .ref a6, .ref a7, .ref a8, .ref a9, .int j_faultKind, .int j_horseCount, .int j_tabletCount, .int j_riderCount, .int (nI (ll9 + 1)), .int j_hour]))] ++ va_pl L f_23) H := hP
          have hD : va_D A ([(h0, .inr (8, [.ref a1, .ref a2, .ref a3, .ref a4, .ref a5, .ref a6, .ref a7, .ref a8, .ref a9, .int j_faultKind, .int j_horseCount, .int j_tabletCount, .int j_riderCount, .int (nI (ll9 + 1)), .int j_hour]))] ++ va_pl L f_23) := hD
          have hP9 := hP.part (cx := [(h0, .inr (8, [.ref a1, .ref a2, .ref a3, .ref a4, .ref a5, .ref a6, .ref a7, .ref a8, .ref a9, .int j_faultKind, .int j_horseCount, .int j_tabletCount, .int j_riderCount, .int (nI (ll9 + 1)), .int j_hour]))]) [0] rfl
          have hD9 := hD.part (cx := [(h0, .inr (8, [.ref a1, .ref a2, .ref a3, .ref a4, .ref a5, .ref a6, .ref a7, .ref a8, .ref a9, .int j_faultKind, .int j_horseCount, .int j_tabletCount, .int j_riderCount, .int (nI (ll9 + 1)), .int j_hour]))]) [0] (by decide) rfl
          have hK9 := hK.sub (tys' := []) [] rfl
          refine W.widen (k := 0) (n := 0) (Nat.le_of_ble_eq_true rfl) (Nat.le_of_ble_eq_true rfl) ?_
          exact W.vret hx hb hr (fun t9 ht hW => ⟨⟨(), rfl, trivial, f_23, (ll9 + 1), hT, (by omega), by rw [ht]; exact hP9, va_K.moved hW.alike hK9, hD9⟩, hS.F ht⟩) hS.2.2 dX8_putInLine_71
        · have hpos : 0 < ll9 - k := nI_p c_3 (by omega)
          refine lv_aload_n hx hb dX8_putInLine_19 rfl (lv_at hl 1 rfl) ?_
          refine lv_aload_n hx hb dX8_putInLine_20 rfl (lv_at hl 0 rfl) ?_
          refine va_get (D := (dC, dI)) (ci := 8) (v := .ref a8) (C := RX8) (T := TX8) (N := 15) hx hb hts hin8 hown hK hP 0 rfl rfl 7 (by decide) (hts (.fieldLink RX8 52 "YamRiders" "line" "[LYamRiders$Rider;") (by decide +kernel)) (fun _ h9 => h9) rfl dX8_putInLine_21 ?_
          refine lv_iload_n hx hb dX8_putInLine_24 rfl (lv_at hl 2 rfl) ?_
          refine lv_iconst (v := 1) hx hb dX8_putInLine_25 (by decide) ?_
          refine lv_isub hx hb dX8_putInLine_26 ?_
          refine lv_topi (fun y_26 ey_26 => ?_)
          obtain rfl : y_26 = nI (ll9 - (k + 1)) := ey_26.trans (nI_s1 (by omega))
          obtain ⟨g_28, hf_27, hr_29⟩ := hT.get hY.2.2.2.2.2.2.1
          obtain ⟨q_30, hq_30⟩ := pl_at (X := [(h0, .inr (8, [.ref a1, .ref a2, .ref a3, .ref a4, .ref a5, .ref a6, .ref a7, .ref a8, .ref a9, .int j_faultKind, .int j_horseCount, .int j_tabletCount, .int j_riderCount, .int (nI ll9), .int j_hour]))]) (f := f_2) (e := .inl (cs 5, 60, .inr (.inr (.inr (.inr g_28))))) hY.2.2.2.2.2.2.1.1 hf_27
          refine va_aldq hx hb hK hP q_30 5 hq_30 rfl (vp_in_nI (by omega) (by decide)) dX8_putInLine_27 ?_
          rcases hr_o_31 : g_28 (nI (ll9 - (k + 1))).toNatClampNeg with _ | o_31
          · refine W.eq (g2 := F0 m 28 ls [.null, .ref e1]) rfl ?_
            have hPc := hP.part (cx := []) [] rfl
            have hDc := hD.part (cx := []) [] (by decide) rfl
            have hKc := hK
            refine cs_i (va_runS (As := [.ref e1, .null]) (rest := []) ⟨hx, hb, hml, hown, hts⟩ (t_X8_goesBefore_n l dC dI cs L ka f_2 e1 H.size hT hk_e1) (va_cwS 2 hts gX8_putInLine_X8_goesBefore rfl rfl rfl (by decide +kernel) ⟨Nat.le_of_ble_eq_true rfl, Nat.le_of_ble_eq_true rfl⟩) ⟨c_blind, c_pre hPc hKc hDc hN⟩ rfl rfl hl.1 rfl (lv_room (Nat.le_of_ble_eq_true rfl)) dX8_putInLine_28 ⟨Nat.le_of_ble_eq_true rfl, Nat.le_of_ble_eq_true rfl⟩) (fun r_32 hr_32 => ?_)
            subst hr_32
            refine lv_if_eq (tgt := 54) hx hb dX8_putInLine_31 (by decide) (fun _ => ?_) (fun c_33 => by first | exact absurd c_33 (by decide) | exact absurd (by decide) c_33)
            refine lv_aload_n hx hb dX8_putInLine_54 rfl (lv_at hl 0 rfl) ?_
            refine va_get (D := (dC, dI)) (ci := 8) (v := .ref a8) (C := RX8) (T := TX8) (N := 15) hx hb hts hin8 hown hK hP 0 rfl rfl 7 (by decide) (hts (.fieldLink RX8 52 "YamRiders" "line" "[LYamRiders$Rider;") (by decide +kernel)) (fun _ h9 => h9) rfl dX8_putInLine_55 ?_
            refine lv_iload_n hx hb dX8_putInLine_58 rfl (lv_at hl 2 rfl) ?_
            refine lv_aload_n hx hb dX8_putInLine_59 rfl (lv_at hl 1 rfl) ?_
            obtain ⟨q_34, hq_34⟩ := pl_at (X := [(h0, .inr (8, [.ref a1, .ref a2, .ref a3, .ref a4, .ref a5, .ref a6, .ref a7, .ref a8, .ref a9, .int j_faultKind, .int j_horseCount, .int j_tabletCount, .int j_riderCount, .int (nI ll9), .int j_hour]))]) (f := f_2) (e := .inl (cs 5, 60, .inr (.inr (.inr (.inr g_28))))) hY.2.2.2.2.2.2.1.1 hf_27
            obtain ⟨x_36, x_37, o_38, o_39, x_40, x_41, x_42, o_43, x_44, x_45, hf_35, hk_o_38, hk_o_39, hq_o_43⟩ := hT.get hk_e1
            obtain ⟨q_46, hq_46⟩ := pl_at (X := [(h0, .inr (8, [.ref a1, .ref a2, .ref a3, .ref a4, .ref a5, .ref a6, .ref a7, .ref a8, .ref a9, .int j_faultKind, .int j_horseCount, .int j_tabletCount, .int j_riderCount, .int (nI ll9), .int j_hour]))]) (f := f_2) (e := .inr (2, [.int x_36, .int x_37, .ref o_38, .ref o_39, .int x_40, .int x_41, .int x_42, va_rf o_43, .int x_44, .int x_45])) hk_e1.1 hf_35
            refine va_astq hx hb hK hP hD hS q_34 5 q_46 2 hq_34 rfl hq_46 rfl (vp_in_nI (by omega) (by decide)) dX8_putInLine_60 (fun H locs hP9 hD9 hS => ?_)
            have hr_47 := tq_up (i := (nI (ll9 - k)).toNatClampNeg) hr_29 hk_e1
            have hs_48 := pl_st (.inl (cs 5, 60, .inr (.inr (.inr (.inr (va_up g_28 (nI (ll9 - k)).toNatClampNeg (some e1))))))) hD hY.2.2.2.2.2.2.1.1 hf_27 hq_34
            have hP9 : va_P (dC, dI) vwCl ((([(h0, .inr (8, [.ref a1, .ref a2, .ref a3, .ref a4, .ref a5, .ref a6, .ref a7, .ref a8, .ref a9, .int j_faultKind, .int j_horseCount, .int j_tabletCount, .int j_riderCount, .int (nI ll9), .int j_hour]))] : va_W) ++ va_pl L f_2).set q_34 (a8, .inl (cs 5, 60, .inr (.inr (.inr (.inr (va_up g_28 (nI (ll9 - k)).toNatClampNeg (some e1)))))))) H := hP9
            have hD9 : va_D A ((([(h0, .inr (8, [.ref a1, .ref a2, .ref a3, .ref a4, .ref a5, .ref a6, .ref a7, .ref a8, .ref a9, .int j_faultKind, .int j_horseCount, .int j_tabletCount, .int j_riderCount, .int (nI ll9), .int j_hour]))] : va_W) ++ va_pl L f_2).set q_34 (a8, .inl (cs 5, 60, .inr (.inr (.inr (.inr (va_up g_28 (nI (ll9 - k)).toNatClampNeg (some e1)))))))) := hD9
            rw [hs_48] at hP9 hD9
            have hT := hT.put (e := .inl (cs 5, 60, .inr (.inr (.inr (.inr (va_up g_28 (nI (ll9 - k)).toNatClampNeg (some e1))))))) hY.2.2.2.2.2.2.1 ⟨_, rfl, hr_47⟩
            have hf_49 : va_up f_2 a8 (.inl (cs 5, 60, .inr (.inr (.inr (.inr (va_up g_28 (nI (ll9 - k)).toNatClampNeg (some e1))))))) a8 = .inl (cs 5, 60, .inr (.inr (.inr (.inr (va_up g_28 (nI (ll9 - k)).toNatClampNeg (some e1)))))) := va_up_self _ _ _
            have hP := hP9
            have hD := hD9
            clear hP9 hD9 hs_48
            generalize va_up f_2 a8 (.inl (cs 5, 60, .inr (.inr (.inr (.inr (va_up g_28 (nI (ll9 - k)).toNatClampNeg (some e1))))))) = f_50 at hP hD hT hf_49
            generalize va_up g_28 (nI (ll9 - k)).toNatClampNeg (some e1) = g_51 at hf_49 hr_47
            refine lv_aload_n hx hb dX8_putInLine_61 rfl (lv_at hl 0 rfl) ?_
            refine lv_dup hx hb dX8_putInLine_62 rfl ?_
            refine va_get (D := (dC, dI)) (ci := 8) (v := .int (nI ll9)) (C := RX8) (T := TX8) (N := 15) hx hb hts hin8 hown hK hP 0 rfl rfl 13 (by decide) (hts (.fieldLink RX8 259 "YamRiders" "lineLength" "I") (by decide +kernel)) (fun _ h9 => h9) rfl dX8_putInLine_63 ?_
            refine lv_iconst (v := 1) hx hb dX8_putInLine_66 (by decide) ?_
            refine lv_iadd hx hb dX8_putInLine_67 ?_
            refine lv_topi (fun v_52 ev_52 => ?_)
            obtain rfl : v_52 = nI (ll9 + 1) := ev_52.trans (nI_1 ll9)
            refine va_put (D := (dC, dI)) (ci := 8) (v := .int (nI (ll9 + 1))) (ty := (tyX8 13)) (C := RX8) (T := TX8) (N := 15) hx hb hts hin8 tyX8 tyX8_ok nmX8 hown hK hP hD hS 0 rfl rfl 13 (by decide) (hts (.fieldLink RX8 259 "YamRiders" "lineLength" "I") (by decide +kernel)) (fun _ h9 => h9) rfl (by decide +kernel) rfl rfl (Nat.le_of_ble_eq_true rfl) dX8_putInLine_68 (fun H locs hP hD hS => ?_)
            have hP : va_P (dC, dI) vwCl ([(h0, .inr (8, [.ref a1, .ref a2, .ref a3, .ref a4, .ref a5, .ref a6, .ref a7, .ref a8, .ref a9, .int j_faultKind, .int j_horseCount, .int j_tabletCount, .int j_riderCount, .int (nI (ll9 + 1)), .int j_hour]))] ++ va_pl L f_50) H := hP
            have hD : va_D A ([(h0, .inr (8, [.ref a1, .ref a2, .ref a3, .ref a4, .ref a5, .ref a6, .ref a7, .ref a8, .ref a9, .int j_faultKind, .int j_horseCount, .int j_tabletCount, .int j_riderCount, .int (nI (ll9 + 1)), .int j_hour]))] ++ va_pl L f_50) := hD
            have hP9 := hP.part (cx := [(h0, .inr (8, [.ref a1, .ref a2, .ref a3, .ref a4, .ref a5, .ref a6, .ref a7, .ref a8, .ref a9, .int j_faultKind, .int j_horseCount, .int j_tabletCount, .int j_riderCount, .int (nI (ll9 + 1)), .int j_hour]))]) [0] rfl
            have hD9 := hD.part (cx := [(h0, .inr (8, [.ref a1, .ref a2, .ref a3, .ref a4, .ref a5, .ref a6, .ref a7, .ref a8, .ref a9, .int j_faultKind, .int j_horseCount, .int j_tabletCount, .int j_riderCount, .int (nI (ll9 + 1)), .int j_hour]))]) [0] (by decide) rfl
            have hK9 := hK.sub (tys' := []) [] rfl
            refine W.widen (k := 0) (n := 0) (Nat.le_of_ble_eq_true rfl) (Nat.le_of_ble_eq_true rfl) ?_
            exact W.vret hx hb hr (fun t9 ht hW => ⟨⟨(), rfl, trivial, f_50, (ll9 + 1), hT, (by omega), by rw [ht]; exact hP9, va_K.moved hW.alike hK9, hD9⟩, hS.F ht⟩) hS.2.2 dX8_putInLine_71
          · have hk_o_31 := hr_29 _ _ hr_o_31
            refine W.eq (g2 := F0 m 28 ls [.ref o_31, .ref e1]) rfl ?_
            have hPc := hP.part (cx := []) [] rfl
            have hDc := hD.part (cx := []) [] (by decide) rfl
            have hKc := hK
            refine cs_i (va_runS (As := [.ref e1, .ref o_31]) (rest := []) ⟨hx, hb, hml, hown, hts⟩ (t_X8_goesBefore l dC dI cs L ka f_2 e1 o_31 H.size hT hk_e1 hk_o_31) (va_cwS 2 hts gX8_putInLine_X8_goesBefore rfl rfl rfl (by decide +kernel) ⟨Nat.le_of_ble_eq_true rfl, Nat.le_of_ble_eq_true rfl⟩) ⟨c_blind, c_pre hPc hKc hDc hN⟩ rfl rfl hl.1 rfl (lv_room (Nat.le_of_ble_eq_true rfl)) dX8_putInLine_28 ⟨Nat.le_of_ble_eq_true rfl, Nat.le_of_ble_eq_true rfl⟩) (fun r_53 hr_53 => ?_)
            refine lv_if_eq (tgt := 54) hx hb dX8_putInLine_31 (by decide) (fun c_54 => ?_) (fun c_54 => ?_)
            · refine lv_aload_n hx hb dX8_putInLine_54 rfl (lv_at hl 0 rfl) ?_
              refine va_get (D := (dC, dI)) (ci := 8) (v := .ref a8) (C := RX8) (T := TX8) (N := 15) hx hb hts hin8 hown hK hP 0 rfl rfl 7 (by decide) (hts (.fieldLink RX8 52 "YamRiders" "line" "[LYamRiders$Rider;") (by decide +kernel)) (fun _ h9 => h9) rfl dX8_putInLine_55 ?_
              refine lv_iload_n hx hb dX8_putInLine_58 rfl (lv_at hl 2 rfl) ?_
              refine lv_aload_n hx hb dX8_putInLine_59 rfl (lv_at hl 1 rfl) ?_
              obtain ⟨q_55, hq_55⟩ := pl_at (X := [(h0, .inr (8, [.ref a1, .ref a2, .ref a3, .ref a4, .ref a5, .ref a6, .ref a7, .ref a8, .ref a9, .int j_faultKind, .int j_horseCount, .int j_tabletCount, .int j_riderCount, .int (nI ll9), .int j_hour]))]) (f := f_2) (e := .inl (cs 5, 60, .inr (.inr (.inr (.inr g_28))))) hY.2.2.2.2.2.2.1.1 hf_27
              obtain ⟨x_57, x_58, o_59, o_60, x_61, x_62, x_63, o_64, x_65, x_66, hf_56, hk_o_59, hk_o_60, hq_o_64⟩ := hT.get hk_e1
              obtain ⟨q_67, hq_67⟩ := pl_at (X := [(h0, .inr (8, [.ref a1, .ref a2, .ref a3, .ref a4, .ref a5, .ref a6, .ref a7, .ref a8, .ref a9, .int j_faultKind, .int j_horseCount, .int j_tabletCount, .int j_riderCount, .int (nI ll9), .int j_hour]))]) (f := f_2) (e := .inr (2, [.int x_57, .int x_58, .ref o_59, .ref o_60, .int x_61, .int x_62, .int x_63, va_rf o_64, .int x_65, .int x_66])) hk_e1.1 hf_56
              refine va_astq hx hb hK hP hD hS q_55 5 q_67 2 hq_55 rfl hq_67 rfl (vp_in_nI (by omega) (by decide)) dX8_putInLine_60 (fun H locs hP9 hD9 hS => ?_)
              have hr_68 := tq_up (i := (nI (ll9 - k)).toNatClampNeg) hr_29 hk_e1
              have hs_69 := pl_st (.inl (cs 5, 60, .inr (.inr (.inr (.inr (va_up g_28 (nI (ll9 - k)).toNatClampNeg (some e1))))))) hD hY.2.2.2.2.2.2.1.1 hf_27 hq_55
              have hP9 : va_P (dC, dI) vwCl ((([(h0, .inr (8, [.ref a1, .ref a2, .ref a3, .ref a4, .ref a5, .ref a6, .ref a7, .ref a8, .ref a9, .int j_faultKind, .int j_horseCount, .int j_tabletCount, .int j_riderCount, .int (nI ll9), .int j_hour]))] : va_W) ++ va_pl L f_2).set q_55 (a8, .inl (cs 5, 60, .inr (.inr (.inr (.inr (va_up g_28 (nI (ll9 - k)).toNatClampNeg (some e1)))))))) H := hP9
              have hD9 : va_D A ((([(h0, .inr (8, [.ref a1, .ref a2, .ref a3, .ref a4, .ref a5, .ref a6, .ref a7, .ref a8, .ref a9, .int j_faultKind, .int j_horseCount, .int j_tabletCount, .int j_riderCount, .int (nI ll9), .int j_hour]))] : va_W) ++ va_pl L f_2).set q_55 (a8, .inl (cs 5, 60, .inr (.inr (.inr (.inr (va_up g_28 (nI (ll9 - k)).toNatClampNeg (some e1)))))))) := hD9
              rw [hs_69] at hP9 hD9
              have hT := hT.put (e := .inl (cs 5, 60, .inr (.inr (.inr (.inr (va_up g_28 (nI (ll9 - k)).toNatClampNeg (some e1))))))) hY.2.2.2.2.2.2.1 ⟨_, rfl, hr_68⟩
              have hf_70 : va_up f_2 a8 (.inl (cs 5, 60, .inr (.inr (.inr (.inr (va_up g_28 (nI (ll9 - k)).toNatClampNeg (some e1))))))) a8 = .inl (cs 5, 60, .inr (.inr (.inr (.inr (va_up g_28 (nI (ll9 - k)).toNatClampNeg (some e1)))))) := va_up_self _ _ _
              have hP := hP9
              have hD := hD9
              clear hP9 hD9 hs_69
              generalize va_up f_2 a8 (.inl (cs 5, 60, .inr (.inr (.inr (.inr (va_up g_28 (nI (ll9 - k)).toNatClampNeg (some e1))))))) = f_71 at hP hD hT hf_70
              generalize va_up g_28 (nI (ll9 - k)).toNatClampNeg (some e1) = g_72 at hf_70 hr_68
              refine lv_aload_n hx hb dX8_putInLine_61 rfl (lv_at hl 0 rfl) ?_
              refine lv_dup hx hb dX8_putInLine_62 rfl ?_
              refine va_get (D := (dC, dI)) (ci := 8) (v := .int (nI ll9)) (C := RX8) (T := TX8) (N := 15) hx hb hts hin8 hown hK hP 0 rfl rfl 13 (by decide) (hts (.fieldLink RX8 259 "YamRiders" "lineLength" "I") (by decide +kernel)) (fun _ h9 => h9) rfl dX8_putInLine_63 ?_
              refine lv_iconst (v := 1) hx hb dX8_putInLine_66 (by decide) ?_
              refine lv_iadd hx hb dX8_putInLine_67 ?_
              refine lv_topi (fun v_73 ev_73 => ?_)
              obtain rfl : v_73 = nI (ll9 + 1) := ev_73.trans (nI_1 ll9)
              refine va_put (D := (dC, dI)) (ci := 8) (v := .int (nI (ll9 + 1))) (ty := (tyX8 13)) (C := RX8) (T := TX8) (N := 15) hx hb hts hin8 tyX8 tyX8_ok nmX8 hown hK hP hD hS 0 rfl rfl 13 (by decide) (hts (.fieldLink RX8 259 "YamRiders" "lineLength" "I") (by decide +kernel)) (fun _ h9 => h9) rfl (by decide +kernel) rfl rfl (Nat.le_of_ble_eq_true rfl) dX8_putInLine_68 (fun H locs hP hD hS => ?_)
              have hP : va_P (dC, dI) vwCl ([(h0, .inr (8, [.ref a1, .ref a2, .ref a3, .ref a4, .ref a5, .ref a6, .ref a7, .ref a8, .ref a9, .int j_faultKind, .int j_horseCount, .int j_tabletCount, .int j_riderCount, .int (nI (ll9 + 1)), .int j_hour]))] ++ va_pl L f_71) H := hP
              have hD : va_D A ([(h0, .inr (8, [.ref a1, .ref a2, .ref a3, .ref a4, .ref a5, .ref a6, .ref a7, .ref a8, .ref a9, .int j_faultKind, .int j_horseCount, .int j_tabletCount, .int j_riderCount, .int (nI (ll9 + 1)), .int j_hour]))] ++ va_pl L f_71) := hD
              have hP9 := hP.part (cx := [(h0, .inr (8, [.ref a1, .ref a2, .ref a3, .ref a4, .ref a5, .ref a6, .ref a7, .ref a8, .ref a9, .int j_faultKind, .int j_horseCount, .int j_tabletCount, .int j_riderCount, .int (nI (ll9 + 1)), .int j_hour]))]) [0] rfl
              have hD9 := hD.part (cx := [(h0, .inr (8, [.ref a1, .ref a2, .ref a3, .ref a4, .ref a5, .ref a6, .ref a7, .ref a8, .ref a9, .int j_faultKind, .int j_horseCount, .int j_tabletCount, .int j_riderCount, .int (nI (ll9 + 1)), .int j_hour]))]) [0] (by decide) rfl
              have hK9 := hK.sub (tys' := []) [] rfl
              refine W.widen (k := 0) (n := 0) (Nat.le_of_ble_eq_true rfl) (Nat.le_of_ble_eq_true rfl) ?_
              exact W.vret hx hb hr (fun t9 ht hW => ⟨⟨(), rfl, trivial, f_71, (ll9 + 1), hT, (by omega), by rw [ht]; exact hP9, va_K.moved hW.alike hK9, hD9⟩, hS.F ht⟩) hS.2.2 dX8_putInLine_71
            · refine lv_aload_n hx hb dX8_putInLine_34 rfl (lv_at hl 0 rfl) ?_
              refine va_get (D := (dC, dI)) (ci := 8) (v := .ref a8) (C := RX8) (T := TX8) (N := 15) hx hb hts hin8 hown hK hP 0 rfl rfl 7 (by decide) (hts (.fieldLink RX8 52 "YamRiders" "line" "[LYamRiders$Rider;") (by decide +kernel)) (fun _ h9 => h9) rfl dX8_putInLine_35 ?_
              refine lv_iload_n hx hb dX8_putInLine_38 rfl (lv_at hl 2 rfl) ?_
              refine lv_aload_n hx hb dX8_putInLine_39 rfl (lv_at hl 0 rfl) ?_
              refine va_get (D := (dC, dI)) (ci := 8) (v := .ref a8) (C := RX8) (T := TX8) (N := 15) hx hb hts hin8 hown hK hP 0 rfl rfl 7 (by decide) (hts (.fieldLink RX8 52 "YamRiders" "line" "[LYamRiders$Rider;") (by decide +kernel)) (fun _ h9 => h9) rfl dX8_putInLine_40 ?_
              refine lv_iload_n hx hb dX8_putInLine_43 rfl (lv_at hl 2 rfl) ?_
              refine lv_iconst (v := 1) hx hb dX8_putInLine_44 (by decide) ?_
              refine lv_isub hx hb dX8_putInLine_45 ?_
              refine lv_topi (fun y_74 ey_74 => ?_)
              obtain rfl : y_74 = nI (ll9 - (k + 1)) := ey_74.trans (nI_s1 (by omega))
              obtain ⟨q_75, hq_75⟩ := pl_at (X := [(h0, .inr (8, [.ref a1, .ref a2, .ref a3, .ref a4, .ref a5, .ref a6, .ref a7, .ref a8, .ref a9, .int j_faultKind, .int j_horseCount, .int j_tabletCount, .int j_riderCount, .int (nI ll9), .int j_hour]))]) (f := f_2) (e := .inl (cs 5, 60, .inr (.inr (.inr (.inr g_28))))) hY.2.2.2.2.2.2.1.1 hf_27
              refine va_aldq hx hb hK hP q_75 5 hq_75 rfl (vp_in_nI (by omega) (by decide)) dX8_putInLine_46 ?_
              rw [hr_o_31]
              refine W.eq (g2 := F0 m 47 ls [.ref o_31, .int (nI (ll9 - k)), .ref a8]) rfl ?_
              obtain ⟨q_76, hq_76⟩ := pl_at (X := [(h0, .inr (8, [.ref a1, .ref a2, .ref a3, .ref a4, .ref a5, .ref a6, .ref a7, .ref a8, .ref a9, .int j_faultKind, .int j_horseCount, .int j_tabletCount, .int j_riderCount, .int (nI ll9), .int j_hour]))]) (f := f_2) (e := .inl (cs 5, 60, .inr (.inr (.inr (.inr g_28))))) hY.2.2.2.2.2.2.1.1 hf_27
              obtain ⟨x_78, x_79, o_80, o_81, x_82, x_83, x_84, o_85, x_86, x_87, hf_77, hk_o_80, hk_o_81, hq_o_85⟩ := hT.get hk_o_31
              obtain ⟨q_88, hq_88⟩ := pl_at (X := [(h0, .inr (8, [.ref a1, .ref a2, .ref a3, .ref a4, .ref a5, .ref a6, .ref a7, .ref a8, .ref a9, .int j_faultKind, .int j_horseCount, .int j_tabletCount, .int j_riderCount, .int (nI ll9), .int j_hour]))]) (f := f_2) (e := .inr (2, [.int x_78, .int x_79, .ref o_80, .ref o_81, .int x_82, .int x_83, .int x_84, va_rf o_85, .int x_86, .int x_87])) hk_o_31.1 hf_77
              refine va_astq hx hb hK hP hD hS q_76 5 q_88 2 hq_76 rfl hq_88 rfl (vp_in_nI (by omega) (by decide)) dX8_putInLine_47 (fun H locs hP9 hD9 hS => ?_)
              have hr_89 := tq_up (i := (nI (ll9 - k)).toNatClampNeg) hr_29 hk_o_31
              have hs_90 := pl_st (.inl (cs 5, 60, .inr (.inr (.inr (.inr (va_up g_28 (nI (ll9 - k)).toNatClampNeg (some o_31))))))) hD hY.2.2.2.2.2.2.1.1 hf_27 hq_76
              have hP9 : va_P (dC, dI) vwCl ((([(h0, .inr (8, [.ref a1, .ref a2, .ref a3, .ref a4, .ref a5, .ref a6, .ref a7, .ref a8, .ref a9, .int j_faultKind, .int j_horseCount, .int j_tabletCount, .int j_riderCount, .int (nI ll9), .int j_hour]))] : va_W) ++ va_pl L f_2).set q_76 (a8, .inl (cs 5, 60, .inr (.inr (.inr (.inr (va_up g_28 (nI (ll9 - k)).toNatClampNeg (some o_31)))))))) H := hP9
              have hD9 : va_D A ((([(h0, .inr (8, [.ref a1, .ref a2, .ref a3, .ref a4, .ref a5, .ref a6, .ref a7, .ref a8, .ref a9, .int j_faultKind, .int j_horseCount, .int j_tabletCount, .int j_riderCount, .int (nI ll9), .int j_hour]))] : va_W) ++ va_pl L f_2).set q_76 (a8, .inl (cs 5, 60, .inr (.inr (.inr (.inr (va_up g_28 (nI (ll9 - k)).toNatClampNeg (some o_31)))))))) := hD9
              rw [hs_90] at hP9 hD9
              have hT := hT.put (e := .inl (cs 5, 60, .inr (.inr (.inr (.inr (va_up g_28 (nI (ll9 - k)).toNatClampNeg (some o_31))))))) hY.2.2.2.2.2.2.1 ⟨_, rfl, hr_89⟩
              have hf_91 : va_up f_2 a8 (.inl (cs 5, 60, .inr (.inr (.inr (.inr (va_up g_28 (nI (ll9 - k)).toNatClampNeg (some o_31))))))) a8 = .inl (cs 5, 60, .inr (.inr (.inr (.inr (va_up g_28 (nI (ll9 - k)).toNatClampNeg (some o_31)))))) := va_up_self _ _ _
              have hP := hP9
              have hD := hD9
              clear hP9 hD9 hs_90
              generalize va_up f_2 a8 (.inl (cs 5, 60, .inr (.inr (.inr (.inr (va_up g_28 (nI (ll9 - k)).toNatClampNeg (some o_31))))))) = f_92 at hP hD hT hf_91
              generalize va_up g_28 (nI (ll9 - k)).toNatClampNeg (some o_31) = g_93 at hf_91 hr_89
              refine lv_iinc (v := nI (ll9 - (k + 1))) (lv' := [(2, .int (nI (ll9 - (k + 1)))), (0, .ref h0), (1, .ref e1)]) hx hb dX8_putInLine_48 hl (k := 2) rfl (by exact (nI_m1 (by omega))) (by decide) rfl (fun ls hl => ?_)
              refine lv_goto (tgt := 15) hx hb dX8_putInLine_51 (by decide) ?_
              exact ih (k + 1) (by omega) (by omega) _ _ _ hT (hP.part (cx := _) [0] rfl) (hD.part (cx := _) [0] (by decide) rfl) hS ls (lv_sub hl [1, 2, 0] rfl)
    exact HL (ll9 + 1) 0 (by omega) (by omega) _ _ _ hT (hP.part (cx := [(h0, .inr (8, [.ref a1, .ref a2, .ref a3, .ref a4, .ref a5, .ref a6, .ref a7, .ref a8, .ref a9, .int j_faultKind, .int j_horseCount, .int j_tabletCount, .int j_riderCount, .int (nI ll9), .int j_hour]))]) [0] rfl) (hD.part (cx := [(h0, .inr (8, [.ref a1, .ref a2, .ref a3, .ref a4, .ref a5, .ref a6, .ref a7, .ref a8, .ref a9, .int j_faultKind, .int j_horseCount, .int j_tabletCount, .int j_riderCount, .int (nI ll9), .int j_hour]))]) [0] (by decide) rfl) hS ls (lv_sub hl [1, 2, 0] rfl)
  · have hP9 := hP.part (cx := [(h0, .inr (8, [.ref a1, .ref a2, .ref a3, .ref a4, .ref a5, .ref a6, .ref a7, .ref a8, .ref a9, .int j_faultKind, .int j_horseCount, .int j_tabletCount, .int j_riderCount, .int (nI ll9), .int j_hour]))]) [0] rfl
    have hD9 := hD.part (cx := [(h0, .inr (8, [.ref a1, .ref a2, .ref a3, .ref a4, .ref a5, .ref a6, .ref a7, .ref a8, .ref a9, .int j_faultKind, .int j_horseCount, .int j_tabletCount, .int j_riderCount, .int (nI ll9), .int j_hour]))]) [0] (by decide) rfl
    have hK9 := hK.sub (tys' := []) [] rfl
    refine W.widen (k := 0) (n := 0) (Nat.le_of_ble_eq_true rfl) (Nat.le_of_ble_eq_true rfl) ?_
    exact W.vret hx hb hr (fun t9 ht hW => ⟨⟨(), rfl, trivial, f, ll9, hT, (by omega), by rw [ht]; exact hP9, va_K.moved hW.alike hK9, hD9⟩, hS.F ht⟩) hS.2.2 dX8_putInLine_9

set_option maxHeartbeats 4000000 in
set_option maxRecDepth 100000 in
theorem t_X8_lineUpWaiting (l : Launch) (dC : Nat → ClassId) (dI : Nat → Nat → Nat) (cs : Nat → ClassId) (L : List Nat) (ka : Nat → Nat) (f : Nat → va_E) (h0 : Nat) (a1 : Nat) (a2 : Nat) (a3 : Nat) (a4 : Nat) (a5 : Nat) (a6 : Nat) (a7 : Nat) (a8 : Nat) (a9 : Nat) (j_faultKind : Int32) (j_horseCount : Int32) (j_tabletCount : Int32) (j_riderCount : Int32) (j_lineLength : Int32) (j_hour : Int32) (sz : Nat) (hT : tO L ka cs f) (hY : yK L ka a2 a3 a4 a5 a6 a7 a8 a9) : Met l yX8_lineUpWaiting wsX8_lineUpWaiting ({ frames := 4, cells := 0, slots := 0, locals := 84 }) (va_Pc [.ref h0] (cP dC dI ([(h0, .inr (8, [.ref a1, .ref a2, .ref a3, .ref a4, .ref a5, .ref a6, .ref a7, .ref a8, .ref a9, .int j_faultKind, .int j_horseCount, .int j_tabletCount, .int j_riderCount, .int j_lineLength, .int j_hour]))] ++ va_pl L f) (tyC cs) sz)) (va_Qv (fun (_ : Unit) => True) (fun (_ : Unit) t9 => ∃ (f2 : Nat → va_E) (ll2 : Nat), (tO L ka cs f2) ∧ (ll2 ≤ 60) ∧ cQ dC dI ([(h0, .inr (8, [.ref a1, .ref a2, .ref a3, .ref a4, .ref a5, .ref a6, .ref a7, .ref a8, .ref a9, .int j_faultKind, .int j_horseCount, .int j_tabletCount, .int j_riderCount, .int (nI ll2), .int j_hour]))] ++ va_pl L f2) [] (va_A ([(h0, .inr (8, [.ref a1, .ref a2, .ref a3, .ref a4, .ref a5, .ref a6, .ref a7, .ref a8, .ref a9, .int j_faultKind, .int j_horseCount, .int j_tabletCount, .int j_riderCount, .int j_lineLength, .int j_hour]))] ++ va_pl L f) sz) t9) (va_A ([(h0, .inr (8, [.ref a1, .ref a2, .ref a3, .ref a4, .ref a5, .ref a6, .ref a7, .ref a8, .ref a9, .int j_faultKind, .int j_horseCount, .int j_tabletCount, .int j_riderCount, .int j_lineLength, .int j_hour]))] ++ va_pl L f) sz)) 0 0 (va_A ([(h0, .inr (8, [.ref a1, .ref a2, .ref a3, .ref a4, .ref a5, .ref a6, .ref a7, .ref a8, .ref a9, .int j_faultKind, .int j_horseCount, .int j_tabletCount, .int j_riderCount, .int j_lineLength, .int j_hour]))] ++ va_pl L f) sz) := by
  refine Met.ofW (cc := cX8_lineUpWaiting) (maxL := 5) (ret := none) (by decide) rfl ?_
  intro p e s m args below meth c s₁ B hml hv
  obtain ⟨rfl, hsz, hP, hK, hD0, hN⟩ := hv
  have hx := B.exec
  have hb := B.bytes
  have hr := B.returns
  have hts := atoms_spec (ws := wsX8_lineUpWaiting) B.pre
  have hown : s.vm.findClass RX8 = some m.cls := findClass_of_methodNamed B.named
  have hlocks := B.notSynchronized
  subst hsz
  have hin2 : ∀ w ∈ u_ws RX2 TX2 10, w ∈ wsX8_lineUpWaiting := by decide +kernel
  have hin8 : ∀ w ∈ u_ws RX8 TX8 15, w ∈ wsX8_lineUpWaiting := by decide +kernel
  have hD := hD0.self (sz := s.heap.size)
  generalize hAe : va_A ([(h0, .inr (8, [.ref a1, .ref a2, .ref a3, .ref a4, .ref a5, .ref a6, .ref a7, .ref a8, .ref a9, .int j_faultKind, .int j_horseCount, .int j_tabletCount, .int j_riderCount, .int j_lineLength, .int j_hour]))] ++ va_pl L f) s.heap.size = A at hD ⊢
  have hA : ∀ q : Nat, s.heap.size ≤ q → A q := fun q h => by rw [← hAe]; exact Or.inr h
  have hS : va_S A s.heap s.heap [] := va_S.rf
  have hP : va_P (dC, dI) vwCl ([(h0, .inr (8, [.ref a1, .ref a2, .ref a3, .ref a4, .ref a5, .ref a6, .ref a7, .ref a8, .ref a9, .int j_faultKind, .int j_horseCount, .int j_tabletCount, .int j_riderCount, .int j_lineLength, .int j_hour]))] ++ va_pl L f) s.heap := hP
  have hl := lv_entry ([.ref h0]) (n := 5) (Nat.le_of_ble_eq_true rfl)
  rw [lg_entry_eq]
  generalize (lg_sl ([.ref h0]) ++ List.replicate (5 - (lg_sl ([.ref h0])).length) Slot.unset).toArray = ls at hl ⊢
  have hl : lv_has ls 5 [(0, .ref h0)] := hl
  refine lv_aload_n hx hb dX8_lineUpWaiting_0 rfl (lv_at hl 0 rfl) ?_
  refine lv_iconst (v := 0) hx hb dX8_lineUpWaiting_1 (by decide) ?_
  refine va_put (D := (dC, dI)) (ci := 8) (v := .int 0) (ty := (tyX8 13)) (C := RX8) (T := TX8) (N := 15) hx hb hts hin8 tyX8 tyX8_ok nmX8 hown hK hP hD hS 0 rfl rfl 13 (by decide) (hts (.fieldLink RX8 259 "YamRiders" "lineLength" "I") (by decide +kernel)) (fun _ h9 => h9) rfl (by decide +kernel) rfl rfl (Nat.le_of_ble_eq_true rfl) dX8_lineUpWaiting_2 (fun H locs hP hD hS => ?_)
  have hP : va_P (dC, dI) vwCl ([(h0, .inr (8, [.ref a1, .ref a2, .ref a3, .ref a4, .ref a5, .ref a6, .ref a7, .ref a8, .ref a9, .int j_faultKind, .int j_horseCount, .int j_tabletCount, .int j_riderCount, .int 0, .int j_hour]))] ++ va_pl L f) H := hP
  have hD : va_D A ([(h0, .inr (8, [.ref a1, .ref a2, .ref a3, .ref a4, .ref a5, .ref a6, .ref a7, .ref a8, .ref a9, .int j_faultKind, .int j_horseCount, .int j_tabletCount, .int j_riderCount, .int 0, .int j_hour]))] ++ va_pl L f) := hD
  refine lv_aload_n hx hb dX8_lineUpWaiting_5 rfl (lv_at hl 0 rfl) ?_
  refine va_get (D := (dC, dI)) (ci := 8) (v := .ref a7) (C := RX8) (T := TX8) (N := 15) hx hb hts hin8 hown hK hP 0 rfl rfl 6 (by decide) (hts (.fieldLink RX8 48 "YamRiders" "riders" "[LYamRiders$Rider;") (by decide +kernel)) (fun _ h9 => h9) rfl dX8_lineUpWaiting_6 ?_
  refine lv_astore_n (lv' := [(1, .ref a7), (0, .ref h0)]) hx hb dX8_lineUpWaiting_9 rfl hl (by decide) rfl (fun ls hl => ?_)
  refine lv_aload_n hx hb dX8_lineUpWaiting_10 rfl (lv_at hl 0 rfl) ?_
  obtain ⟨g_2, hf_1, hr_3⟩ := hT.get hY.2.2.2.2.2.1
  obtain ⟨q_4, hq_4⟩ := pl_at (X := [(h0, .inr (8, [.ref a1, .ref a2, .ref a3, .ref a4, .ref a5, .ref a6, .ref a7, .ref a8, .ref a9, .int j_faultKind, .int j_horseCount, .int j_tabletCount, .int j_riderCount, .int 0, .int j_hour]))]) (f := f) (e := .inl (cs 5, 60, .inr (.inr (.inr (.inr g_2))))) hY.2.2.2.2.2.1.1 hf_1
  refine va_alen (v := 60) hx hb hK hP q_4 5 hq_4 rfl rfl dX8_lineUpWaiting_11 ?_
  refine lv_istore_n (lv' := [(2, .int 60), (1, .ref a7), (0, .ref h0)]) hx hb dX8_lineUpWaiting_12 rfl hl (by decide) rfl (fun ls hl => ?_)
  refine lv_iconst (v := 0) hx hb dX8_lineUpWaiting_13 (by decide) ?_
  refine lv_istore_n (lv' := [(3, .int 0), (2, .int 60), (1, .ref a7), (0, .ref h0)]) hx hb dX8_lineUpWaiting_14 rfl hl (by decide) rfl (fun ls hl => ?_)
  have HL : ∀ (n k : Nat) (ll8 : Nat), k ≤ 60 → 60 + 1 ≤ k + n → (ll8 ≤ 60) → ∀ (f_5 : Nat → va_E) (H : Heap) (locs : List Loc), tO L ka cs f_5 → va_P (dC, dI) vwCl ([(h0, .inr (8, [.ref a1, .ref a2, .ref a3, .ref a4, .ref a5, .ref a6, .ref a7, .ref a8, .ref a9, .int j_faultKind, .int j_horseCount, .int j_tabletCount, .int j_riderCount, .int (nI ll8), .int j_hour]))] ++ va_pl L f_5) H → va_D A ([(h0, .inr (8, [.ref a1, .ref a2, .ref a3, .ref a4, .ref a5, .ref a6, .ref a7, .ref a8, .ref a9, .int j_faultKind, .int j_horseCount, .int j_tabletCount, .int j_riderCount, .int (nI ll8), .int j_hour]))] ++ va_pl L f_5) → va_S A s.heap H locs → ∀ ls : Array Slot, lv_has ls 5 [(0, .ref h0), (1, .ref a7), (2, .int 60), (3, .int (nI k))] → W p l e (headSpec wsX8_lineUpWaiting ({ frames := 4, cells := 0, slots := 0, locals := 84 })).room s m ([.ref h0]).toArray below meth c H locs 0 0 (MQ below (va_Qv (fun (_ : Unit) => True) (fun (_ : Unit) t9 => ∃ (f2 : Nat → va_E) (ll2 : Nat), (tO L ka cs f2) ∧ (ll2 ≤ 60) ∧ cQ dC dI ([(h0, .inr (8, [.ref a1, .ref a2, .ref a3, .ref a4, .ref a5, .ref a6, .ref a7, .ref a8, .ref a9, .int j_faultKind, .int j_horseCount, .int j_tabletCount, .int j_riderCount, .int (nI ll2), .int j_hour]))] ++ va_pl L f2) [] A t9) A) ([.ref h0]).toArray s 0 0 A) (F0 m 15 ls []) := by
    intro n
    induction n with
    | zero => intro k ll8 h1 h2; exact absurd h2 (by omega)
    | succ n ih =>
      intro k ll8 hk hn hll8 f_5 H locs hT hP hD hS ls hl
      refine lv_iload_n hx hb dX8_lineUpWaiting_15 rfl (lv_at hl 3 rfl) ?_
      refine lv_iload_n hx hb dX8_lineUpWaiting_16 rfl (lv_at hl 2 rfl) ?_
      refine lv_icmp_ge (tgt := 50) hx hb dX8_lineUpWaiting_17 (by decide) (fun c_6 => ?_) (fun c_6 => ?_)
      · have hke : k = 60 := by
          rcases Nat.lt_or_ge k 60 with q | q
          · exact absurd c_6 (nI_ge q (by decide))
          · omega
        have hP9 := hP.part (cx := [(h0, .inr (8, [.ref a1, .ref a2, .ref a3, .ref a4, .ref a5, .ref a6, .ref a7, .ref a8, .ref a9, .int j_faultKind, .int j_horseCount, .int j_tabletCount, .int j_riderCount, .int (nI ll8), .int j_hour]))]) [0] rfl
        have hD9 := hD.part (cx := [(h0, .inr (8, [.ref a1, .ref a2, .ref a3, .ref a4, .ref a5, .ref a6, .ref a7, .ref a8, .ref a9, .int j_faultKind, .int j_horseCount, .int j_tabletCount, .int j_riderCount, .int (nI ll8), .int j_hour]))]) [0] (by decide) rfl
        have hK9 := hK.sub (tys' := []) [] rfl
        refine W.widen (k := 0) (n := 0) (Nat.le_of_ble_eq_true rfl) (Nat.le_of_ble_eq_true rfl) ?_
        exact W.vret hx hb hr (fun t9 ht hW => ⟨⟨(), rfl, trivial, f_5, ll8, hT, (by omega), by rw [ht]; exact hP9, va_K.moved hW.alike hK9, hD9⟩, hS.F ht⟩) hS.2.2 dX8_lineUpWaiting_50
      · have hlt : k < 60 := by
          rcases Nat.lt_or_ge k 60 with q | q
          · exact q
          · exact absurd (show nI 60 ≤ nI k from nI_le q (by omega)) c_6
        refine lv_aload_n hx hb dX8_lineUpWaiting_20 rfl (lv_at hl 1 rfl) ?_
        refine lv_iload_n hx hb dX8_lineUpWaiting_21 rfl (lv_at hl 3 rfl) ?_
        obtain ⟨g_8, hf_7, hr_9⟩ := hT.get hY.2.2.2.2.2.1
        obtain ⟨q_10, hq_10⟩ := pl_at (X := [(h0, .inr (8, [.ref a1, .ref a2, .ref a3, .ref a4, .ref a5, .ref a6, .ref a7, .ref a8, .ref a9, .int j_faultKind, .int j_horseCount, .int j_tabletCount, .int j_riderCount, .int (nI ll8), .int j_hour]))]) (f := f_5) (e := .inl (cs 5, 60, .inr (.inr (.inr (.inr g_8))))) hY.2.2.2.2.2.1.1 hf_7
        refine va_aldq hx hb hK hP q_10 5 hq_10 rfl (vp_in_nI hlt (by decide)) dX8_lineUpWaiting_22 ?_
        rcases hr_o_11 : g_8 (nI k).toNatClampNeg with _ | o_11
        · refine W.eq (g2 := F0 m 23 ls [.null]) rfl ?_
          refine lv_astoreN (lv' := [(4, .null), (0, .ref h0), (1, .ref a7), (2, .int 60), (3, .int (nI k))]) hx hb dX8_lineUpWaiting_23 hl (by decide) rfl (fun ls hl => ?_)
          refine lv_aloadN hx hb dX8_lineUpWaiting_25 (lv_at hl 0 rfl) ?_
          refine lv_ifnullN (tgt := 44) hx hb dX8_lineUpWaiting_27 (by decide) ?_
          refine lv_iinc (v := nI (k + 1)) (lv' := [(3, .int (nI (k + 1))), (4, .null), (0, .ref h0), (1, .ref a7), (2, .int 60)]) hx hb dX8_lineUpWaiting_44 hl (k := 4) rfl (by exact (nI_1 k)) (by decide) rfl (fun ls hl => ?_)
          refine lv_goto (tgt := 15) hx hb dX8_lineUpWaiting_47 (by decide) ?_
          exact ih (k + 1) ll8 (by omega) (by omega) (by omega) _ _ _ hT (hP.part (cx := _) [0] rfl) (hD.part (cx := _) [0] (by decide) rfl) hS ls (lv_sub hl [2, 3, 4, 0] rfl)
        · have hk_o_11 := hr_9 _ _ hr_o_11
          refine W.eq (g2 := F0 m 23 ls [.ref o_11]) rfl ?_
          refine lv_astore (lv' := [(4, .ref o_11), (0, .ref h0), (1, .ref a7), (2, .int 60), (3, .int (nI k))]) hx hb dX8_lineUpWaiting_23 hl (by decide) rfl (fun ls hl => ?_)
          refine lv_aload hx hb dX8_lineUpWaiting_25 (lv_at hl 0 rfl) ?_
          refine lv_ifnull hx hb dX8_lineUpWaiting_27 ?_
          refine lv_aload hx hb dX8_lineUpWaiting_30 (lv_at hl 0 rfl) ?_
          obtain ⟨x_13, x_14, o_15, o_16, x_17, x_18, x_19, o_20, x_21, x_22, hf_12, hk_o_15, hk_o_16, hq_o_20⟩ := hT.get hk_o_11
          obtain ⟨q_23, hq_23⟩ := pl_at (X := [(h0, .inr (8, [.ref a1, .ref a2, .ref a3, .ref a4, .ref a5, .ref a6, .ref a7, .ref a8, .ref a9, .int j_faultKind, .int j_horseCount, .int j_tabletCount, .int j_riderCount, .int (nI ll8), .int j_hour]))]) (f := f_5) (e := .inr (2, [.int x_13, .int x_14, .ref o_15, .ref o_16, .int x_17, .int x_18, .int x_19, va_rf o_20, .int x_21, .int x_22])) hk_o_11.1 hf_12
          refine va_getN (D := (dC, dI)) (ci := 2) (v := .int x_17) (C := RX2) (T := TX2) (N := 10) hx hb hts hin2 hown hK hP q_23 hq_23 rfl 4 (by decide) (hN.nx (.fieldLinkNest RX8 158 "YamRiders$Rider" "state" "I" "YamRiders") (by decide +kernel)) (fun _ h9 => h9) rfl dX8_lineUpWaiting_32 ?_
          refine lv_if_ne (tgt := 44) hx hb dX8_lineUpWaiting_35 (by decide) (fun c_24 => ?_) (fun c_24 => ?_)
          · refine lv_iinc (v := nI (k + 1)) (lv' := [(3, .int (nI (k + 1))), (4, .ref o_11), (0, .ref h0), (1, .ref a7), (2, .int 60)]) hx hb dX8_lineUpWaiting_44 hl (k := 4) rfl (by exact (nI_1 k)) (by decide) rfl (fun ls hl => ?_)
            refine lv_goto (tgt := 15) hx hb dX8_lineUpWaiting_47 (by decide) ?_
            exact ih (k + 1) ll8 (by omega) (by omega) (by omega) _ _ _ hT (hP.part (cx := _) [0] rfl) (hD.part (cx := _) [0] (by decide) rfl) hS ls (lv_sub hl [2, 3, 4, 0] rfl)
          · refine lv_aload_n hx hb dX8_lineUpWaiting_38 rfl (lv_at hl 1 rfl) ?_
            refine lv_aload hx hb dX8_lineUpWaiting_39 (lv_at hl 0 rfl) ?_
            have hPc := hP.part (cx := [(h0, .inr (8, [.ref a1, .ref a2, .ref a3, .ref a4, .ref a5, .ref a6, .ref a7, .ref a8, .ref a9, .int j_faultKind, .int j_horseCount, .int j_tabletCount, .int j_riderCount, .int (nI ll8), .int j_hour]))]) [0] rfl
            have hDc := hD.part (cx := [(h0, .inr (8, [.ref a1, .ref a2, .ref a3, .ref a4, .ref a5, .ref a6, .ref a7, .ref a8, .ref a9, .int j_faultKind, .int j_horseCount, .int j_tabletCount, .int j_riderCount, .int (nI ll8), .int j_hour]))]) [0] (by decide) rfl
            have hKc := hK
            have hFc := va_freeP (cx := [(h0, .inr (8, [.ref a1, .ref a2, .ref a3, .ref a4, .ref a5, .ref a6, .ref a7, .ref a8, .ref a9, .int j_faultKind, .int j_horseCount, .int j_tabletCount, .int j_riderCount, .int (nI ll8), .int j_hour]))]) hD hS hA [0] rfl
            refine va_callv (va_runV (As := [.ref o_11]) (rest := []) ⟨hx, hb, hml, hown, hts⟩ (t_X8_putInLine l dC dI cs L ka f_5 h0 a1 a2 a3 a4 a5 a6 a7 a8 a9 j_faultKind j_horseCount j_tabletCount j_riderCount j_hour o_11 ll8 H.size hT hY hk_o_11 (by omega)) (cwV 1 hts gX8_lineUpWaiting_X8_putInLine rfl rfl rfl (by decide +kernel) ⟨Nat.le_of_ble_eq_true rfl, Nat.le_of_ble_eq_true rfl⟩) ⟨c_blind, va_recv hKc hPc (ci := 8) (q0 := 0) rfl rfl, c_pre hPc hKc hDc hN⟩ rfl rfl hl.1 rfl (lv_room (Nat.le_of_ble_eq_true rfl)) dX8_lineUpWaiting_41 ⟨Nat.le_of_ble_eq_true rfl, Nat.le_of_ble_eq_true rfl⟩) hS (fun q _ h => hFc q h) hFc (fun u9 t9 H1 locs ht hvm hw hB hz1 hk1 hS => ?_)
            obtain ⟨f_26, ll_27, hf_x_28, hf_x_29, hP1, hK1, hD1⟩ := hB
            rw [ht] at hP1
            have hK1 := va_K.moved hvm.symm hK1
            obtain ⟨hP, hD⟩ := va_joinP (X := [(h0, .inr (8, [.ref a1, .ref a2, .ref a3, .ref a4, .ref a5, .ref a6, .ref a7, .ref a8, .ref a9, .int j_faultKind, .int j_horseCount, .int j_tabletCount, .int j_riderCount, .int (nI ll8), .int j_hour]))]) (cx := [(h0, .inr (8, [.ref a1, .ref a2, .ref a3, .ref a4, .ref a5, .ref a6, .ref a7, .ref a8, .ref a9, .int j_faultKind, .int j_horseCount, .int j_tabletCount, .int j_riderCount, .int (nI ll8), .int j_hour]))]) (wr := []) (rx := [(h0, .inr (8, [.ref a1, .ref a2, .ref a3, .ref a4, .ref a5, .ref a6, .ref a7, .ref a8, .ref a9, .int j_faultKind, .int j_horseCount, .int j_tabletCount, .int j_riderCount, .int (nI ll_27), .int j_hour]))]) (pl := va_pl L f_5) (pl1 := va_pl L f_26) hP hD [0] [] rfl rfl (by decide) (by decide) hk1 hFc hP1 hD1
            have hT := hf_x_28
            generalize H1 = H at hP hS ⊢
            have hP : va_P (dC, dI) vwCl ([(h0, .inr (8, [.ref a1, .ref a2, .ref a3, .ref a4, .ref a5, .ref a6, .ref a7, .ref a8, .ref a9, .int j_faultKind, .int j_horseCount, .int j_tabletCount, .int j_riderCount, .int (nI ll_27), .int j_hour]))] ++ va_pl L f_26) H := hP
            have hD : va_D A ([(h0, .inr (8, [.ref a1, .ref a2, .ref a3, .ref a4, .ref a5, .ref a6, .ref a7, .ref a8, .ref a9, .int j_faultKind, .int j_horseCount, .int j_tabletCount, .int j_riderCount, .int (nI ll_27), .int j_hour]))] ++ va_pl L f_26) := hD
            refine W.widen (k := 0) (n := 0) (Nat.le_of_ble_eq_true rfl) (Nat.le_of_ble_eq_true rfl) ?_
            refine lv_iinc (v := nI (k + 1)) (lv' := [(3, .int (nI (k + 1))), (4, .ref o_11), (0, .ref h0), (1, .ref a7), (2, .int 60)]) hx hb dX8_lineUpWaiting_44 hl (k := 4) rfl (by exact (nI_1 k)) (by decide) rfl (fun ls hl => ?_)
            refine lv_goto (tgt := 15) hx hb dX8_lineUpWaiting_47 (by decide) ?_
            exact ih (k + 1) ll_27 (by omega) (by omega) (by omega) _ _ _ hT (hP.part (cx := _) [0] rfl) (hD.part (cx := _) [0] (by decide) rfl) hS ls (lv_sub hl [2, 3, 4, 0] rfl)
  exact HL 61 0 0 (by omega) (by omega) (by omega) _ _ _ hT (hP.part (cx := _) [0] rfl) (hD.part (cx := _) [0] (by decide) rfl) hS ls (lv_sub hl [3, 2, 1, 0] rfl)

set_option maxHeartbeats 4000000 in
set_option maxRecDepth 100000 in
theorem t_X8_send (l : Launch) (dC : Nat → ClassId) (dI : Nat → Nat → Nat) (cs : Nat → ClassId) (L : List Nat) (ka : Nat → Nat) (f : Nat → va_E) (h0 : Nat) (a1 : Nat) (a2 : Nat) (a3 : Nat) (a4 : Nat) (a5 : Nat) (a6 : Nat) (a7 : Nat) (a8 : Nat) (a9 : Nat) (j_faultKind : Int32) (j_horseCount : Int32) (j_tabletCount : Int32) (j_riderCount : Int32) (j_lineLength : Int32) (j_hour : Int32) (e1 : Nat) (sz : Nat) (hT : tO L ka cs f) (hY : yK L ka a2 a3 a4 a5 a6 a7 a8 a9) (hk_e1 : tp L ka 2 e1) : Met l yX8_send wsX8_send ({ frames := 3, cells := 0, slots := 0, locals := 64 }) (va_Pc [.ref h0, .ref e1] (cP dC dI ([(h0, .inr (8, [.ref a1, .ref a2, .ref a3, .ref a4, .ref a5, .ref a6, .ref a7, .ref a8, .ref a9, .int j_faultKind, .int j_horseCount, .int j_tabletCount, .int j_riderCount, .int j_lineLength, .int j_hour]))] ++ va_pl L f) (tyC cs) sz)) (va_Qv (fun (_ : Unit) => True) (fun (_ : Unit) t9 => ∃ (f2 : Nat → va_E), (tO L ka cs f2) ∧ cQ dC dI ([(h0, .inr (8, [.ref a1, .ref a2, .ref a3, .ref a4, .ref a5, .ref a6, .ref a7, .ref a8, .ref a9, .int j_faultKind, .int j_horseCount, .int j_tabletCount, .int j_riderCount, .int j_lineLength, .int j_hour]))] ++ va_pl L f2) [] (va_A ([(h0, .inr (8, [.ref a1, .ref a2, .ref a3, .ref a4, .ref a5, .ref a6, .ref a7, .ref a8, .ref a9, .int j_faultKind, .int j_horseCount, .int j_tabletCount, .int j_riderCount, .int j_lineLength, .int j_hour]))] ++ va_pl L f) sz) t9) (va_A ([(h0, .inr (8, [.ref a1, .ref a2, .ref a3, .ref a4, .ref a5, .ref a6, .ref a7, .ref a8, .ref a9, .int j_faultKind, .int j_horseCount, .int j_tabletCount, .int j_riderCount, .int j_lineLength, .int j_hour]))] ++ va_pl L f) sz)) 0 0 (va_A ([(h0, .inr (8, [.ref a1, .ref a2, .ref a3, .ref a4, .ref a5, .ref a6, .ref a7, .ref a8, .ref a9, .int j_faultKind, .int j_horseCount, .int j_tabletCount, .int j_riderCount, .int j_lineLength, .int j_hour]))] ++ va_pl L f) sz) := by
  refine Met.ofW (cc := cX8_send) (maxL := 5) (ret := none) (by decide) rfl ?_
  intro p e s m args below meth c s₁ B hml hv
  obtain ⟨rfl, hsz, hP, hK, hD0, hN⟩ := hv
  have hx := B.exec
  have hb := B.bytes
  have hr := B.returns
  have hts := atoms_spec (ws := wsX8_send) B.pre
  have hown : s.vm.findClass RX8 = some m.cls := findClass_of_methodNamed B.named
  have hlocks := B.notSynchronized
  subst hsz
  have hin0 : ∀ w ∈ u_ws RX0 TX0 3, w ∈ wsX8_send := by decide +kernel
  have hin2 : ∀ w ∈ u_ws RX2 TX2 10, w ∈ wsX8_send := by decide +kernel
  have hin8 : ∀ w ∈ u_ws RX8 TX8 15, w ∈ wsX8_send := by decide +kernel
  have hD := hD0.self (sz := s.heap.size)
  generalize hAe : va_A ([(h0, .inr (8, [.ref a1, .ref a2, .ref a3, .ref a4, .ref a5, .ref a6, .ref a7, .ref a8, .ref a9, .int j_faultKind, .int j_horseCount, .int j_tabletCount, .int j_riderCount, .int j_lineLength, .int j_hour]))] ++ va_pl L f) s.heap.size = A at hD ⊢
  have hA : ∀ q : Nat, s.heap.size ≤ q → A q := fun q h => by rw [← hAe]; exact Or.inr h
  have hS : va_S A s.heap s.heap [] := va_S.rf
  have hP : va_P (dC, dI) vwCl ([(h0, .inr (8, [.ref a1, .ref a2, .ref a3, .ref a4, .ref a5, .ref a6, .ref a7, .ref a8, .ref a9, .int j_faultKind, .int j_horseCount, .int j_tabletCount, .int j_riderCount, .int j_lineLength, .int j_hour]))] ++ va_pl L f) s.heap := hP
  have hl := lv_entry ([.ref h0, .ref e1]) (n := 5) (Nat.le_of_ble_eq_true rfl)
  rw [lg_entry_eq]
  generalize (lg_sl ([.ref h0, .ref e1]) ++ List.replicate (5 - (lg_sl ([.ref h0, .ref e1])).length) Slot.unset).toArray = ls at hl ⊢
  have hl : lv_has ls 5 [(0, .ref h0), (1, .ref e1)] := hl
  refine lv_aload_n hx hb dX8_send_0 rfl (lv_at hl 1 rfl) ?_
  have hPc := hP.part (cx := []) [] rfl
  have hDc := hD.part (cx := []) [] (by decide) rfl
  have hKc := hK
  obtain ⟨x_2, x_3, o_4, o_5, x_6, x_7, x_8, o_9, x_10, x_11, hf_1, hk_o_4, hk_o_5, hq_o_9⟩ := hT.get hk_e1
  obtain ⟨q_12, hq_12⟩ := pl_at (X := []) (f := f) (e := .inr (2, [.int x_2, .int x_3, .ref o_4, .ref o_5, .int x_6, .int x_7, .int x_8, va_rf o_9, .int x_10, .int x_11])) hk_e1.1 hf_1
  refine cs_i (va_runV (As := []) (rest := []) ⟨hx, hb, hml, hown, hts⟩ (t_X2_lastStation l dC dI cs L ka f e1 s.heap.size hT hk_e1) (cwV 0 hts gX8_send_X2_lastStation rfl rfl rfl (by decide +kernel) ⟨Nat.le_of_ble_eq_true rfl, Nat.le_of_ble_eq_true rfl⟩) ⟨c_blind, va_recv hKc hPc (ci := 2) (q0 := q_12) rfl hq_12, c_pre hPc hKc hDc hN⟩ rfl rfl hl.1 rfl (lv_room (Nat.le_of_ble_eq_true rfl)) dX8_send_1 ⟨Nat.le_of_ble_eq_true rfl, Nat.le_of_ble_eq_true rfl⟩) (fun r_13 hr_13 => ?_)
  refine lv_istore_n (lv' := [(2, .int r_13), (0, .ref h0), (1, .ref e1)]) hx hb dX8_send_4 rfl hl (by decide) rfl (fun ls hl => ?_)
  refine lv_aload_n hx hb dX8_send_5 rfl (lv_at hl 1 rfl) ?_
  refine lv_aload_n hx hb dX8_send_6 rfl (lv_at hl 2 rfl) ?_
  obtain ⟨q_14, hq_14⟩ := pl_at (X := [(h0, .inr (8, [.ref a1, .ref a2, .ref a3, .ref a4, .ref a5, .ref a6, .ref a7, .ref a8, .ref a9, .int j_faultKind, .int j_horseCount, .int j_tabletCount, .int j_riderCount, .int j_lineLength, .int j_hour]))]) (f := f) (e := .inr (2, [.int x_2, .int x_3, .ref o_4, .ref o_5, .int x_6, .int x_7, .int x_8, va_rf o_9, .int x_10, .int x_11])) hk_e1.1 hf_1
  refine va_getN (D := (dC, dI)) (ci := 2) (v := .int x_2) (C := RX2) (T := TX2) (N := 10) hx hb hts hin2 hown hK hP q_14 hq_14 rfl 0 (by decide) (hN.nx (.fieldLinkNest RX8 193 "YamRiders$Rider" "tablet" "I" "YamRiders") (by decide +kernel)) (fun _ h9 => h9) rfl dX8_send_7 ?_
  refine lv_iload_n hx hb dX8_send_10 rfl (lv_at hl 0 rfl) ?_
  have hPc := hP.part (cx := [(h0, .inr (8, [.ref a1, .ref a2, .ref a3, .ref a4, .ref a5, .ref a6, .ref a7, .ref a8, .ref a9, .int j_faultKind, .int j_horseCount, .int j_tabletCount, .int j_riderCount, .int j_lineLength, .int j_hour]))]) [0] rfl
  have hDc := hD.part (cx := [(h0, .inr (8, [.ref a1, .ref a2, .ref a3, .ref a4, .ref a5, .ref a6, .ref a7, .ref a8, .ref a9, .int j_faultKind, .int j_horseCount, .int j_tabletCount, .int j_riderCount, .int j_lineLength, .int j_hour]))]) [0] (by decide) rfl
  have hKc := hK
  refine cs_i (va_runV (As := [.int x_2, .int r_13]) (rest := []) ⟨hx, hb, hml, hown, hts⟩ (t_X8_voided l dC dI cs L ka f h0 a1 a2 a3 a4 a5 a6 a7 a8 a9 j_faultKind j_horseCount j_tabletCount j_riderCount j_lineLength j_hour x_2 r_13 s.heap.size hT hY) (cwV 2 hts gX8_send_X8_voided rfl rfl rfl (by decide +kernel) ⟨Nat.le_of_ble_eq_true rfl, Nat.le_of_ble_eq_true rfl⟩) ⟨c_blind, va_recv hKc hPc (ci := 8) (q0 := 0) rfl rfl, c_pre hPc hKc hDc hN⟩ rfl rfl hl.1 rfl (lv_room (Nat.le_of_ble_eq_true rfl)) dX8_send_11 ⟨Nat.le_of_ble_eq_true rfl, Nat.le_of_ble_eq_true rfl⟩) (fun r_15 hr_15 => ?_)
  refine lv_iconst (v := (-1)) hx hb dX8_send_14 (by decide) ?_
  refine lv_icmp_eq (tgt := 24) hx hb dX8_send_15 (by decide) (fun c_16 => ?_) (fun c_16 => ?_)
  · refine lv_aload_n hx hb dX8_send_24 rfl (lv_at hl 1 rfl) ?_
    refine va_get (D := (dC, dI)) (ci := 8) (v := .ref a2) (C := RX8) (T := TX8) (N := 15) hx hb hts hin8 hown hK hP 0 rfl rfl 1 (by decide) (hts (.fieldLink RX8 19 "YamRiders" "roads" "LYamRiders$Roads;") (by decide +kernel)) (fun _ h9 => h9) rfl dX8_send_25 ?_
    refine lv_iload_n hx hb dX8_send_28 rfl (lv_at hl 0 rfl) ?_
    refine lv_aload_n hx hb dX8_send_29 rfl (lv_at hl 2 rfl) ?_
    have hPc := hP.part (cx := []) [] rfl
    have hDc := hD.part (cx := []) [] (by decide) rfl
    have hKc := hK
    obtain ⟨q_17, hq_17⟩ := pl_at (X := []) (f := f) (e := .inr (2, [.int x_2, .int x_3, .ref o_4, .ref o_5, .int x_6, .int x_7, .int x_8, va_rf o_9, .int x_10, .int x_11])) hk_e1.1 hf_1
    refine cs_i (va_runV (As := []) (rest := [.int r_13, .ref a2]) ⟨hx, hb, hml, hown, hts⟩ (t_X2_nextStation l dC dI cs L ka f e1 s.heap.size hT hk_e1) (cwV 0 hts gX8_send_X2_nextStation rfl rfl rfl (by decide +kernel) ⟨Nat.le_of_ble_eq_true rfl, Nat.le_of_ble_eq_true rfl⟩) ⟨c_blind, va_recv hKc hPc (ci := 2) (q0 := q_17) rfl hq_17, c_pre hPc hKc hDc hN⟩ rfl rfl hl.1 rfl (lv_room (Nat.le_of_ble_eq_true rfl)) dX8_send_30 ⟨Nat.le_of_ble_eq_true rfl, Nat.le_of_ble_eq_true rfl⟩) (fun r_18 hr_18 => ?_)
    have hPc := hP.part (cx := []) [] rfl
    have hDc := hD.part (cx := []) [] (by decide) rfl
    have hKc := hK
    obtain ⟨o_20, o_21, o_22, o_23, o_24, hf_19, hk_o_20, hk_o_21, hk_o_22, hk_o_23, hk_o_24⟩ := hT.get hY.1
    obtain ⟨q_25, hq_25⟩ := pl_at (X := []) (f := f) (e := .inr (3, [.ref o_20, .ref o_21, .ref o_22, .ref o_23, .ref o_24])) hY.1.1 hf_19
    refine cs_i (va_runV (As := [.int r_13, .int r_18]) (rest := []) ⟨hx, hb, hml, hown, hts⟩ (t_X3_timeBetween l dC dI cs L ka f a2 r_13 r_18 s.heap.size hT hY.1) (cwV 2 hts gX8_send_X3_timeBetween rfl rfl rfl (by decide +kernel) ⟨Nat.le_of_ble_eq_true rfl, Nat.le_of_ble_eq_true rfl⟩) ⟨c_blind, va_recv hKc hPc (ci := 3) (q0 := q_25) rfl hq_25, c_pre hPc hKc hDc hN⟩ rfl rfl hl.1 rfl (lv_room (Nat.le_of_ble_eq_true rfl)) dX8_send_33 ⟨Nat.le_of_ble_eq_true rfl, Nat.le_of_ble_eq_true rfl⟩) (fun r_26 hr_26 => ?_)
    refine lv_istore_n (lv' := [(3, .int r_26), (2, .int r_13), (0, .ref h0), (1, .ref e1)]) hx hb dX8_send_36 rfl hl (by decide) rfl (fun ls hl => ?_)
    refine lv_aload_n hx hb dX8_send_37 rfl (lv_at hl 2 rfl) ?_
    refine lv_iload_n hx hb dX8_send_38 rfl (lv_at hl 1 rfl) ?_
    have hPc := hP.part (cx := [(h0, .inr (8, [.ref a1, .ref a2, .ref a3, .ref a4, .ref a5, .ref a6, .ref a7, .ref a8, .ref a9, .int j_faultKind, .int j_horseCount, .int j_tabletCount, .int j_riderCount, .int j_lineLength, .int j_hour]))]) [0] rfl
    have hDc := hD.part (cx := [(h0, .inr (8, [.ref a1, .ref a2, .ref a3, .ref a4, .ref a5, .ref a6, .ref a7, .ref a8, .ref a9, .int j_faultKind, .int j_horseCount, .int j_tabletCount, .int j_riderCount, .int j_lineLength, .int j_hour]))]) [0] (by decide) rfl
    have hKc := hK
    refine cs_q (va_runV (As := [.int r_13]) (rest := []) ⟨hx, hb, hml, hown, hts⟩ (t_X8_strongestAt l dC dI cs L ka f h0 a1 a2 a3 a4 a5 a6 a7 a8 a9 j_faultKind j_horseCount j_tabletCount j_riderCount j_lineLength j_hour r_13 s.heap.size hT hY) (cwV 1 hts gX8_send_X8_strongestAt rfl rfl rfl (by decide +kernel) ⟨Nat.le_of_ble_eq_true rfl, Nat.le_of_ble_eq_true rfl⟩) ⟨c_blind, va_recv hKc hPc (ci := 8) (q0 := 0) rfl rfl, c_pre hPc hKc hDc hN⟩ rfl rfl hl.1 rfl (lv_room (Nat.le_of_ble_eq_true rfl)) dX8_send_39 ⟨Nat.le_of_ble_eq_true rfl, Nat.le_of_ble_eq_true rfl⟩) (fun o_27 ho_27 => ?_)
    rcases o_27 with _ | o_28
    · refine W.eq (g2 := F0 m 42 ls [.null]) rfl ?_
      refine lv_astoreN (lv' := [(4, .null), (3, .int r_26), (2, .int r_13), (0, .ref h0), (1, .ref e1)]) hx hb dX8_send_42 hl (by decide) rfl (fun ls hl => ?_)
      refine lv_iload_n hx hb dX8_send_44 rfl (lv_at hl 1 rfl) ?_
      refine lv_iconst (v := (-1)) hx hb dX8_send_45 (by decide) ?_
      refine lv_icmp_eq (tgt := 90) hx hb dX8_send_46 (by decide) (fun c_29 => ?_) (fun c_29 => ?_)
      · have hP9 := hP.part (cx := [(h0, .inr (8, [.ref a1, .ref a2, .ref a3, .ref a4, .ref a5, .ref a6, .ref a7, .ref a8, .ref a9, .int j_faultKind, .int j_horseCount, .int j_tabletCount, .int j_riderCount, .int j_lineLength, .int j_hour]))]) [0] rfl
        have hD9 := hD.part (cx := [(h0, .inr (8, [.ref a1, .ref a2, .ref a3, .ref a4, .ref a5, .ref a6, .ref a7, .ref a8, .ref a9, .int j_faultKind, .int j_horseCount, .int j_tabletCount, .int j_riderCount, .int j_lineLength, .int j_hour]))]) [0] (by decide) rfl
        have hK9 := hK.sub (tys' := []) [] rfl
        refine W.widen (k := 0) (n := 0) (Nat.le_of_ble_eq_true rfl) (Nat.le_of_ble_eq_true rfl) ?_
        exact W.vret hx hb hr (fun t9 ht hW => ⟨⟨(), rfl, trivial, f, hT, by rw [ht]; exact hP9, va_K.moved hW.alike hK9, hD9⟩, hS.F ht⟩) hS.2.2 dX8_send_90
      · refine lv_aloadN hx hb dX8_send_49 (lv_at hl 0 rfl) ?_
        refine lv_ifnullN (tgt := 90) hx hb dX8_send_51 (by decide) ?_
        have hP9 := hP.part (cx := [(h0, .inr (8, [.ref a1, .ref a2, .ref a3, .ref a4, .ref a5, .ref a6, .ref a7, .ref a8, .ref a9, .int j_faultKind, .int j_horseCount, .int j_tabletCount, .int j_riderCount, .int j_lineLength, .int j_hour]))]) [0] rfl
        have hD9 := hD.part (cx := [(h0, .inr (8, [.ref a1, .ref a2, .ref a3, .ref a4, .ref a5, .ref a6, .ref a7, .ref a8, .ref a9, .int j_faultKind, .int j_horseCount, .int j_tabletCount, .int j_riderCount, .int j_lineLength, .int j_hour]))]) [0] (by decide) rfl
        have hK9 := hK.sub (tys' := []) [] rfl
        refine W.widen (k := 0) (n := 0) (Nat.le_of_ble_eq_true rfl) (Nat.le_of_ble_eq_true rfl) ?_
        exact W.vret hx hb hr (fun t9 ht hW => ⟨⟨(), rfl, trivial, f, hT, by rw [ht]; exact hP9, va_K.moved hW.alike hK9, hD9⟩, hS.F ht⟩) hS.2.2 dX8_send_90
    · have hk_o_28 := ho_27 _ rfl
      refine W.eq (g2 := F0 m 42 ls [.ref o_28]) rfl ?_
      refine lv_astore (lv' := [(4, .ref o_28), (3, .int r_26), (2, .int r_13), (0, .ref h0), (1, .ref e1)]) hx hb dX8_send_42 hl (by decide) rfl (fun ls hl => ?_)
      refine lv_iload_n hx hb dX8_send_44 rfl (lv_at hl 1 rfl) ?_
      refine lv_iconst (v := (-1)) hx hb dX8_send_45 (by decide) ?_
      refine lv_icmp_eq (tgt := 90) hx hb dX8_send_46 (by decide) (fun c_30 => ?_) (fun c_30 => ?_)
      · have hP9 := hP.part (cx := [(h0, .inr (8, [.ref a1, .ref a2, .ref a3, .ref a4, .ref a5, .ref a6, .ref a7, .ref a8, .ref a9, .int j_faultKind, .int j_horseCount, .int j_tabletCount, .int j_riderCount, .int j_lineLength, .int j_hour]))]) [0] rfl
        have hD9 := hD.part (cx := [(h0, .inr (8, [.ref a1, .ref a2, .ref a3, .ref a4, .ref a5, .ref a6, .ref a7, .ref a8, .ref a9, .int j_faultKind, .int j_horseCount, .int j_tabletCount, .int j_riderCount, .int j_lineLength, .int j_hour]))]) [0] (by decide) rfl
        have hK9 := hK.sub (tys' := []) [] rfl
        refine W.widen (k := 0) (n := 0) (Nat.le_of_ble_eq_true rfl) (Nat.le_of_ble_eq_true rfl) ?_
        exact W.vret hx hb hr (fun t9 ht hW => ⟨⟨(), rfl, trivial, f, hT, by rw [ht]; exact hP9, va_K.moved hW.alike hK9, hD9⟩, hS.F ht⟩) hS.2.2 dX8_send_90
      · refine lv_aload hx hb dX8_send_49 (lv_at hl 0 rfl) ?_
        refine lv_ifnull hx hb dX8_send_51 ?_
        refine lv_aload_n hx hb dX8_send_54 rfl (lv_at hl 3 rfl) ?_
        refine lv_iload_n hx hb dX8_send_55 rfl (lv_at hl 2 rfl) ?_
        have hPc := hP.part (cx := [(h0, .inr (8, [.ref a1, .ref a2, .ref a3, .ref a4, .ref a5, .ref a6, .ref a7, .ref a8, .ref a9, .int j_faultKind, .int j_horseCount, .int j_tabletCount, .int j_riderCount, .int j_lineLength, .int j_hour]))]) [0] rfl
        have hDc := hD.part (cx := [(h0, .inr (8, [.ref a1, .ref a2, .ref a3, .ref a4, .ref a5, .ref a6, .ref a7, .ref a8, .ref a9, .int j_faultKind, .int j_horseCount, .int j_tabletCount, .int j_riderCount, .int j_lineLength, .int j_hour]))]) [0] (by decide) rfl
        have hKc := hK
        refine cs_i (va_runV (As := [.int r_13]) (rest := []) ⟨hx, hb, hml, hown, hts⟩ (t_X8_horsesAt l dC dI cs L ka f h0 a1 a2 a3 a4 a5 a6 a7 a8 a9 j_faultKind j_horseCount j_tabletCount j_riderCount j_lineLength j_hour r_13 s.heap.size hT hY) (cwV 1 hts gX8_send_X8_horsesAt rfl rfl rfl (by decide +kernel) ⟨Nat.le_of_ble_eq_true rfl, Nat.le_of_ble_eq_true rfl⟩) ⟨c_blind, va_recv hKc hPc (ci := 8) (q0 := 0) rfl rfl, c_pre hPc hKc hDc hN⟩ rfl rfl hl.1 rfl (lv_room (Nat.le_of_ble_eq_true rfl)) dX8_send_56 ⟨Nat.le_of_ble_eq_true rfl, Nat.le_of_ble_eq_true rfl⟩) (fun r_31 hr_31 => ?_)
        refine lv_aload_n hx hb dX8_send_59 rfl (lv_at hl 3 rfl) ?_
        refine va_get (D := (dC, dI)) (ci := 8) (v := .ref a9) (C := RX8) (T := TX8) (N := 15) hx hb hts hin8 hown hK hP 0 rfl rfl 8 (by decide) (hts (.fieldLink RX8 58 "YamRiders" "law" "LYamRiders$Statutes;") (by decide +kernel)) (fun _ h9 => h9) rfl dX8_send_60 ?_
        refine lv_aload_n hx hb dX8_send_63 rfl (lv_at hl 4 rfl) ?_
        obtain ⟨q_32, hq_32⟩ := pl_at (X := [(h0, .inr (8, [.ref a1, .ref a2, .ref a3, .ref a4, .ref a5, .ref a6, .ref a7, .ref a8, .ref a9, .int j_faultKind, .int j_horseCount, .int j_tabletCount, .int j_riderCount, .int j_lineLength, .int j_hour]))]) (f := f) (e := .inr (2, [.int x_2, .int x_3, .ref o_4, .ref o_5, .int x_6, .int x_7, .int x_8, va_rf o_9, .int x_10, .int x_11])) hk_e1.1 hf_1
        refine va_getN (D := (dC, dI)) (ci := 2) (v := .int x_3) (C := RX2) (T := TX2) (N := 10) hx hb hts hin2 hown hK hP q_32 hq_32 rfl 1 (by decide) (hN.nx (.fieldLinkNest RX8 270 "YamRiders$Rider" "rank" "I" "YamRiders") (by decide +kernel)) (fun _ h9 => h9) rfl dX8_send_64 ?_
        have hPc := hP.part (cx := []) [] rfl
        have hDc := hD.part (cx := []) [] (by decide) rfl
        have hKc := hK
        obtain ⟨o_34, hf_33, hk_o_34⟩ := hT.get hY.2.2.2.2.2.2.2
        obtain ⟨q_35, hq_35⟩ := pl_at (X := []) (f := f) (e := .inr (5, [.ref o_34])) hY.2.2.2.2.2.2.2.1 hf_33
        refine cs_i (va_runV (As := [.int x_3]) (rest := [.int r_31]) ⟨hx, hb, hml, hown, hts⟩ (t_X5_keepFor l dC dI cs L ka f a9 x_3 s.heap.size hT hY.2.2.2.2.2.2.2) (cwV 1 hts gX8_send_X5_keepFor rfl rfl rfl (by decide +kernel) ⟨Nat.le_of_ble_eq_true rfl, Nat.le_of_ble_eq_true rfl⟩) ⟨c_blind, va_recv hKc hPc (ci := 5) (q0 := q_35) rfl hq_35, c_pre hPc hKc hDc hN⟩ rfl rfl hl.1 rfl (lv_room (Nat.le_of_ble_eq_true rfl)) dX8_send_67 ⟨Nat.le_of_ble_eq_true rfl, Nat.le_of_ble_eq_true rfl⟩) (fun r_36 hr_36 => ?_)
        refine lv_icmp_le (tgt := 90) hx hb dX8_send_70 (by decide) (fun c_37 => ?_) (fun c_37 => ?_)
        · have hP9 := hP.part (cx := [(h0, .inr (8, [.ref a1, .ref a2, .ref a3, .ref a4, .ref a5, .ref a6, .ref a7, .ref a8, .ref a9, .int j_faultKind, .int j_horseCount, .int j_tabletCount, .int j_riderCount, .int j_lineLength, .int j_hour]))]) [0] rfl
          have hD9 := hD.part (cx := [(h0, .inr (8, [.ref a1, .ref a2, .ref a3, .ref a4, .ref a5, .ref a6, .ref a7, .ref a8, .ref a9, .int j_faultKind, .int j_horseCount, .int j_tabletCount, .int j_riderCount, .int j_lineLength, .int j_hour]))]) [0] (by decide) rfl
          have hK9 := hK.sub (tys' := []) [] rfl
          refine W.widen (k := 0) (n := 0) (Nat.le_of_ble_eq_true rfl) (Nat.le_of_ble_eq_true rfl) ?_
          exact W.vret hx hb hr (fun t9 ht hW => ⟨⟨(), rfl, trivial, f, hT, by rw [ht]; exact hP9, va_K.moved hW.alike hK9, hD9⟩, hS.F ht⟩) hS.2.2 dX8_send_90
        · refine lv_aload hx hb dX8_send_73 (lv_at hl 0 rfl) ?_
          obtain ⟨x_39, x_40, x_41, hf_38⟩ := hT.get hk_o_28
          obtain ⟨q_42, hq_42⟩ := pl_at (X := [(h0, .inr (8, [.ref a1, .ref a2, .ref a3, .ref a4, .ref a5, .ref a6, .ref a7, .ref a8, .ref a9, .int j_faultKind, .int j_horseCount, .int j_tabletCount, .int j_riderCount, .int j_lineLength, .int j_hour]))]) (f := f) (e := .inr (0, [.int x_39, .int x_40, .int x_41])) hk_o_28.1 hf_38
          refine va_getN (D := (dC, dI)) (ci := 0) (v := .int x_41) (C := RX0) (T := TX0) (N := 3) hx hb hts hin0 hown hK hP q_42 hq_42 rfl 2 (by decide) (hN.nx (.fieldLinkNest RX8 206 "YamRiders$Horse" "strength" "I" "YamRiders") (by decide +kernel)) (fun _ h9 => h9) rfl dX8_send_75 ?_
          refine lv_aload_n hx hb dX8_send_78 rfl (lv_at hl 3 rfl) ?_
          refine va_get (D := (dC, dI)) (ci := 8) (v := .ref a9) (C := RX8) (T := TX8) (N := 15) hx hb hts hin8 hown hK hP 0 rfl rfl 8 (by decide) (hts (.fieldLink RX8 58 "YamRiders" "law" "LYamRiders$Statutes;") (by decide +kernel)) (fun _ h9 => h9) rfl dX8_send_79 ?_
          have hPc := hP.part (cx := []) [] rfl
          have hDc := hD.part (cx := []) [] (by decide) rfl
          have hKc := hK
          obtain ⟨q_43, hq_43⟩ := pl_at (X := []) (f := f) (e := .inr (5, [.ref o_34])) hY.2.2.2.2.2.2.2.1 hf_33
          refine cs_i (va_runV (As := []) (rest := [.int x_41]) ⟨hx, hb, hml, hown, hts⟩ (t_X5_tire l dC dI cs L ka f a9 s.heap.size hT hY.2.2.2.2.2.2.2) (cwV 0 hts gX8_send_X5_tire rfl rfl rfl (by decide +kernel) ⟨Nat.le_of_ble_eq_true rfl, Nat.le_of_ble_eq_true rfl⟩) ⟨c_blind, va_recv hKc hPc (ci := 5) (q0 := q_43) rfl hq_43, c_pre hPc hKc hDc hN⟩ rfl rfl hl.1 rfl (lv_room (Nat.le_of_ble_eq_true rfl)) dX8_send_82 ⟨Nat.le_of_ble_eq_true rfl, Nat.le_of_ble_eq_true rfl⟩) (fun r_44 hr_44 => ?_)
          refine lv_iload_n hx hb dX8_send_85 rfl (lv_at hl 1 rfl) ?_
          refine lv_imul hx hb dX8_send_86 ?_
          refine lv_topi (fun v_45 ev_45 => ?_)
          refine lv_icmp_ge (tgt := 91) hx hb dX8_send_87 (by decide) (fun c_46 => ?_) (fun c_46 => ?_)
          · refine lv_aload hx hb dX8_send_91 (lv_at hl 0 rfl) ?_
            refine lv_iconst (v := (-1)) hx hb dX8_send_93 (by decide) ?_
            obtain ⟨q_47, hq_47⟩ := pl_at (X := [(h0, .inr (8, [.ref a1, .ref a2, .ref a3, .ref a4, .ref a5, .ref a6, .ref a7, .ref a8, .ref a9, .int j_faultKind, .int j_horseCount, .int j_tabletCount, .int j_riderCount, .int j_lineLength, .int j_hour]))]) (f := f) (e := .inr (0, [.int x_39, .int x_40, .int x_41])) hk_o_28.1 hf_38
            refine va_putN (D := (dC, dI)) (ci := 0) (v := .int (-1)) (ty := (tyX0 1)) (C := RX0) (T := TX0) (N := 3) hx hb hts hin0 tyX0 tyX0_ok nmX0 hown hK hP hD hS q_47 hq_47 rfl 1 (by decide) (hN.nx (.fieldLinkNest RX8 209 "YamRiders$Horse" "station" "I" "YamRiders") (by decide +kernel)) (fun _ h9 => h9) rfl (by decide +kernel) rfl rfl (Nat.le_of_ble_eq_true rfl) dX8_send_94 (fun H locs hP9 hD9 hS => ?_)
            have hs_48 := pl_st (.inr (0, [.int x_39, .int (-1), .int x_41])) hD hk_o_28.1 hf_38 hq_47
            have hP9 : va_P (dC, dI) vwCl ((([(h0, .inr (8, [.ref a1, .ref a2, .ref a3, .ref a4, .ref a5, .ref a6, .ref a7, .ref a8, .ref a9, .int j_faultKind, .int j_horseCount, .int j_tabletCount, .int j_riderCount, .int j_lineLength, .int j_hour]))] : va_W) ++ va_pl L f).set q_47 (o_28, .inr (0, [.int x_39, .int (-1), .int x_41]))) H := hP9
            have hD9 : va_D A ((([(h0, .inr (8, [.ref a1, .ref a2, .ref a3, .ref a4, .ref a5, .ref a6, .ref a7, .ref a8, .ref a9, .int j_faultKind, .int j_horseCount, .int j_tabletCount, .int j_riderCount, .int j_lineLength, .int j_hour]))] : va_W) ++ va_pl L f).set q_47 (o_28, .inr (0, [.int x_39, .int (-1), .int x_41]))) := hD9
            rw [hs_48] at hP9 hD9
            have hT := hT.put (e := .inr (0, [.int x_39, .int (-1), .int x_41])) hk_o_28 ⟨x_39, (-1), x_41, rfl⟩
            have hf_49 : va_up f o_28 (.inr (0, [.int x_39, .int (-1), .int x_41])) o_28 = .inr (0, [.int x_39, .int (-1), .int x_41]) := va_up_self _ _ _
            have hP := hP9
            have hD := hD9
            clear hP9 hD9 hs_48
            generalize va_up f o_28 (.inr (0, [.int x_39, .int (-1), .int x_41])) = f_50 at hP hD hT hf_49
            refine lv_aload_n hx hb dX8_send_97 rfl (lv_at hl 4 rfl) ?_
            refine lv_aload hx hb dX8_send_98 (lv_at hl 0 rfl) ?_
            refine lv_aload_n hx hb dX8_send_100 rfl (lv_at hl 3 rfl) ?_
            refine va_get (D := (dC, dI)) (ci := 8) (v := .int j_hour) (C := RX8) (T := TX8) (N := 15) hx hb hts hin8 hown hK hP 0 rfl rfl 14 (by decide) (hts (.fieldLink RX8 140 "YamRiders" "hour" "I") (by decide +kernel)) (fun _ h9 => h9) rfl dX8_send_101 ?_
            refine lv_iload_n hx hb dX8_send_104 rfl (lv_at hl 1 rfl) ?_
            have hPc := hP.part (cx := []) [] rfl
            have hDc := hD.part (cx := []) [] (by decide) rfl
            have hKc := hK
            have hFc := va_freeP (cx := []) hD hS hA [] rfl
            obtain ⟨x_52, x_53, o_54, o_55, x_56, x_57, x_58, o_59, x_60, x_61, hf_51, hk_o_54, hk_o_55, hq_o_59⟩ := hT.get hk_e1
            obtain ⟨q_62, hq_62⟩ := pl_at (X := []) (f := f_50) (e := .inr (2, [.int x_52, .int x_53, .ref o_54, .ref o_55, .int x_56, .int x_57, .int x_58, va_rf o_59, .int x_60, .int x_61])) hk_e1.1 hf_51
            refine va_callv (va_runV (As := [.ref o_28, .int j_hour, .int r_26]) (rest := []) ⟨hx, hb, hml, hown, hts⟩ (t_X2_leaveOn l dC dI cs L ka f_50 e1 o_28 j_hour r_26 H.size hT hk_e1 hk_o_28) (cwV 3 hts gX8_send_X2_leaveOn rfl rfl rfl (by decide +kernel) ⟨Nat.le_of_ble_eq_true rfl, Nat.le_of_ble_eq_true rfl⟩) ⟨c_blind, va_recv hKc hPc (ci := 2) (q0 := q_62) rfl hq_62, c_pre hPc hKc hDc hN⟩ rfl rfl hl.1 rfl (lv_room (Nat.le_of_ble_eq_true rfl)) dX8_send_105 ⟨Nat.le_of_ble_eq_true rfl, Nat.le_of_ble_eq_true rfl⟩) hS (fun q _ h => hFc q h) hFc (fun u9 t9 H1 locs ht hvm hw hB hz1 hk1 hS => ?_)
            obtain ⟨f_64, hf_x_65, hP1, hK1, hD1⟩ := hB
            rw [ht] at hP1
            have hK1 := va_K.moved hvm.symm hK1
            obtain ⟨hP, hD⟩ := va_joinP (X := [(h0, .inr (8, [.ref a1, .ref a2, .ref a3, .ref a4, .ref a5, .ref a6, .ref a7, .ref a8, .ref a9, .int j_faultKind, .int j_horseCount, .int j_tabletCount, .int j_riderCount, .int j_lineLength, .int j_hour]))]) (cx := []) (wr := [(h0, .inr (8, [.ref a1, .ref a2, .ref a3, .ref a4, .ref a5, .ref a6, .ref a7, .ref a8, .ref a9, .int j_faultKind, .int j_horseCount, .int j_tabletCount, .int j_riderCount, .int j_lineLength, .int j_hour]))]) (rx := []) (pl := va_pl L f_50) (pl1 := va_pl L f_64) hP hD [] [0] rfl rfl (by decide) (by decide) hk1 hFc hP1 hD1
            have hT := hf_x_65
            generalize H1 = H at hP hS ⊢
            have hP : va_P (dC, dI) vwCl ([(h0, .inr (8, [.ref a1, .ref a2, .ref a3, .ref a4, .ref a5, .ref a6, .ref a7, .ref a8, .ref a9, .int j_faultKind, .int j_horseCount, .int j_tabletCount, .int j_riderCount, .int j_lineLength, .int j_hour]))] ++ va_pl L f_64) H := hP
            have hD : va_D A ([(h0, .inr (8, [.ref a1, .ref a2, .ref a3, .ref a4, .ref a5, .ref a6, .ref a7, .ref a8, .ref a9, .int j_faultKind, .int j_horseCount, .int j_tabletCount, .int j_riderCount, .int j_lineLength, .int j_hour]))] ++ va_pl L f_64) := hD
            refine W.widen (k := 0) (n := 0) (Nat.le_of_ble_eq_true rfl) (Nat.le_of_ble_eq_true rfl) ?_
            have hP9 := hP.part (cx := [(h0, .inr (8, [.ref a1, .ref a2, .ref a3, .ref a4, .ref a5, .ref a6, .ref a7, .ref a8, .ref a9, .int j_faultKind, .int j_horseCount, .int j_tabletCount, .int j_riderCount, .int j_lineLength, .int j_hour]))]) [0] rfl
            have hD9 := hD.part (cx := [(h0, .inr (8, [.ref a1, .ref a2, .ref a3, .ref a4, .ref a5, .ref a6, .ref a7, .ref a8, .ref a9, .int j_faultKind, .int j_horseCount, .int j_tabletCount, .int j_riderCount, .int j_lineLength, .int j_hour]))]) [0] (by decide) rfl
            have hK9 := hK.sub (tys' := []) [] rfl
            refine W.widen (k := 0) (n := 0) (Nat.le_of_ble_eq_true rfl) (Nat.le_of_ble_eq_true rfl) ?_
            exact W.vret hx hb hr (fun t9 ht hW => ⟨⟨(), rfl, trivial, f_64, hT, by rw [ht]; exact hP9, va_K.moved hW.alike hK9, hD9⟩, hS.F ht⟩) hS.2.2 dX8_send_108
          · have hP9 := hP.part (cx := [(h0, .inr (8, [.ref a1, .ref a2, .ref a3, .ref a4, .ref a5, .ref a6, .ref a7, .ref a8, .ref a9, .int j_faultKind, .int j_horseCount, .int j_tabletCount, .int j_riderCount, .int j_lineLength, .int j_hour]))]) [0] rfl
            have hD9 := hD.part (cx := [(h0, .inr (8, [.ref a1, .ref a2, .ref a3, .ref a4, .ref a5, .ref a6, .ref a7, .ref a8, .ref a9, .int j_faultKind, .int j_horseCount, .int j_tabletCount, .int j_riderCount, .int j_lineLength, .int j_hour]))]) [0] (by decide) rfl
            have hK9 := hK.sub (tys' := []) [] rfl
            refine W.widen (k := 0) (n := 0) (Nat.le_of_ble_eq_true rfl) (Nat.le_of_ble_eq_true rfl) ?_
            exact W.vret hx hb hr (fun t9 ht hW => ⟨⟨(), rfl, trivial, f, hT, by rw [ht]; exact hP9, va_K.moved hW.alike hK9, hD9⟩, hS.F ht⟩) hS.2.2 dX8_send_90
  · refine lv_aload_n hx hb dX8_send_18 rfl (lv_at hl 2 rfl) ?_
    refine lv_iconst (v := 3) hx hb dX8_send_19 (by decide) ?_
    obtain ⟨q_66, hq_66⟩ := pl_at (X := [(h0, .inr (8, [.ref a1, .ref a2, .ref a3, .ref a4, .ref a5, .ref a6, .ref a7, .ref a8, .ref a9, .int j_faultKind, .int j_horseCount, .int j_tabletCount, .int j_riderCount, .int j_lineLength, .int j_hour]))]) (f := f) (e := .inr (2, [.int x_2, .int x_3, .ref o_4, .ref o_5, .int x_6, .int x_7, .int x_8, va_rf o_9, .int x_10, .int x_11])) hk_e1.1 hf_1
    refine va_putN (D := (dC, dI)) (ci := 2) (v := .int 3) (ty := (tyX2 4)) (C := RX2) (T := TX2) (N := 10) hx hb hts hin2 tyX2 tyX2_ok nmX2 hown hK hP hD hS q_66 hq_66 rfl 4 (by decide) (hN.nx (.fieldLinkNest RX8 158 "YamRiders$Rider" "state" "I" "YamRiders") (by decide +kernel)) (fun _ h9 => h9) rfl (by decide +kernel) rfl rfl (Nat.le_of_ble_eq_true rfl) dX8_send_20 (fun H locs hP9 hD9 hS => ?_)
    have hs_67 := pl_st (.inr (2, [.int x_2, .int x_3, .ref o_4, .ref o_5, .int 3, .int x_7, .int x_8, va_rf o_9, .int x_10, .int x_11])) hD hk_e1.1 hf_1 hq_66
    have hP9 : va_P (dC, dI) vwCl ((([(h0, .inr (8, [.ref a1, .ref a2, .ref a3, .ref a4, .ref a5, .ref a6, .ref a7, .ref a8, .ref a9, .int j_faultKind, .int j_horseCount, .int j_tabletCount, .int j_riderCount, .int j_lineLength, .int j_hour]))] : va_W) ++ va_pl L f).set q_66 (e1, .inr (2, [.int x_2, .int x_3, .ref o_4, .ref o_5, .int 3, .int x_7, .int x_8, va_rf o_9, .int x_10, .int x_11]))) H := hP9
    have hD9 : va_D A ((([(h0, .inr (8, [.ref a1, .ref a2, .ref a3, .ref a4, .ref a5, .ref a6, .ref a7, .ref a8, .ref a9, .int j_faultKind, .int j_horseCount, .int j_tabletCount, .int j_riderCount, .int j_lineLength, .int j_hour]))] : va_W) ++ va_pl L f).set q_66 (e1, .inr (2, [.int x_2, .int x_3, .ref o_4, .ref o_5, .int 3, .int x_7, .int x_8, va_rf o_9, .int x_10, .int x_11]))) := hD9
    rw [hs_67] at hP9 hD9
    have hT := hT.put (e := .inr (2, [.int x_2, .int x_3, .ref o_4, .ref o_5, .int 3, .int x_7, .int x_8, va_rf o_9, .int x_10, .int x_11])) hk_e1 ⟨x_2, x_3, o_4, o_5, 3, x_7, x_8, o_9, x_10, x_11, rfl, hk_o_4, hk_o_5, hq_o_9⟩
    have hf_68 : va_up f e1 (.inr (2, [.int x_2, .int x_3, .ref o_4, .ref o_5, .int 3, .int x_7, .int x_8, va_rf o_9, .int x_10, .int x_11])) e1 = .inr (2, [.int x_2, .int x_3, .ref o_4, .ref o_5, .int 3, .int x_7, .int x_8, va_rf o_9, .int x_10, .int x_11]) := va_up_self _ _ _
    have hP := hP9
    have hD := hD9
    clear hP9 hD9 hs_67
    generalize va_up f e1 (.inr (2, [.int x_2, .int x_3, .ref o_4, .ref o_5, .int 3, .int x_7, .int x_8, va_rf o_9, .int x_10, .int x_11])) = f_69 at hP hD hT hf_68
    have hP9 := hP.part (cx := [(h0, .inr (8, [.ref a1, .ref a2, .ref a3, .ref a4, .ref a5, .ref a6, .ref a7, .ref a8, .ref a9, .int j_faultKind, .int j_horseCount, .int j_tabletCount, .int j_riderCount, .int j_lineLength, .int j_hour]))]) [0] rfl
    have hD9 := hD.part (cx := [(h0, .inr (8, [.ref a1, .ref a2, .ref a3, .ref a4, .ref a5, .ref a6, .ref a7, .ref a8, .ref a9, .int j_faultKind, .int j_horseCount, .int j_tabletCount, .int j_riderCount, .int j_lineLength, .int j_hour]))]) [0] (by decide) rfl
    have hK9 := hK.sub (tys' := []) [] rfl
    refine W.widen (k := 0) (n := 0) (Nat.le_of_ble_eq_true rfl) (Nat.le_of_ble_eq_true rfl) ?_
    exact W.vret hx hb hr (fun t9 ht hW => ⟨⟨(), rfl, trivial, f_69, hT, by rw [ht]; exact hP9, va_K.moved hW.alike hK9, hD9⟩, hS.F ht⟩) hS.2.2 dX8_send_23

set_option maxHeartbeats 4000000 in
set_option maxRecDepth 100000 in
theorem t_X8_sendLine (l : Launch) (dC : Nat → ClassId) (dI : Nat → Nat → Nat) (cs : Nat → ClassId) (L : List Nat) (ka : Nat → Nat) (f : Nat → va_E) (h0 : Nat) (a1 : Nat) (a2 : Nat) (a3 : Nat) (a4 : Nat) (a5 : Nat) (a6 : Nat) (a7 : Nat) (a8 : Nat) (a9 : Nat) (j_faultKind : Int32) (j_horseCount : Int32) (j_tabletCount : Int32) (j_riderCount : Int32) (j_hour : Int32) (ll9 : Nat) (sz : Nat) (hT : tO L ka cs f) (hY : yK L ka a2 a3 a4 a5 a6 a7 a8 a9) (hll : ll9 ≤ 60) : Met l yX8_sendLine wsX8_sendLine ({ frames := 4, cells := 0, slots := 0, locals := 88 }) (va_Pc [.ref h0] (cP dC dI ([(h0, .inr (8, [.ref a1, .ref a2, .ref a3, .ref a4, .ref a5, .ref a6, .ref a7, .ref a8, .ref a9, .int j_faultKind, .int j_horseCount, .int j_tabletCount, .int j_riderCount, .int (nI ll9), .int j_hour]))] ++ va_pl L f) (tyC cs) sz)) (va_Qv (fun (_ : Unit) => True) (fun (_ : Unit) t9 => ∃ (f2 : Nat → va_E), (tO L ka cs f2) ∧ cQ dC dI ([(h0, .inr (8, [.ref a1, .ref a2, .ref a3, .ref a4, .ref a5, .ref a6, .ref a7, .ref a8, .ref a9, .int j_faultKind, .int j_horseCount, .int j_tabletCount, .int j_riderCount, .int (nI ll9), .int j_hour]))] ++ va_pl L f2) [] (va_A ([(h0, .inr (8, [.ref a1, .ref a2, .ref a3, .ref a4, .ref a5, .ref a6, .ref a7, .ref a8, .ref a9, .int j_faultKind, .int j_horseCount, .int j_tabletCount, .int j_riderCount, .int (nI ll9), .int j_hour]))] ++ va_pl L f) sz) t9) (va_A ([(h0, .inr (8, [.ref a1, .ref a2, .ref a3, .ref a4, .ref a5, .ref a6, .ref a7, .ref a8, .ref a9, .int j_faultKind, .int j_horseCount, .int j_tabletCount, .int j_riderCount, .int (nI ll9), .int j_hour]))] ++ va_pl L f) sz)) 0 0 (va_A ([(h0, .inr (8, [.ref a1, .ref a2, .ref a3, .ref a4, .ref a5, .ref a6, .ref a7, .ref a8, .ref a9, .int j_faultKind, .int j_horseCount, .int j_tabletCount, .int j_riderCount, .int (nI ll9), .int j_hour]))] ++ va_pl L f) sz) := by
  refine Met.ofW (cc := cX8_sendLine) (maxL := 3) (ret := none) (by decide) rfl ?_
  intro p e s m args below meth c s₁ B hml hv
  obtain ⟨rfl, hsz, hP, hK, hD0, hN⟩ := hv
  have hx := B.exec
  have hb := B.bytes
  have hr := B.returns
  have hts := atoms_spec (ws := wsX8_sendLine) B.pre
  have hown : s.vm.findClass RX8 = some m.cls := findClass_of_methodNamed B.named
  have hlocks := B.notSynchronized
  subst hsz
  have hin8 : ∀ w ∈ u_ws RX8 TX8 15, w ∈ wsX8_sendLine := by decide +kernel
  have hD := hD0.self (sz := s.heap.size)
  generalize hAe : va_A ([(h0, .inr (8, [.ref a1, .ref a2, .ref a3, .ref a4, .ref a5, .ref a6, .ref a7, .ref a8, .ref a9, .int j_faultKind, .int j_horseCount, .int j_tabletCount, .int j_riderCount, .int (nI ll9), .int j_hour]))] ++ va_pl L f) s.heap.size = A at hD ⊢
  have hA : ∀ q : Nat, s.heap.size ≤ q → A q := fun q h => by rw [← hAe]; exact Or.inr h
  have hS : va_S A s.heap s.heap [] := va_S.rf
  have hP : va_P (dC, dI) vwCl ([(h0, .inr (8, [.ref a1, .ref a2, .ref a3, .ref a4, .ref a5, .ref a6, .ref a7, .ref a8, .ref a9, .int j_faultKind, .int j_horseCount, .int j_tabletCount, .int j_riderCount, .int (nI ll9), .int j_hour]))] ++ va_pl L f) s.heap := hP
  have hl := lv_entry ([.ref h0]) (n := 3) (Nat.le_of_ble_eq_true rfl)
  rw [lg_entry_eq]
  generalize (lg_sl ([.ref h0]) ++ List.replicate (3 - (lg_sl ([.ref h0])).length) Slot.unset).toArray = ls at hl ⊢
  have hl : lv_has ls 3 [(0, .ref h0)] := hl
  refine lv_iconst (v := 0) hx hb dX8_sendLine_0 (by decide) ?_
  refine lv_istore_n (lv' := [(1, .int 0), (0, .ref h0)]) hx hb dX8_sendLine_1 rfl hl (by decide) rfl (fun ls hl => ?_)
  have HL : ∀ (n k : Nat), k ≤ ll9 → ll9 + 1 ≤ k + n → ∀ (f_1 : Nat → va_E) (H : Heap) (locs : List Loc), tO L ka cs f_1 → va_P (dC, dI) vwCl ([(h0, .inr (8, [.ref a1, .ref a2, .ref a3, .ref a4, .ref a5, .ref a6, .ref a7, .ref a8, .ref a9, .int j_faultKind, .int j_horseCount, .int j_tabletCount, .int j_riderCount, .int (nI ll9), .int j_hour]))] ++ va_pl L f_1) H → va_D A ([(h0, .inr (8, [.ref a1, .ref a2, .ref a3, .ref a4, .ref a5, .ref a6, .ref a7, .ref a8, .ref a9, .int j_faultKind, .int j_horseCount, .int j_tabletCount, .int j_riderCount, .int (nI ll9), .int j_hour]))] ++ va_pl L f_1) → va_S A s.heap H locs → ∀ ls : Array Slot, lv_has ls 3 [(0, .ref h0), (1, .int (nI k))] → W p l e (headSpec wsX8_sendLine ({ frames := 4, cells := 0, slots := 0, locals := 88 })).room s m ([.ref h0]).toArray below meth c H locs 0 0 (MQ below (va_Qv (fun (_ : Unit) => True) (fun (_ : Unit) t9 => ∃ (f2 : Nat → va_E), (tO L ka cs f2) ∧ cQ dC dI ([(h0, .inr (8, [.ref a1, .ref a2, .ref a3, .ref a4, .ref a5, .ref a6, .ref a7, .ref a8, .ref a9, .int j_faultKind, .int j_horseCount, .int j_tabletCount, .int j_riderCount, .int (nI ll9), .int j_hour]))] ++ va_pl L f2) [] A t9) A) ([.ref h0]).toArray s 0 0 A) (F0 m 2 ls []) := by
    intro n
    induction n with
    | zero => intro k h1 h2; exact absurd h2 (by omega)
    | succ n ih =>
      intro k hk hn f_1 H locs hT hP hD hS ls hl
      refine lv_iload_n hx hb dX8_sendLine_2 rfl (lv_at hl 1 rfl) ?_
      refine lv_aload_n hx hb dX8_sendLine_3 rfl (lv_at hl 0 rfl) ?_
      refine va_get (D := (dC, dI)) (ci := 8) (v := .int (nI ll9)) (C := RX8) (T := TX8) (N := 15) hx hb hts hin8 hown hK hP 0 rfl rfl 13 (by decide) (hts (.fieldLink RX8 259 "YamRiders" "lineLength" "I") (by decide +kernel)) (fun _ h9 => h9) rfl dX8_sendLine_4 ?_
      refine lv_icmp_ge (tgt := 38) hx hb dX8_sendLine_7 (by decide) (fun c_2 => ?_) (fun c_2 => ?_)
      · have hke : k = ll9 := by
          have h9 := (nI_leI (by omega) (by omega)).mp c_2
          omega
        have hP9 := hP.part (cx := [(h0, .inr (8, [.ref a1, .ref a2, .ref a3, .ref a4, .ref a5, .ref a6, .ref a7, .ref a8, .ref a9, .int j_faultKind, .int j_horseCount, .int j_tabletCount, .int j_riderCount, .int (nI ll9), .int j_hour]))]) [0] rfl
        have hD9 := hD.part (cx := [(h0, .inr (8, [.ref a1, .ref a2, .ref a3, .ref a4, .ref a5, .ref a6, .ref a7, .ref a8, .ref a9, .int j_faultKind, .int j_horseCount, .int j_tabletCount, .int j_riderCount, .int (nI ll9), .int j_hour]))]) [0] (by decide) rfl
        have hK9 := hK.sub (tys' := []) [] rfl
        refine W.widen (k := 0) (n := 0) (Nat.le_of_ble_eq_true rfl) (Nat.le_of_ble_eq_true rfl) ?_
        exact W.vret hx hb hr (fun t9 ht hW => ⟨⟨(), rfl, trivial, f_1, hT, by rw [ht]; exact hP9, va_K.moved hW.alike hK9, hD9⟩, hS.F ht⟩) hS.2.2 dX8_sendLine_38
      · have hlt : k < ll9 := Decidable.byContradiction fun q => c_2 (nI_le (by omega) (by omega))
        refine lv_iload_n hx hb dX8_sendLine_10 rfl (lv_at hl 1 rfl) ?_
        refine lv_bipush (v := 60) hx hb dX8_sendLine_11 (by decide) ?_
        refine lv_icmp_ge (tgt := 38) hx hb dX8_sendLine_13 (by decide) (fun c_3 => ?_) (fun c_3 => ?_)
        · have hke : k = 60 := by
            rcases Nat.lt_or_ge k 60 with q | q
            · exact absurd c_3 (nI_ge q (by decide))
            · omega
          have hP9 := hP.part (cx := [(h0, .inr (8, [.ref a1, .ref a2, .ref a3, .ref a4, .ref a5, .ref a6, .ref a7, .ref a8, .ref a9, .int j_faultKind, .int j_horseCount, .int j_tabletCount, .int j_riderCount, .int (nI ll9), .int j_hour]))]) [0] rfl
          have hD9 := hD.part (cx := [(h0, .inr (8, [.ref a1, .ref a2, .ref a3, .ref a4, .ref a5, .ref a6, .ref a7, .ref a8, .ref a9, .int j_faultKind, .int j_horseCount, .int j_tabletCount, .int j_riderCount, .int (nI ll9), .int j_hour]))]) [0] (by decide) rfl
          have hK9 := hK.sub (tys' := []) [] rfl
          refine W.widen (k := 0) (n := 0) (Nat.le_of_ble_eq_true rfl) (Nat.le_of_ble_eq_true rfl) ?_
          exact W.vret hx hb hr (fun t9 ht hW => ⟨⟨(), rfl, trivial, f_1, hT, by rw [ht]; exact hP9, va_K.moved hW.alike hK9, hD9⟩, hS.F ht⟩) hS.2.2 dX8_sendLine_38
        · have hlt : k < 60 := by
            rcases Nat.lt_or_ge k 60 with q | q
            · exact q
            · exact absurd (show nI 60 ≤ nI k from nI_le q (by omega)) c_3
          refine lv_aload_n hx hb dX8_sendLine_16 rfl (lv_at hl 0 rfl) ?_
          refine va_get (D := (dC, dI)) (ci := 8) (v := .ref a8) (C := RX8) (T := TX8) (N := 15) hx hb hts hin8 hown hK hP 0 rfl rfl 7 (by decide) (hts (.fieldLink RX8 52 "YamRiders" "line" "[LYamRiders$Rider;") (by decide +kernel)) (fun _ h9 => h9) rfl dX8_sendLine_17 ?_
          refine lv_iload_n hx hb dX8_sendLine_20 rfl (lv_at hl 1 rfl) ?_
          obtain ⟨g_5, hf_4, hr_6⟩ := hT.get hY.2.2.2.2.2.2.1
          obtain ⟨q_7, hq_7⟩ := pl_at (X := [(h0, .inr (8, [.ref a1, .ref a2, .ref a3, .ref a4, .ref a5, .ref a6, .ref a7, .ref a8, .ref a9, .int j_faultKind, .int j_horseCount, .int j_tabletCount, .int j_riderCount, .int (nI ll9), .int j_hour]))]) (f := f_1) (e := .inl (cs 5, 60, .inr (.inr (.inr (.inr g_5))))) hY.2.2.2.2.2.2.1.1 hf_4
          refine va_aldq hx hb hK hP q_7 5 hq_7 rfl (vp_in_nI hlt (by decide)) dX8_sendLine_21 ?_
          rcases hr_o_8 : g_5 (nI k).toNatClampNeg with _ | o_8
          · refine W.eq (g2 := F0 m 22 ls [.null]) rfl ?_
            refine lv_astore_nN (lv' := [(2, .null), (0, .ref h0), (1, .int (nI k))]) hx hb dX8_sendLine_22 rfl hl (by decide) rfl (fun ls hl => ?_)
            refine lv_aload_nN hx hb dX8_sendLine_23 rfl (lv_at hl 0 rfl) ?_
            refine lv_ifnullN (tgt := 32) hx hb dX8_sendLine_24 (by decide) ?_
            refine lv_iinc (v := nI (k + 1)) (lv' := [(1, .int (nI (k + 1))), (2, .null), (0, .ref h0)]) hx hb dX8_sendLine_32 hl (k := 2) rfl (by exact (nI_1 k)) (by decide) rfl (fun ls hl => ?_)
            refine lv_goto (tgt := 2) hx hb dX8_sendLine_35 (by decide) ?_
            exact ih (k + 1) (by omega) (by omega) _ _ _ hT (hP.part (cx := _) [0] rfl) (hD.part (cx := _) [0] (by decide) rfl) hS ls (lv_sub hl [2, 0] rfl)
          · have hk_o_8 := hr_6 _ _ hr_o_8
            refine W.eq (g2 := F0 m 22 ls [.ref o_8]) rfl ?_
            refine lv_astore_n (lv' := [(2, .ref o_8), (0, .ref h0), (1, .int (nI k))]) hx hb dX8_sendLine_22 rfl hl (by decide) rfl (fun ls hl => ?_)
            refine lv_aload_n hx hb dX8_sendLine_23 rfl (lv_at hl 0 rfl) ?_
            refine lv_ifnull hx hb dX8_sendLine_24 ?_
            refine lv_aload_n hx hb dX8_sendLine_27 rfl (lv_at hl 1 rfl) ?_
            refine lv_aload_n hx hb dX8_sendLine_28 rfl (lv_at hl 0 rfl) ?_
            have hPc := hP.part (cx := [(h0, .inr (8, [.ref a1, .ref a2, .ref a3, .ref a4, .ref a5, .ref a6, .ref a7, .ref a8, .ref a9, .int j_faultKind, .int j_horseCount, .int j_tabletCount, .int j_riderCount, .int (nI ll9), .int j_hour]))]) [0] rfl
            have hDc := hD.part (cx := [(h0, .inr (8, [.ref a1, .ref a2, .ref a3, .ref a4, .ref a5, .ref a6, .ref a7, .ref a8, .ref a9, .int j_faultKind, .int j_horseCount, .int j_tabletCount, .int j_riderCount, .int (nI ll9), .int j_hour]))]) [0] (by decide) rfl
            have hKc := hK
            have hFc := va_freeP (cx := [(h0, .inr (8, [.ref a1, .ref a2, .ref a3, .ref a4, .ref a5, .ref a6, .ref a7, .ref a8, .ref a9, .int j_faultKind, .int j_horseCount, .int j_tabletCount, .int j_riderCount, .int (nI ll9), .int j_hour]))]) hD hS hA [0] rfl
            refine va_callv (va_runV (As := [.ref o_8]) (rest := []) ⟨hx, hb, hml, hown, hts⟩ (t_X8_send l dC dI cs L ka f_1 h0 a1 a2 a3 a4 a5 a6 a7 a8 a9 j_faultKind j_horseCount j_tabletCount j_riderCount (nI ll9) j_hour o_8 H.size hT hY hk_o_8) (cwV 1 hts gX8_sendLine_X8_send rfl rfl rfl (by decide +kernel) ⟨Nat.le_of_ble_eq_true rfl, Nat.le_of_ble_eq_true rfl⟩) ⟨c_blind, va_recv hKc hPc (ci := 8) (q0 := 0) rfl rfl, c_pre hPc hKc hDc hN⟩ rfl rfl hl.1 rfl (lv_room (Nat.le_of_ble_eq_true rfl)) dX8_sendLine_29 ⟨Nat.le_of_ble_eq_true rfl, Nat.le_of_ble_eq_true rfl⟩) hS (fun q _ h => hFc q h) hFc (fun u9 t9 H1 locs ht hvm hw hB hz1 hk1 hS => ?_)
            obtain ⟨f_10, hf_x_11, hP1, hK1, hD1⟩ := hB
            rw [ht] at hP1
            have hK1 := va_K.moved hvm.symm hK1
            obtain ⟨hP, hD⟩ := va_joinP (X := [(h0, .inr (8, [.ref a1, .ref a2, .ref a3, .ref a4, .ref a5, .ref a6, .ref a7, .ref a8, .ref a9, .int j_faultKind, .int j_horseCount, .int j_tabletCount, .int j_riderCount, .int (nI ll9), .int j_hour]))]) (cx := [(h0, .inr (8, [.ref a1, .ref a2, .ref a3, .ref a4, .ref a5, .ref a6, .ref a7, .ref a8, .ref a9, .int j_faultKind, .int j_horseCount, .int j_tabletCount, .int j_riderCount, .int (nI ll9), .int j_hour]))]) (wr := []) (rx := [(h0, .inr (8, [.ref a1, .ref a2, .ref a3, .ref a4, .ref a5, .ref a6, .ref a7, .ref a8, .ref a9, .int j_faultKind, .int j_horseCount, .int j_tabletCount, .int j_riderCount, .int (nI ll9), .int j_hour]))]) (pl := va_pl L f_1) (pl1 := va_pl L f_10) hP hD [0] [] rfl rfl (by decide) (by decide) hk1 hFc hP1 hD1
            have hT := hf_x_11
            generalize H1 = H at hP hS ⊢
            have hP : va_P (dC, dI) vwCl ([(h0, .inr (8, [.ref a1, .ref a2, .ref a3, .ref a4, .ref a5, .ref a6, .ref a7, .ref a8, .ref a9, .int j_faultKind, .int j_horseCount, .int j_tabletCount, .int j_riderCount, .int (nI ll9), .int j_hour]))] ++ va_pl L f_10) H := hP
            have hD : va_D A ([(h0, .inr (8, [.ref a1, .ref a2, .ref a3, .ref a4, .ref a5, .ref a6, .ref a7, .ref a8, .ref a9, .int j_faultKind, .int j_horseCount, .int j_tabletCount, .int j_riderCount, .int (nI ll9), .int j_hour]))] ++ va_pl L f_10) := hD
            refine W.widen (k := 0) (n := 0) (Nat.le_of_ble_eq_true rfl) (Nat.le_of_ble_eq_true rfl) ?_
            refine lv_iinc (v := nI (k + 1)) (lv' := [(1, .int (nI (k + 1))), (2, .ref o_8), (0, .ref h0)]) hx hb dX8_sendLine_32 hl (k := 2) rfl (by exact (nI_1 k)) (by decide) rfl (fun ls hl => ?_)
            refine lv_goto (tgt := 2) hx hb dX8_sendLine_35 (by decide) ?_
            exact ih (k + 1) (by omega) (by omega) _ _ _ hT (hP.part (cx := _) [0] rfl) (hD.part (cx := _) [0] (by decide) rfl) hS ls (lv_sub hl [2, 0] rfl)
  exact HL (ll9 + 1) 0 (by omega) (by omega) _ _ _ hT (hP.part (cx := [(h0, .inr (8, [.ref a1, .ref a2, .ref a3, .ref a4, .ref a5, .ref a6, .ref a7, .ref a8, .ref a9, .int j_faultKind, .int j_horseCount, .int j_tabletCount, .int j_riderCount, .int (nI ll9), .int j_hour]))]) [0] rfl) (hD.part (cx := [(h0, .inr (8, [.ref a1, .ref a2, .ref a3, .ref a4, .ref a5, .ref a6, .ref a7, .ref a8, .ref a9, .int j_faultKind, .int j_horseCount, .int j_tabletCount, .int j_riderCount, .int (nI ll9), .int j_hour]))]) [0] (by decide) rfl) hS ls (lv_sub hl [1, 0] rfl)
