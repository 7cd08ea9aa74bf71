set_option maxHeartbeats 4000000 in
set_option maxRecDepth 100000 in
theorem g_X2_lastStation_n (l : Launch) (dC : Nat → ClassId) (dI : Nat → Nat → Nat) (h0 : Nat) (s1 : Nat) (s2 : Nat) (o_tablet : Int32) (o_rank : Int32) (o_state : Int32) (o_reached : Int32) (o_came : Int32) (o_left : Int32) (o_time : Int32) (k1 : ClassId) (a_w : Nat → Int32) (wn9 : Nat) (sz : Nat) (hwn9 : wn9 ≤ 12) : Met l yX2_lastStation wsX2_lastStation ({ frames := 1, cells := 0, slots := 0, locals := 21 }) (va_Pc [.ref h0] (cP dC dI [(h0, .inr (2, [.int o_tablet, .int o_rank, .ref s1, .ref s2, .int o_state, .int o_reached, .int o_came, .null, .int o_left, .int o_time])), (s1, .inl (k1, wn9, .inl a_w))] [(k1, .int)] sz)) (vp_Si (fun r => r = (if (o_reached - 1) < 0 then (-1) else (if (nI wn9) ≤ (o_reached - 1) then (-1) else a_w (o_reached - 1).toNatClampNeg)))) 0 0 (fun _ => False) := by
  refine Met.ofW (cc := cX2_lastStation) (maxL := 1) (ret := (some .int)) (by decide) rfl ?_
  intro p e s m args below meth c s₁ B hml hv
  obtain ⟨rfl, hsz, hP, hK, hD0, hN⟩ := hv
  have hx := B.exec
  have hb := B.bytes
  have hr := B.returns
  have hts := atoms_spec (ws := wsX2_lastStation) B.pre
  have hown : s.vm.findClass RX2 = some m.cls := findClass_of_methodNamed B.named
  have hlocks := B.notSynchronized
  subst hsz
  have hin2 : ∀ w ∈ u_ws RX2 TX2 10, w ∈ wsX2_lastStation := by decide +kernel
  have hD := hD0
  have hP : va_P (dC, dI) vwCl [(h0, .inr (2, [.int o_tablet, .int o_rank, .ref s1, .ref s2, .int o_state, .int o_reached, .int o_came, .null, .int o_left, .int o_time])), (s1, .inl (k1, wn9, .inl a_w))] s.heap := hP
  have hl := lv_entry ([.ref h0]) (n := 1) (Nat.le_of_ble_eq_true rfl)
  rw [lg_entry_eq]
  generalize (lg_sl ([.ref h0]) ++ List.replicate (1 - (lg_sl ([.ref h0])).length) Slot.unset).toArray = ls at hl ⊢
  have hl : lv_has ls 1 [(0, .ref h0)] := hl
  refine lv_aload_n hx hb dX2_lastStation_0 rfl (lv_at hl 0 rfl) ?_
  refine lv_aload_n hx hb dX2_lastStation_1 rfl (lv_at hl 0 rfl) ?_
  refine va_get (D := (dC, dI)) (ci := 2) (v := .int o_reached) (C := RX2) (T := TX2) (N := 10) hx hb hts hin2 hown hK hP 0 rfl rfl 5 (by decide) (hts (.fieldLink RX2 34 "YamRiders$Rider" "reached" "I") (by decide +kernel)) (fun _ h9 => h9) rfl dX2_lastStation_2 ?_
  refine lv_iconst (v := 1) hx hb dX2_lastStation_5 (by decide) ?_
  refine lv_isub hx hb dX2_lastStation_6 ?_
  have hPc := hP.sub (ws' := [(h0, .inr (2, [.int o_tablet, .int o_rank, .ref s1, .ref s2, .int o_state, .int o_reached, .int o_came, .null, .int o_left, .int o_time])), (s1, .inl (k1, wn9, .inl a_w))]) [0, 1] rfl
  have hDc := hD.sub (ws' := [(h0, .inr (2, [.int o_tablet, .int o_rank, .ref s1, .ref s2, .int o_state, .int o_reached, .int o_came, .null, .int o_left, .int o_time])), (s1, .inl (k1, wn9, .inl a_w))]) [0, 1] (by decide) rfl
  have hKc := hK.sub (tys' := [(k1, .int)]) [0] rfl
  refine cs_i (va_runV (As := [.int (o_reached - 1)]) (rest := []) ⟨hx, hb, hml, hown, hts⟩ (g_X2_stationOfWay_n l dC dI h0 s1 s2 o_tablet o_rank o_state o_reached o_came o_left o_time k1 a_w wn9 (o_reached - 1) s.heap.size hwn9) (cwV 1 hts gX2_lastStation_X2_stationOfWay rfl rfl rfl (by decide +kernel) ⟨Nat.le_of_ble_eq_true rfl, Nat.le_of_ble_eq_true rfl⟩) ⟨c_blind, va_recv hKc hPc (ci := 2) (q0 := 0) rfl rfl, c_pre hPc hKc hDc hN⟩ rfl rfl hl.1 rfl (lv_room (Nat.le_of_ble_eq_true rfl)) dX2_lastStation_7 ⟨Nat.le_of_ble_eq_true rfl, Nat.le_of_ble_eq_true rfl⟩) (fun r_1 hr_1 => ?_)
  subst hr_1
  exact W.iret (v := (if (o_reached - 1) < 0 then (-1) else (if (nI wn9) ≤ (o_reached - 1) then (-1) else a_w (o_reached - 1).toNatClampNeg))) hx hb hr (fun t9 ht hW => ⟨_, rfl, rfl, ht⟩) (fun q h => nomatch h) dX2_lastStation_10

set_option maxHeartbeats 4000000 in
set_option maxRecDepth 100000 in
theorem g_X2_nextStation_n (l : Launch) (dC : Nat → ClassId) (dI : Nat → Nat → Nat) (h0 : Nat) (s1 : Nat) (s2 : Nat) (o_tablet : Int32) (o_rank : Int32) (o_state : Int32) (o_reached : Int32) (o_came : Int32) (o_left : Int32) (o_time : Int32) (k1 : ClassId) (a_w : Nat → Int32) (wn9 : Nat) (sz : Nat) (hwn9 : wn9 ≤ 12) : Met l yX2_nextStation wsX2_nextStation ({ frames := 1, cells := 0, slots := 0, locals := 21 }) (va_Pc [.ref h0] (cP dC dI [(h0, .inr (2, [.int o_tablet, .int o_rank, .ref s1, .ref s2, .int o_state, .int o_reached, .int o_came, .null, .int o_left, .int o_time])), (s1, .inl (k1, wn9, .inl a_w))] [(k1, .int)] sz)) (vp_Si (fun r => r = (if o_reached < 0 then (-1) else (if (nI wn9) ≤ o_reached then (-1) else a_w o_reached.toNatClampNeg)))) 0 0 (fun _ => False) := by
  refine Met.ofW (cc := cX2_nextStation) (maxL := 1) (ret := (some .int)) (by decide) rfl ?_
  intro p e s m args below meth c s₁ B hml hv
  obtain ⟨rfl, hsz, hP, hK, hD0, hN⟩ := hv
  have hx := B.exec
  have hb := B.bytes
  have hr := B.returns
  have hts := atoms_spec (ws := wsX2_nextStation) B.pre
  have hown : s.vm.findClass RX2 = some m.cls := findClass_of_methodNamed B.named
  have hlocks := B.notSynchronized
  subst hsz
  have hin2 : ∀ w ∈ u_ws RX2 TX2 10, w ∈ wsX2_nextStation := by decide +kernel
  have hD := hD0
  have hP : va_P (dC, dI) vwCl [(h0, .inr (2, [.int o_tablet, .int o_rank, .ref s1, .ref s2, .int o_state, .int o_reached, .int o_came, .null, .int o_left, .int o_time])), (s1, .inl (k1, wn9, .inl a_w))] s.heap := hP
  have hl := lv_entry ([.ref h0]) (n := 1) (Nat.le_of_ble_eq_true rfl)
  rw [lg_entry_eq]
  generalize (lg_sl ([.ref h0]) ++ List.replicate (1 - (lg_sl ([.ref h0])).length) Slot.unset).toArray = ls at hl ⊢
  have hl : lv_has ls 1 [(0, .ref h0)] := hl
  refine lv_aload_n hx hb dX2_nextStation_0 rfl (lv_at hl 0 rfl) ?_
  refine lv_aload_n hx hb dX2_nextStation_1 rfl (lv_at hl 0 rfl) ?_
  refine va_get (D := (dC, dI)) (ci := 2) (v := .int o_reached) (C := RX2) (T := TX2) (N := 10) hx hb hts hin2 hown hK hP 0 rfl rfl 5 (by decide) (hts (.fieldLink RX2 34 "YamRiders$Rider" "reached" "I") (by decide +kernel)) (fun _ h9 => h9) rfl dX2_nextStation_2 ?_
  have hPc := hP.sub (ws' := [(h0, .inr (2, [.int o_tablet, .int o_rank, .ref s1, .ref s2, .int o_state, .int o_reached, .int o_came, .null, .int o_left, .int o_time])), (s1, .inl (k1, wn9, .inl a_w))]) [0, 1] rfl
  have hDc := hD.sub (ws' := [(h0, .inr (2, [.int o_tablet, .int o_rank, .ref s1, .ref s2, .int o_state, .int o_reached, .int o_came, .null, .int o_left, .int o_time])), (s1, .inl (k1, wn9, .inl a_w))]) [0, 1] (by decide) rfl
  have hKc := hK.sub (tys' := [(k1, .int)]) [0] rfl
  refine cs_i (va_runV (As := [.int o_reached]) (rest := []) ⟨hx, hb, hml, hown, hts⟩ (g_X2_stationOfWay_n l dC dI h0 s1 s2 o_tablet o_rank o_state o_reached o_came o_left o_time k1 a_w wn9 o_reached s.heap.size hwn9) (cwV 1 hts gX2_nextStation_X2_stationOfWay rfl rfl rfl (by decide +kernel) ⟨Nat.le_of_ble_eq_true rfl, Nat.le_of_ble_eq_true rfl⟩) ⟨c_blind, va_recv hKc hPc (ci := 2) (q0 := 0) rfl rfl, c_pre hPc hKc hDc hN⟩ rfl rfl hl.1 rfl (lv_room (Nat.le_of_ble_eq_true rfl)) dX2_nextStation_5 ⟨Nat.le_of_ble_eq_true rfl, Nat.le_of_ble_eq_true rfl⟩) (fun r_1 hr_1 => ?_)
  subst hr_1
  exact W.iret (v := (if o_reached < 0 then (-1) else (if (nI wn9) ≤ o_reached then (-1) else a_w o_reached.toNatClampNeg))) hx hb hr (fun t9 ht hW => ⟨_, rfl, rfl, ht⟩) (fun q h => nomatch h) dX2_nextStation_8

set_option maxHeartbeats 4000000 in
set_option maxRecDepth 100000 in
theorem g_X2_comeTo_n (l : Launch) (dC : Nat → ClassId) (dI : Nat → Nat → Nat) (h0 : Nat) (s1 : Nat) (s2 : Nat) (o_tablet : Int32) (o_rank : Int32) (o_state : Int32) (o_reached : Int32) (o_came : Int32) (o_left : Int32) (o_time : Int32) (k1 : ClassId) (a_w : Nat → Int32) (wn9 : Nat) (k2 : ClassId) (a_v : Nat → Int32) (p0 : Int32) (sz : Nat) (hwn9 : wn9 ≤ 12) : Met l yX2_comeToNextStation wsX2_comeToNextStation ({ frames := 2, cells := 0, slots := 0, locals := 41 }) (va_Pc [.ref h0, .int p0] (cP dC dI [(h0, .inr (2, [.int o_tablet, .int o_rank, .ref s1, .ref s2, .int o_state, .int o_reached, .int o_came, .null, .int o_left, .int o_time])), (s1, .inl (k1, wn9, .inl a_w)), (s2, .inl (k2, 12, .inl a_v))] [(k1, .int), (k2, .int)] sz)) (va_Qv (fun (_ : Unit) => True) (fun (_ : Unit) t9 => ∃ (v1 : Int32) (v2 : Int32) (v3 : Int32) (f2 : Nat → Int32), (v1 = (if (sp_st (if o_reached < 0 then (-1) else (if (nI wn9) ≤ o_reached then (-1) else a_w o_reached.toNatClampNeg))) = 0 then o_state else (if (nI wn9) ≤ (o_reached + 1) then 2 else 0))) ∧ (v2 = (if (sp_st (if o_reached < 0 then (-1) else (if (nI wn9) ≤ o_reached then (-1) else a_w o_reached.toNatClampNeg))) = 0 then o_reached else (if (nI wn9) ≤ (o_reached + 1) then o_reached + 1 else o_reached + 1))) ∧ (v3 = (if (sp_st (if o_reached < 0 then (-1) else (if (nI wn9) ≤ o_reached then (-1) else a_w o_reached.toNatClampNeg))) = 0 then o_came else (if (nI wn9) ≤ (o_reached + 1) then p0 else p0))) ∧ (f2 = (if (sp_st (if o_reached < 0 then (-1) else (if (nI wn9) ≤ o_reached then (-1) else a_w o_reached.toNatClampNeg))) = 0 then a_v else (if (nI wn9) ≤ (o_reached + 1) then upd a_v (if o_reached < 0 then (-1) else (if (nI wn9) ≤ o_reached then (-1) else a_w o_reached.toNatClampNeg)).toNatClampNeg p0 else upd a_v (if o_reached < 0 then (-1) else (if (nI wn9) ≤ o_reached then (-1) else a_w o_reached.toNatClampNeg)).toNatClampNeg p0))) ∧ cQ dC dI [(h0, .inr (2, [.int o_tablet, .int o_rank, .ref s1, .ref s2, .int v1, .int v2, .int v3, .null, .int o_left, .int o_time])), (s1, .inl (k1, wn9, .inl a_w)), (s2, .inl (k2, 12, .inl f2))] [] (va_A [(h0, .inr (2, [.int o_tablet, .int o_rank, .ref s1, .ref s2, .int o_state, .int o_reached, .int o_came, .null, .int o_left, .int o_time])), (s1, .inl (k1, wn9, .inl a_w)), (s2, .inl (k2, 12, .inl a_v))] sz) t9) (va_A [(h0, .inr (2, [.int o_tablet, .int o_rank, .ref s1, .ref s2, .int o_state, .int o_reached, .int o_came, .null, .int o_left, .int o_time])), (s1, .inl (k1, wn9, .inl a_w)), (s2, .inl (k2, 12, .inl a_v))] sz)) 0 0 (va_A [(h0, .inr (2, [.int o_tablet, .int o_rank, .ref s1, .ref s2, .int o_state, .int o_reached, .int o_came, .null, .int o_left, .int o_time])), (s1, .inl (k1, wn9, .inl a_w)), (s2, .inl (k2, 12, .inl a_v))] sz) := by
  refine Met.ofW (cc := cX2_comeToNextStation) (maxL := 3) (ret := none) (by decide) rfl ?_
  intro p e s m args below meth c s₁ B hml hv
  obtain ⟨rfl, hsz, hP, hK, hD0, hN⟩ := hv
  have hx := B.exec
  have hb := B.bytes
  have hr := B.returns
  have hts := atoms_spec (ws := wsX2_comeToNextStation) B.pre
  have hown : s.vm.findClass RX2 = some m.cls := findClass_of_methodNamed B.named
  have hlocks := B.notSynchronized
  subst hsz
  have hin2 : ∀ w ∈ u_ws RX2 TX2 10, w ∈ wsX2_comeToNextStation := by decide +kernel
  have hD := hD0.self (sz := s.heap.size)
  generalize hAe : va_A [(h0, .inr (2, [.int o_tablet, .int o_rank, .ref s1, .ref s2, .int o_state, .int o_reached, .int o_came, .null, .int o_left, .int o_time])), (s1, .inl (k1, wn9, .inl a_w)), (s2, .inl (k2, 12, .inl a_v))] s.heap.size = A at hD ⊢
  have hA : ∀ q : Nat, s.heap.size ≤ q → A q := fun q h => by rw [← hAe]; exact Or.inr h
  have hS : va_S A s.heap s.heap [] := va_S.rf
  have hP : va_P (dC, dI) vwCl [(h0, .inr (2, [.int o_tablet, .int o_rank, .ref s1, .ref s2, .int o_state, .int o_reached, .int o_came, .null, .int o_left, .int o_time])), (s1, .inl (k1, wn9, .inl a_w)), (s2, .inl (k2, 12, .inl a_v))] s.heap := hP
  have hl := lv_entry ([.ref h0, .int p0]) (n := 3) (Nat.le_of_ble_eq_true rfl)
  rw [lg_entry_eq]
  generalize (lg_sl ([.ref h0, .int p0]) ++ List.replicate (3 - (lg_sl ([.ref h0, .int p0])).length) Slot.unset).toArray = ls at hl ⊢
  have hl : lv_has ls 3 [(0, .ref h0), (1, .int p0)] := hl
  refine lv_aload_n hx hb dX2_comeToNextStation_0 rfl (lv_at hl 0 rfl) ?_
  have hPc := hP.sub (ws' := [(h0, .inr (2, [.int o_tablet, .int o_rank, .ref s1, .ref s2, .int o_state, .int o_reached, .int o_came, .null, .int o_left, .int o_time])), (s1, .inl (k1, wn9, .inl a_w))]) [0, 1] rfl
  have hDc := hD.sub (ws' := [(h0, .inr (2, [.int o_tablet, .int o_rank, .ref s1, .ref s2, .int o_state, .int o_reached, .int o_came, .null, .int o_left, .int o_time])), (s1, .inl (k1, wn9, .inl a_w))]) [0, 1] (by decide) rfl
  have hKc := hK.sub (tys' := [(k1, .int)]) [0] rfl
  refine cs_i (va_runV (As := []) (rest := []) ⟨hx, hb, hml, hown, hts⟩ (g_X2_nextStation_n l dC dI h0 s1 s2 o_tablet o_rank o_state o_reached o_came o_left o_time k1 a_w wn9 s.heap.size hwn9) (cwV 0 hts gX2_comeToNextStation_X2_nextStation rfl rfl rfl (by decide +kernel) ⟨Nat.le_of_ble_eq_true rfl, Nat.le_of_ble_eq_true rfl⟩) ⟨c_blind, va_recv hKc hPc (ci := 2) (q0 := 0) rfl rfl, c_pre hPc hKc hDc hN⟩ rfl rfl hl.1 rfl (lv_room (Nat.le_of_ble_eq_true rfl)) dX2_comeToNextStation_1 ⟨Nat.le_of_ble_eq_true rfl, Nat.le_of_ble_eq_true rfl⟩) (fun r_1 hr_1 => ?_)
  subst hr_1
  refine lv_istore_n (lv' := [(2, .int (if o_reached < 0 then (-1) else (if (nI wn9) ≤ o_reached then (-1) else a_w o_reached.toNatClampNeg))), (0, .ref h0), (1, .int p0)]) hx hb dX2_comeToNextStation_4 rfl hl (by decide) rfl (fun ls hl => ?_)
  refine lv_iload_n hx hb dX2_comeToNextStation_5 rfl (lv_at hl 0 rfl) ?_
  have hPc := hP.sub (ws' := []) [] rfl
  have hDc := hD.sub (ws' := []) [] (by decide) rfl
  have hKc := hK.sub (tys' := []) [] rfl
  refine cs_i (va_runSN (As := [.int (if o_reached < 0 then (-1) else (if (nI wn9) ≤ o_reached then (-1) else a_w o_reached.toNatClampNeg))]) (rest := []) ⟨hx, hb, hml, hown, hts⟩ (c_X8_isStation l dC dI (if o_reached < 0 then (-1) else (if (nI wn9) ≤ o_reached then (-1) else a_w o_reached.toNatClampNeg)) s.heap.size) ⟨va_cnB 1 hts ggX2_comeToNextStation_X8_isStation rfl rfl rfl (hN.1 (.methodLinkNest RX2 41 yX8_isStation "YamRiders") (by decide +kernel)) (hts (.initialized RX8) (by decide +kernel)) (by decide +kernel) ⟨Nat.le_of_ble_eq_true rfl, Nat.le_of_ble_eq_true rfl⟩, hts (.static yX8_isStation) (by decide +kernel), trivial⟩ ⟨c_blind, c_pre hPc hKc hDc hN⟩ rfl rfl hl.1 rfl (lv_room (Nat.le_of_ble_eq_true rfl)) dX2_comeToNextStation_6 ⟨Nat.le_of_ble_eq_true rfl, Nat.le_of_ble_eq_true rfl⟩) (fun r_2 hr_2 => ?_)
  subst hr_2
  refine lv_if_ne (tgt := 13) hx hb dX2_comeToNextStation_9 (by decide) (fun c_3 => ?_) (fun c_3 => ?_)
  · refine lv_aload_n hx hb dX2_comeToNextStation_13 rfl (lv_at hl 1 rfl) ?_
    refine va_get (D := (dC, dI)) (ci := 2) (v := .ref s2) (C := RX2) (T := TX2) (N := 10) hx hb hts hin2 hown hK hP 0 rfl rfl 3 (by decide) (hts (.fieldLink RX2 9 "YamRiders$Rider" "newsSince" "[I") (by decide +kernel)) (fun _ h9 => h9) rfl dX2_comeToNextStation_14 ?_
    refine lv_iload_n hx hb dX2_comeToNextStation_17 rfl (lv_at hl 0 rfl) ?_
    refine lv_iload_n hx hb dX2_comeToNextStation_18 rfl (lv_at hl 2 rfl) ?_
    refine va_iast hx hb hK hP hD hS 2 1 rfl rfl (st_in c_3) dX2_comeToNextStation_19 (fun H locs hP hD hS => ?_)
    have hP : va_P (dC, dI) vwCl [(h0, .inr (2, [.int o_tablet, .int o_rank, .ref s1, .ref s2, .int o_state, .int o_reached, .int o_came, .null, .int o_left, .int o_time])), (s1, .inl (k1, wn9, .inl a_w)), (s2, .inl (k2, 12, .inl (upd a_v (if o_reached < 0 then (-1) else (if (nI wn9) ≤ o_reached then (-1) else a_w o_reached.toNatClampNeg)).toNatClampNeg p0)))] H := hP
    have hD : va_D A [(h0, .inr (2, [.int o_tablet, .int o_rank, .ref s1, .ref s2, .int o_state, .int o_reached, .int o_came, .null, .int o_left, .int o_time])), (s1, .inl (k1, wn9, .inl a_w)), (s2, .inl (k2, 12, .inl (upd a_v (if o_reached < 0 then (-1) else (if (nI wn9) ≤ o_reached then (-1) else a_w o_reached.toNatClampNeg)).toNatClampNeg p0)))] := hD
    obtain ⟨f_4, ef_4⟩ : ∃ w9 : Nat → Int32, w9 = upd a_v (if o_reached < 0 then (-1) else (if (nI wn9) ≤ o_reached then (-1) else a_w o_reached.toNatClampNeg)).toNatClampNeg p0 := ⟨_, rfl⟩
    rw [← ef_4] at hP hD
    refine lv_aload_n hx hb dX2_comeToNextStation_20 rfl (lv_at hl 1 rfl) ?_
    refine lv_iload_n hx hb dX2_comeToNextStation_21 rfl (lv_at hl 2 rfl) ?_
    refine va_put (D := (dC, dI)) (ci := 2) (v := .int p0) (ty := (tyX2 6)) (C := RX2) (T := TX2) (N := 10) hx hb hts hin2 tyX2 tyX2_ok nmX2 hown hK hP hD hS 0 rfl rfl 6 (by decide) (hts (.fieldLink RX2 64 "YamRiders$Rider" "came" "I") (by decide +kernel)) (fun _ h9 => h9) rfl (by decide +kernel) rfl rfl (Nat.le_of_ble_eq_true rfl) dX2_comeToNextStation_22 (fun H locs hP hD hS => ?_)
    have hP : va_P (dC, dI) vwCl [(h0, .inr (2, [.int o_tablet, .int o_rank, .ref s1, .ref s2, .int o_state, .int o_reached, .int p0, .null, .int o_left, .int o_time])), (s1, .inl (k1, wn9, .inl a_w)), (s2, .inl (k2, 12, .inl f_4))] H := hP
    have hD : va_D A [(h0, .inr (2, [.int o_tablet, .int o_rank, .ref s1, .ref s2, .int o_state, .int o_reached, .int p0, .null, .int o_left, .int o_time])), (s1, .inl (k1, wn9, .inl a_w)), (s2, .inl (k2, 12, .inl f_4))] := hD
    refine lv_aload_n hx hb dX2_comeToNextStation_25 rfl (lv_at hl 1 rfl) ?_
    refine lv_dup hx hb dX2_comeToNextStation_26 rfl ?_
    refine va_get (D := (dC, dI)) (ci := 2) (v := .int o_reached) (C := RX2) (T := TX2) (N := 10) hx hb hts hin2 hown hK hP 0 rfl rfl 5 (by decide) (hts (.fieldLink RX2 34 "YamRiders$Rider" "reached" "I") (by decide +kernel)) (fun _ h9 => h9) rfl dX2_comeToNextStation_27 ?_
    refine lv_iconst (v := 1) hx hb dX2_comeToNextStation_30 (by decide) ?_
    refine lv_iadd hx hb dX2_comeToNextStation_31 ?_
    refine va_put (D := (dC, dI)) (ci := 2) (v := .int (o_reached + 1)) (ty := (tyX2 5)) (C := RX2) (T := TX2) (N := 10) hx hb hts hin2 tyX2 tyX2_ok nmX2 hown hK hP hD hS 0 rfl rfl 5 (by decide) (hts (.fieldLink RX2 34 "YamRiders$Rider" "reached" "I") (by decide +kernel)) (fun _ h9 => h9) rfl (by decide +kernel) rfl rfl (Nat.le_of_ble_eq_true rfl) dX2_comeToNextStation_32 (fun H locs hP hD hS => ?_)
    have hP : va_P (dC, dI) vwCl [(h0, .inr (2, [.int o_tablet, .int o_rank, .ref s1, .ref s2, .int o_state, .int (o_reached + 1), .int p0, .null, .int o_left, .int o_time])), (s1, .inl (k1, wn9, .inl a_w)), (s2, .inl (k2, 12, .inl f_4))] H := hP
    have hD : va_D A [(h0, .inr (2, [.int o_tablet, .int o_rank, .ref s1, .ref s2, .int o_state, .int (o_reached + 1), .int p0, .null, .int o_left, .int o_time])), (s1, .inl (k1, wn9, .inl a_w)), (s2, .inl (k2, 12, .inl f_4))] := hD
    refine lv_aload_n hx hb dX2_comeToNextStation_35 rfl (lv_at hl 1 rfl) ?_
    refine lv_aload_n hx hb dX2_comeToNextStation_36 rfl (lv_at hl 1 rfl) ?_
    refine va_get (D := (dC, dI)) (ci := 2) (v := .int (o_reached + 1)) (C := RX2) (T := TX2) (N := 10) hx hb hts hin2 hown hK hP 0 rfl rfl 5 (by decide) (hts (.fieldLink RX2 34 "YamRiders$Rider" "reached" "I") (by decide +kernel)) (fun _ h9 => h9) rfl dX2_comeToNextStation_37 ?_
    refine lv_aload_n hx hb dX2_comeToNextStation_40 rfl (lv_at hl 1 rfl) ?_
    refine va_get (D := (dC, dI)) (ci := 2) (v := .ref s1) (C := RX2) (T := TX2) (N := 10) hx hb hts hin2 hown hK hP 0 rfl rfl 2 (by decide) (hts (.fieldLink RX2 25 "YamRiders$Rider" "stations" "[I") (by decide +kernel)) (fun _ h9 => h9) rfl dX2_comeToNextStation_41 ?_
    refine va_alen (v := nI wn9) hx hb hK hP 1 0 rfl rfl rfl dX2_comeToNextStation_44 ?_
    refine lv_icmp_ge (tgt := 52) hx hb dX2_comeToNextStation_45 (by decide) (fun c_5 => ?_) (fun c_5 => ?_)
    · refine lv_iconst (v := 2) hx hb dX2_comeToNextStation_52 (by decide) ?_
      refine va_put (D := (dC, dI)) (ci := 2) (v := .int 2) (ty := (tyX2 4)) (C := RX2) (T := TX2) (N := 10) hx hb hts hin2 tyX2 tyX2_ok nmX2 hown hK hP hD hS 0 rfl rfl 4 (by decide) (hts (.fieldLink RX2 15 "YamRiders$Rider" "state" "I") (by decide +kernel)) (fun _ h9 => h9) rfl (by decide +kernel) rfl rfl (Nat.le_of_ble_eq_true rfl) dX2_comeToNextStation_53 (fun H locs hP hD hS => ?_)
      have hP : va_P (dC, dI) vwCl [(h0, .inr (2, [.int o_tablet, .int o_rank, .ref s1, .ref s2, .int 2, .int (o_reached + 1), .int p0, .null, .int o_left, .int o_time])), (s1, .inl (k1, wn9, .inl a_w)), (s2, .inl (k2, 12, .inl f_4))] H := hP
      have hD : va_D A [(h0, .inr (2, [.int o_tablet, .int o_rank, .ref s1, .ref s2, .int 2, .int (o_reached + 1), .int p0, .null, .int o_left, .int o_time])), (s1, .inl (k1, wn9, .inl a_w)), (s2, .inl (k2, 12, .inl f_4))] := hD
      have hP9 := hP.sub (ws' := [(h0, .inr (2, [.int o_tablet, .int o_rank, .ref s1, .ref s2, .int 2, .int (o_reached + 1), .int p0, .null, .int o_left, .int o_time])), (s1, .inl (k1, wn9, .inl a_w)), (s2, .inl (k2, 12, .inl f_4))]) [0, 1, 2] rfl
      have hD9 := hD.sub (ws' := [(h0, .inr (2, [.int o_tablet, .int o_rank, .ref s1, .ref s2, .int 2, .int (o_reached + 1), .int p0, .null, .int o_left, .int o_time])), (s1, .inl (k1, wn9, .inl a_w)), (s2, .inl (k2, 12, .inl f_4))]) [0, 1, 2] (by decide) rfl
      have hK9 := hK.sub (tys' := []) [] rfl
      refine W.widen (k := 0) (n := 0) (Nat.le_of_ble_eq_true rfl) (Nat.le_of_ble_eq_true rfl) ?_
      exact W.vret hx hb hr (fun t9 ht hW => ⟨⟨(), rfl, trivial, 2, (o_reached + 1), p0, f_4, (by first | rfl | simp only [if_neg c_3, if_pos c_5]), (by first | rfl | simp only [if_neg c_3, if_pos c_5]), (by first | rfl | simp only [if_neg c_3, if_pos c_5]), (by first | rfl | simp only [if_neg c_3, if_pos c_5, ef_4]), by rw [ht]; exact hP9, va_K.moved hW.alike hK9, hD9⟩, hS.F ht⟩) hS.2.2 dX2_comeToNextStation_56
    · refine lv_iconst (v := 0) hx hb dX2_comeToNextStation_48 (by decide) ?_
      refine lv_goto (tgt := 53) hx hb dX2_comeToNextStation_49 (by decide) ?_
      refine va_put (D := (dC, dI)) (ci := 2) (v := .int 0) (ty := (tyX2 4)) (C := RX2) (T := TX2) (N := 10) hx hb hts hin2 tyX2 tyX2_ok nmX2 hown hK hP hD hS 0 rfl rfl 4 (by decide) (hts (.fieldLink RX2 15 "YamRiders$Rider" "state" "I") (by decide +kernel)) (fun _ h9 => h9) rfl (by decide +kernel) rfl rfl (Nat.le_of_ble_eq_true rfl) dX2_comeToNextStation_53 (fun H locs hP hD hS => ?_)
      have hP : va_P (dC, dI) vwCl [(h0, .inr (2, [.int o_tablet, .int o_rank, .ref s1, .ref s2, .int 0, .int (o_reached + 1), .int p0, .null, .int o_left, .int o_time])), (s1, .inl (k1, wn9, .inl a_w)), (s2, .inl (k2, 12, .inl f_4))] H := hP
      have hD : va_D A [(h0, .inr (2, [.int o_tablet, .int o_rank, .ref s1, .ref s2, .int 0, .int (o_reached + 1), .int p0, .null, .int o_left, .int o_time])), (s1, .inl (k1, wn9, .inl a_w)), (s2, .inl (k2, 12, .inl f_4))] := hD
      have hP9 := hP.sub (ws' := [(h0, .inr (2, [.int o_tablet, .int o_rank, .ref s1, .ref s2, .int 0, .int (o_reached + 1), .int p0, .null, .int o_left, .int o_time])), (s1, .inl (k1, wn9, .inl a_w)), (s2, .inl (k2, 12, .inl f_4))]) [0, 1, 2] rfl
      have hD9 := hD.sub (ws' := [(h0, .inr (2, [.int o_tablet, .int o_rank, .ref s1, .ref s2, .int 0, .int (o_reached + 1), .int p0, .null, .int o_left, .int o_time])), (s1, .inl (k1, wn9, .inl a_w)), (s2, .inl (k2, 12, .inl f_4))]) [0, 1, 2] (by decide) rfl
      have hK9 := hK.sub (tys' := []) [] rfl
      refine W.widen (k := 0) (n := 0) (Nat.le_of_ble_eq_true rfl) (Nat.le_of_ble_eq_true rfl) ?_
      exact W.vret hx hb hr (fun t9 ht hW => ⟨⟨(), rfl, trivial, 0, (o_reached + 1), p0, f_4, (by first | rfl | simp only [if_neg c_3, if_neg c_5]), (by first | rfl | simp only [if_neg c_3, if_neg c_5]), (by first | rfl | simp only [if_neg c_3, if_neg c_5]), (by first | rfl | simp only [if_neg c_3, if_neg c_5, ef_4]), by rw [ht]; exact hP9, va_K.moved hW.alike hK9, hD9⟩, hS.F ht⟩) hS.2.2 dX2_comeToNextStation_56
  · have hP9 := hP.sub (ws' := [(h0, .inr (2, [.int o_tablet, .int o_rank, .ref s1, .ref s2, .int o_state, .int o_reached, .int o_came, .null, .int o_left, .int o_time])), (s1, .inl (k1, wn9, .inl a_w)), (s2, .inl (k2, 12, .inl a_v))]) [0, 1, 2] rfl
    have hD9 := hD.sub (ws' := [(h0, .inr (2, [.int o_tablet, .int o_rank, .ref s1, .ref s2, .int o_state, .int o_reached, .int o_came, .null, .int o_left, .int o_time])), (s1, .inl (k1, wn9, .inl a_w)), (s2, .inl (k2, 12, .inl a_v))]) [0, 1, 2] (by decide) rfl
    have hK9 := hK.sub (tys' := []) [] rfl
    refine W.widen (k := 0) (n := 0) (Nat.le_of_ble_eq_true rfl) (Nat.le_of_ble_eq_true rfl) ?_
    exact W.vret hx hb hr (fun t9 ht hW => ⟨⟨(), rfl, trivial, o_state, o_reached, o_came, a_v, (by first | rfl | simp only [if_pos c_3]), (by first | rfl | simp only [if_pos c_3]), (by first | rfl | simp only [if_pos c_3]), (by first | rfl | simp only [if_pos c_3]), by rw [ht]; exact hP9, va_K.moved hW.alike hK9, hD9⟩, hS.F ht⟩) hS.2.2 dX2_comeToNextStation_12

set_option maxHeartbeats 4000000 in
set_option maxRecDepth 100000 in
theorem g_X2_leaveOn_n (l : Launch) (dC : Nat → ClassId) (dI : Nat → Nat → Nat) (h0 : Nat) (s1 : Nat) (s2 : Nat) (o_tablet : Int32) (o_rank : Int32) (o_state : Int32) (o_reached : Int32) (o_came : Int32) (o_left : Int32) (o_time : Int32) (e2 : Nat) (p1 : Int32) (p2 : Int32) (sz : Nat) : Met l yX2_leaveOn wsX2_leaveOn ({ frames := 0, cells := 0, slots := 0, locals := 0 }) (va_Pc [.ref h0, .ref e2, .int p1, .int p2] (cP dC dI [(h0, .inr (2, [.int o_tablet, .int o_rank, .ref s1, .ref s2, .int o_state, .int o_reached, .int o_came, .null, .int o_left, .int o_time]))] [] sz)) (va_Qv (fun (_ : Unit) => True) (fun (_ : Unit) t9 => cQ dC dI [(h0, .inr (2, [.int o_tablet, .int o_rank, .ref s1, .ref s2, .int 1, .int o_reached, .int o_came, .ref e2, .int p1, .int p2]))] [] (va_A [(h0, .inr (2, [.int o_tablet, .int o_rank, .ref s1, .ref s2, .int o_state, .int o_reached, .int o_came, .null, .int o_left, .int o_time]))] sz) t9) (va_A [(h0, .inr (2, [.int o_tablet, .int o_rank, .ref s1, .ref s2, .int o_state, .int o_reached, .int o_came, .null, .int o_left, .int o_time]))] sz)) 0 0 (va_A [(h0, .inr (2, [.int o_tablet, .int o_rank, .ref s1, .ref s2, .int o_state, .int o_reached, .int o_came, .null, .int o_left, .int o_time]))] sz) := by
  refine Met.ofW (cc := cX2_leaveOn) (maxL := 4) (ret := none) (by decide) rfl ?_
  intro p e s m args below meth c s₁ B hml hv
  obtain ⟨rfl, hsz, hP, hK, hD0, hN⟩ := hv
  have hx := B.exec
  have hb := B.bytes
  have hr := B.returns
  have hts := atoms_spec (ws := wsX2_leaveOn) B.pre
  have hown : s.vm.findClass RX2 = some m.cls := findClass_of_methodNamed B.named
  have hlocks := B.notSynchronized
  subst hsz
  have hin2 : ∀ w ∈ u_ws RX2 TX2 10, w ∈ wsX2_leaveOn := by decide +kernel
  have hD := hD0.self (sz := s.heap.size)
  generalize hAe : va_A [(h0, .inr (2, [.int o_tablet, .int o_rank, .ref s1, .ref s2, .int o_state, .int o_reached, .int o_came, .null, .int o_left, .int o_time]))] s.heap.size = A at hD ⊢
  have hA : ∀ q : Nat, s.heap.size ≤ q → A q := fun q h => by rw [← hAe]; exact Or.inr h
  have hS : va_S A s.heap s.heap [] := va_S.rf
  have hP : va_P (dC, dI) vwCl [(h0, .inr (2, [.int o_tablet, .int o_rank, .ref s1, .ref s2, .int o_state, .int o_reached, .int o_came, .null, .int o_left, .int o_time]))] s.heap := hP
  have hl := lv_entry ([.ref h0, .ref e2, .int p1, .int p2]) (n := 4) (Nat.le_of_ble_eq_true rfl)
  rw [lg_entry_eq]
  generalize (lg_sl ([.ref h0, .ref e2, .int p1, .int p2]) ++ List.replicate (4 - (lg_sl ([.ref h0, .ref e2, .int p1, .int p2])).length) Slot.unset).toArray = ls at hl ⊢
  have hl : lv_has ls 4 [(0, .ref h0), (1, .ref e2), (2, .int p1), (3, .int p2)] := hl
  refine lv_aload_n hx hb dX2_leaveOn_0 rfl (lv_at hl 0 rfl) ?_
  refine lv_aload_n hx hb dX2_leaveOn_1 rfl (lv_at hl 1 rfl) ?_
  refine va_put (D := (dC, dI)) (ci := 2) (v := .ref e2) (ty := (tyX2 7)) (C := RX2) (T := TX2) (N := 10) hx hb hts hin2 tyX2 tyX2_ok nmX2 hown hK hP hD hS 0 rfl rfl 7 (by decide) (hts (.fieldLink RX2 45 "YamRiders$Rider" "horse" "LYamRiders$Horse;") (by decide +kernel)) (fun _ h9 => h9) rfl (by decide +kernel) rfl rfl (Nat.le_of_ble_eq_true rfl) dX2_leaveOn_2 (fun H locs hP hD hS => ?_)
  have hP : va_P (dC, dI) vwCl [(h0, .inr (2, [.int o_tablet, .int o_rank, .ref s1, .ref s2, .int o_state, .int o_reached, .int o_came, .ref e2, .int o_left, .int o_time]))] H := hP
  have hD : va_D A [(h0, .inr (2, [.int o_tablet, .int o_rank, .ref s1, .ref s2, .int o_state, .int o_reached, .int o_came, .ref e2, .int o_left, .int o_time]))] := hD
  refine lv_aload_n hx hb dX2_leaveOn_5 rfl (lv_at hl 0 rfl) ?_
  refine lv_iload_n hx hb dX2_leaveOn_6 rfl (lv_at hl 2 rfl) ?_
  refine va_put (D := (dC, dI)) (ci := 2) (v := .int p1) (ty := (tyX2 8)) (C := RX2) (T := TX2) (N := 10) hx hb hts hin2 tyX2 tyX2_ok nmX2 hown hK hP hD hS 0 rfl rfl 8 (by decide) (hts (.fieldLink RX2 54 "YamRiders$Rider" "left" "I") (by decide +kernel)) (fun _ h9 => h9) rfl (by decide +kernel) rfl rfl (Nat.le_of_ble_eq_true rfl) dX2_leaveOn_7 (fun H locs hP hD hS => ?_)
  have hP : va_P (dC, dI) vwCl [(h0, .inr (2, [.int o_tablet, .int o_rank, .ref s1, .ref s2, .int o_state, .int o_reached, .int o_came, .ref e2, .int p1, .int o_time]))] H := hP
  have hD : va_D A [(h0, .inr (2, [.int o_tablet, .int o_rank, .ref s1, .ref s2, .int o_state, .int o_reached, .int o_came, .ref e2, .int p1, .int o_time]))] := hD
  refine lv_aload_n hx hb dX2_leaveOn_10 rfl (lv_at hl 0 rfl) ?_
  refine lv_iload_n hx hb dX2_leaveOn_11 rfl (lv_at hl 3 rfl) ?_
  refine va_put (D := (dC, dI)) (ci := 2) (v := .int p2) (ty := (tyX2 9)) (C := RX2) (T := TX2) (N := 10) hx hb hts hin2 tyX2 tyX2_ok nmX2 hown hK hP hD hS 0 rfl rfl 9 (by decide) (hts (.fieldLink RX2 57 "YamRiders$Rider" "time" "I") (by decide +kernel)) (fun _ h9 => h9) rfl (by decide +kernel) rfl rfl (Nat.le_of_ble_eq_true rfl) dX2_leaveOn_12 (fun H locs hP hD hS => ?_)
  have hP : va_P (dC, dI) vwCl [(h0, .inr (2, [.int o_tablet, .int o_rank, .ref s1, .ref s2, .int o_state, .int o_reached, .int o_came, .ref e2, .int p1, .int p2]))] H := hP
  have hD : va_D A [(h0, .inr (2, [.int o_tablet, .int o_rank, .ref s1, .ref s2, .int o_state, .int o_reached, .int o_came, .ref e2, .int p1, .int p2]))] := hD
  refine lv_aload_n hx hb dX2_leaveOn_15 rfl (lv_at hl 0 rfl) ?_
  refine lv_iconst (v := 1) hx hb dX2_leaveOn_16 (by decide) ?_
  refine va_put (D := (dC, dI)) (ci := 2) (v := .int 1) (ty := (tyX2 4)) (C := RX2) (T := TX2) (N := 10) hx hb hts hin2 tyX2 tyX2_ok nmX2 hown hK hP hD hS 0 rfl rfl 4 (by decide) (hts (.fieldLink RX2 15 "YamRiders$Rider" "state" "I") (by decide +kernel)) (fun _ h9 => h9) rfl (by decide +kernel) rfl rfl (Nat.le_of_ble_eq_true rfl) dX2_leaveOn_17 (fun H locs hP hD hS => ?_)
  have hP : va_P (dC, dI) vwCl [(h0, .inr (2, [.int o_tablet, .int o_rank, .ref s1, .ref s2, .int 1, .int o_reached, .int o_came, .ref e2, .int p1, .int p2]))] H := hP
  have hD : va_D A [(h0, .inr (2, [.int o_tablet, .int o_rank, .ref s1, .ref s2, .int 1, .int o_reached, .int o_came, .ref e2, .int p1, .int p2]))] := hD
  have hP9 := hP.sub (ws' := [(h0, .inr (2, [.int o_tablet, .int o_rank, .ref s1, .ref s2, .int 1, .int o_reached, .int o_came, .ref e2, .int p1, .int p2]))]) [0] rfl
  have hD9 := hD.sub (ws' := [(h0, .inr (2, [.int o_tablet, .int o_rank, .ref s1, .ref s2, .int 1, .int o_reached, .int o_came, .ref e2, .int p1, .int p2]))]) [0] (by decide) rfl
  have hK9 := hK.sub (tys' := []) [] rfl
  refine W.widen (k := 0) (n := 0) (Nat.le_of_ble_eq_true rfl) (Nat.le_of_ble_eq_true rfl) ?_
  exact W.vret hx hb hr (fun t9 ht hW => ⟨⟨(), rfl, trivial, by rw [ht]; exact hP9, va_K.moved hW.alike hK9, hD9⟩, hS.F ht⟩) hS.2.2 dX2_leaveOn_20

set_option maxHeartbeats 4000000 in
set_option maxRecDepth 100000 in
theorem g_X2_lastStation_h (l : Launch) (dC : Nat → ClassId) (dI : Nat → Nat → Nat) (h0 : Nat) (s1 : Nat) (s2 : Nat) (o_tablet : Int32) (o_rank : Int32) (o_state : Int32) (o_reached : Int32) (o_came : Int32) (o_left : Int32) (o_time : Int32) (e1 : Nat) (k1 : ClassId) (a_w : Nat → Int32) (wn9 : Nat) (sz : Nat) (hwn9 : wn9 ≤ 12) : Met l yX2_lastStation wsX2_lastStation ({ frames := 1, cells := 0, slots := 0, locals := 21 }) (va_Pc [.ref h0] (cP dC dI [(h0, .inr (2, [.int o_tablet, .int o_rank, .ref s1, .ref s2, .int o_state, .int o_reached, .int o_came, .ref e1, .int o_left, .int o_time])), (s1, .inl (k1, wn9, .inl a_w))] [(k1, .int)] sz)) (vp_Si (fun r => r = (if (o_reached - 1) < 0 then (-1) else (if (nI wn9) ≤ (o_reached - 1) then (-1) else a_w (o_reached - 1).toNatClampNeg)))) 0 0 (fun _ => False) := by
  refine Met.ofW (cc := cX2_lastStation) (maxL := 1) (ret := (some .int)) (by decide) rfl ?_
  intro p e s m args below meth c s₁ B hml hv
  obtain ⟨rfl, hsz, hP, hK, hD0, hN⟩ := hv
  have hx := B.exec
  have hb := B.bytes
  have hr := B.returns
  have hts := atoms_spec (ws := wsX2_lastStation) B.pre
  have hown : s.vm.findClass RX2 = some m.cls := findClass_of_methodNamed B.named
  have hlocks := B.notSynchronized
  subst hsz
  have hin2 : ∀ w ∈ u_ws RX2 TX2 10, w ∈ wsX2_lastStation := by decide +kernel
  have hD := hD0
  have hP : va_P (dC, dI) vwCl [(h0, .inr (2, [.int o_tablet, .int o_rank, .ref s1, .ref s2, .int o_state, .int o_reached, .int o_came, .ref e1, .int o_left, .int o_time])), (s1, .inl (k1, wn9, .inl a_w))] s.heap := hP
  have hl := lv_entry ([.ref h0]) (n := 1) (Nat.le_of_ble_eq_true rfl)
  rw [lg_entry_eq]
  generalize (lg_sl ([.ref h0]) ++ List.replicate (1 - (lg_sl ([.ref h0])).length) Slot.unset).toArray = ls at hl ⊢
  have hl : lv_has ls 1 [(0, .ref h0)] := hl
  refine lv_aload_n hx hb dX2_lastStation_0 rfl (lv_at hl 0 rfl) ?_
  refine lv_aload_n hx hb dX2_lastStation_1 rfl (lv_at hl 0 rfl) ?_
  refine va_get (D := (dC, dI)) (ci := 2) (v := .int o_reached) (C := RX2) (T := TX2) (N := 10) hx hb hts hin2 hown hK hP 0 rfl rfl 5 (by decide) (hts (.fieldLink RX2 34 "YamRiders$Rider" "reached" "I") (by decide +kernel)) (fun _ h9 => h9) rfl dX2_lastStation_2 ?_
  refine lv_iconst (v := 1) hx hb dX2_lastStation_5 (by decide) ?_
  refine lv_isub hx hb dX2_lastStation_6 ?_
  have hPc := hP.sub (ws' := [(h0, .inr (2, [.int o_tablet, .int o_rank, .ref s1, .ref s2, .int o_state, .int o_reached, .int o_came, .ref e1, .int o_left, .int o_time])), (s1, .inl (k1, wn9, .inl a_w))]) [0, 1] rfl
  have hDc := hD.sub (ws' := [(h0, .inr (2, [.int o_tablet, .int o_rank, .ref s1, .ref s2, .int o_state, .int o_reached, .int o_came, .ref e1, .int o_left, .int o_time])), (s1, .inl (k1, wn9, .inl a_w))]) [0, 1] (by decide) rfl
  have hKc := hK.sub (tys' := [(k1, .int)]) [0] rfl
  refine cs_i (va_runV (As := [.int (o_reached - 1)]) (rest := []) ⟨hx, hb, hml, hown, hts⟩ (g_X2_stationOfWay_h l dC dI h0 s1 s2 o_tablet o_rank o_state o_reached o_came o_left o_time e1 k1 a_w wn9 (o_reached - 1) s.heap.size hwn9) (cwV 1 hts gX2_lastStation_X2_stationOfWay rfl rfl rfl (by decide +kernel) ⟨Nat.le_of_ble_eq_true rfl, Nat.le_of_ble_eq_true rfl⟩) ⟨c_blind, va_recv hKc hPc (ci := 2) (q0 := 0) rfl rfl, c_pre hPc hKc hDc hN⟩ rfl rfl hl.1 rfl (lv_room (Nat.le_of_ble_eq_true rfl)) dX2_lastStation_7 ⟨Nat.le_of_ble_eq_true rfl, Nat.le_of_ble_eq_true rfl⟩) (fun r_1 hr_1 => ?_)
  subst hr_1
  exact W.iret (v := (if (o_reached - 1) < 0 then (-1) else (if (nI wn9) ≤ (o_reached - 1) then (-1) else a_w (o_reached - 1).toNatClampNeg))) hx hb hr (fun t9 ht hW => ⟨_, rfl, rfl, ht⟩) (fun q h => nomatch h) dX2_lastStation_10

set_option maxHeartbeats 4000000 in
set_option maxRecDepth 100000 in
theorem g_X2_nextStation_h (l : Launch) (dC : Nat → ClassId) (dI : Nat → Nat → Nat) (h0 : Nat) (s1 : Nat) (s2 : Nat) (o_tablet : Int32) (o_rank : Int32) (o_state : Int32) (o_reached : Int32) (o_came : Int32) (o_left : Int32) (o_time : Int32) (e1 : Nat) (k1 : ClassId) (a_w : Nat → Int32) (wn9 : Nat) (sz : Nat) (hwn9 : wn9 ≤ 12) : Met l yX2_nextStation wsX2_nextStation ({ frames := 1, cells := 0, slots := 0, locals := 21 }) (va_Pc [.ref h0] (cP dC dI [(h0, .inr (2, [.int o_tablet, .int o_rank, .ref s1, .ref s2, .int o_state, .int o_reached, .int o_came, .ref e1, .int o_left, .int o_time])), (s1, .inl (k1, wn9, .inl a_w))] [(k1, .int)] sz)) (vp_Si (fun r => r = (if o_reached < 0 then (-1) else (if (nI wn9) ≤ o_reached then (-1) else a_w o_reached.toNatClampNeg)))) 0 0 (fun _ => False) := by
  refine Met.ofW (cc := cX2_nextStation) (maxL := 1) (ret := (some .int)) (by decide) rfl ?_
  intro p e s m args below meth c s₁ B hml hv
  obtain ⟨rfl, hsz, hP, hK, hD0, hN⟩ := hv
  have hx := B.exec
  have hb := B.bytes
  have hr := B.returns
  have hts := atoms_spec (ws := wsX2_nextStation) B.pre
  have hown : s.vm.findClass RX2 = some m.cls := findClass_of_methodNamed B.named
  have hlocks := B.notSynchronized
  subst hsz
  have hin2 : ∀ w ∈ u_ws RX2 TX2 10, w ∈ wsX2_nextStation := by decide +kernel
  have hD := hD0
  have hP : va_P (dC, dI) vwCl [(h0, .inr (2, [.int o_tablet, .int o_rank, .ref s1, .ref s2, .int o_state, .int o_reached, .int o_came, .ref e1, .int o_left, .int o_time])), (s1, .inl (k1, wn9, .inl a_w))] s.heap := hP
  have hl := lv_entry ([.ref h0]) (n := 1) (Nat.le_of_ble_eq_true rfl)
  rw [lg_entry_eq]
  generalize (lg_sl ([.ref h0]) ++ List.replicate (1 - (lg_sl ([.ref h0])).length) Slot.unset).toArray = ls at hl ⊢
  have hl : lv_has ls 1 [(0, .ref h0)] := hl
  refine lv_aload_n hx hb dX2_nextStation_0 rfl (lv_at hl 0 rfl) ?_
  refine lv_aload_n hx hb dX2_nextStation_1 rfl (lv_at hl 0 rfl) ?_
  refine va_get (D := (dC, dI)) (ci := 2) (v := .int o_reached) (C := RX2) (T := TX2) (N := 10) hx hb hts hin2 hown hK hP 0 rfl rfl 5 (by decide) (hts (.fieldLink RX2 34 "YamRiders$Rider" "reached" "I") (by decide +kernel)) (fun _ h9 => h9) rfl dX2_nextStation_2 ?_
  have hPc := hP.sub (ws' := [(h0, .inr (2, [.int o_tablet, .int o_rank, .ref s1, .ref s2, .int o_state, .int o_reached, .int o_came, .ref e1, .int o_left, .int o_time])), (s1, .inl (k1, wn9, .inl a_w))]) [0, 1] rfl
  have hDc := hD.sub (ws' := [(h0, .inr (2, [.int o_tablet, .int o_rank, .ref s1, .ref s2, .int o_state, .int o_reached, .int o_came, .ref e1, .int o_left, .int o_time])), (s1, .inl (k1, wn9, .inl a_w))]) [0, 1] (by decide) rfl
  have hKc := hK.sub (tys' := [(k1, .int)]) [0] rfl
  refine cs_i (va_runV (As := [.int o_reached]) (rest := []) ⟨hx, hb, hml, hown, hts⟩ (g_X2_stationOfWay_h l dC dI h0 s1 s2 o_tablet o_rank o_state o_reached o_came o_left o_time e1 k1 a_w wn9 o_reached s.heap.size hwn9) (cwV 1 hts gX2_nextStation_X2_stationOfWay rfl rfl rfl (by decide +kernel) ⟨Nat.le_of_ble_eq_true rfl, Nat.le_of_ble_eq_true rfl⟩) ⟨c_blind, va_recv hKc hPc (ci := 2) (q0 := 0) rfl rfl, c_pre hPc hKc hDc hN⟩ rfl rfl hl.1 rfl (lv_room (Nat.le_of_ble_eq_true rfl)) dX2_nextStation_5 ⟨Nat.le_of_ble_eq_true rfl, Nat.le_of_ble_eq_true rfl⟩) (fun r_1 hr_1 => ?_)
  subst hr_1
  exact W.iret (v := (if o_reached < 0 then (-1) else (if (nI wn9) ≤ o_reached then (-1) else a_w o_reached.toNatClampNeg))) hx hb hr (fun t9 ht hW => ⟨_, rfl, rfl, ht⟩) (fun q h => nomatch h) dX2_nextStation_8

set_option maxHeartbeats 4000000 in
set_option maxRecDepth 100000 in
theorem g_X2_comeTo_h (l : Launch) (dC : Nat → ClassId) (dI : Nat → Nat → Nat) (h0 : Nat) (s1 : Nat) (s2 : Nat) (o_tablet : Int32) (o_rank : Int32) (o_state : Int32) (o_reached : Int32) (o_came : Int32) (o_left : Int32) (o_time : Int32) (e1 : Nat) (k1 : ClassId) (a_w : Nat → Int32) (wn9 : Nat) (k2 : ClassId) (a_v : Nat → Int32) (p0 : Int32) (sz : Nat) (hwn9 : wn9 ≤ 12) : Met l yX2_comeToNextStation wsX2_comeToNextStation ({ frames := 2, cells := 0, slots := 0, locals := 41 }) (va_Pc [.ref h0, .int p0] (cP dC dI [(h0, .inr (2, [.int o_tablet, .int o_rank, .ref s1, .ref s2, .int o_state, .int o_reached, .int o_came, .ref e1, .int o_left, .int o_time])), (s1, .inl (k1, wn9, .inl a_w)), (s2, .inl (k2, 12, .inl a_v))] [(k1, .int), (k2, .int)] sz)) (va_Qv (fun (_ : Unit) => True) (fun (_ : Unit) t9 => ∃ (v1 : Int32) (v2 : Int32) (v3 : Int32) (f2 : Nat → Int32), (v1 = (if (sp_st (if o_reached < 0 then (-1) else (if (nI wn9) ≤ o_reached then (-1) else a_w o_reached.toNatClampNeg))) = 0 then o_state else (if (nI wn9) ≤ (o_reached + 1) then 2 else 0))) ∧ (v2 = (if (sp_st (if o_reached < 0 then (-1) else (if (nI wn9) ≤ o_reached then (-1) else a_w o_reached.toNatClampNeg))) = 0 then o_reached else (if (nI wn9) ≤ (o_reached + 1) then o_reached + 1 else o_reached + 1))) ∧ (v3 = (if (sp_st (if o_reached < 0 then (-1) else (if (nI wn9) ≤ o_reached then (-1) else a_w o_reached.toNatClampNeg))) = 0 then o_came else (if (nI wn9) ≤ (o_reached + 1) then p0 else p0))) ∧ (f2 = (if (sp_st (if o_reached < 0 then (-1) else (if (nI wn9) ≤ o_reached then (-1) else a_w o_reached.toNatClampNeg))) = 0 then a_v else (if (nI wn9) ≤ (o_reached + 1) then upd a_v (if o_reached < 0 then (-1) else (if (nI wn9) ≤ o_reached then (-1) else a_w o_reached.toNatClampNeg)).toNatClampNeg p0 else upd a_v (if o_reached < 0 then (-1) else (if (nI wn9) ≤ o_reached then (-1) else a_w o_reached.toNatClampNeg)).toNatClampNeg p0))) ∧ cQ dC dI [(h0, .inr (2, [.int o_tablet, .int o_rank, .ref s1, .ref s2, .int v1, .int v2, .int v3, .ref e1, .int o_left, .int o_time])), (s1, .inl (k1, wn9, .inl a_w)), (s2, .inl (k2, 12, .inl f2))] [] (va_A [(h0, .inr (2, [.int o_tablet, .int o_rank, .ref s1, .ref s2, .int o_state, .int o_reached, .int o_came, .ref e1, .int o_left, .int o_time])), (s1, .inl (k1, wn9, .inl a_w)), (s2, .inl (k2, 12, .inl a_v))] sz) t9) (va_A [(h0, .inr (2, [.int o_tablet, .int o_rank, .ref s1, .ref s2, .int o_state, .int o_reached, .int o_came, .ref e1, .int o_left, .int o_time])), (s1, .inl (k1, wn9, .inl a_w)), (s2, .inl (k2, 12, .inl a_v))] sz)) 0 0 (va_A [(h0, .inr (2, [.int o_tablet, .int o_rank, .ref s1, .ref s2, .int o_state, .int o_reached, .int o_came, .ref e1, .int o_left, .int o_time])), (s1, .inl (k1, wn9, .inl a_w)), (s2, .inl (k2, 12, .inl a_v))] sz) := by
  refine Met.ofW (cc := cX2_comeToNextStation) (maxL := 3) (ret := none) (by decide) rfl ?_
  intro p e s m args below meth c s₁ B hml hv
  obtain ⟨rfl, hsz, hP, hK, hD0, hN⟩ := hv
  have hx := B.exec
  have hb := B.bytes
  have hr := B.returns
  have hts := atoms_spec (ws := wsX2_comeToNextStation) B.pre
  have hown : s.vm.findClass RX2 = some m.cls := findClass_of_methodNamed B.named
  have hlocks := B.notSynchronized
  subst hsz
  have hin2 : ∀ w ∈ u_ws RX2 TX2 10, w ∈ wsX2_comeToNextStation := by decide +kernel
  have hD := hD0.self (sz := s.heap.size)
  generalize hAe : va_A [(h0, .inr (2, [.int o_tablet, .int o_rank, .ref s1, .ref s2, .int o_state, .int o_reached, .int o_came, .ref e1, .int o_left, .int o_time])), (s1, .inl (k1, wn9, .inl a_w)), (s2, .inl (k2, 12, .inl a_v))] s.heap.size = A at hD ⊢
  have hA : ∀ q : Nat, s.heap.size ≤ q → A q := fun q h => by rw [← hAe]; exact Or.inr h
  have hS : va_S A s.heap s.heap [] := va_S.rf
  have hP : va_P (dC, dI) vwCl [(h0, .inr (2, [.int o_tablet, .int o_rank, .ref s1, .ref s2, .int o_state, .int o_reached, .int o_came, .ref e1, .int o_left, .int o_time])), (s1, .inl (k1, wn9, .inl a_w)), (s2, .inl (k2, 12, .inl a_v))] s.heap := hP
  have hl := lv_entry ([.ref h0, .int p0]) (n := 3) (Nat.le_of_ble_eq_true rfl)
  rw [lg_entry_eq]
  generalize (lg_sl ([.ref h0, .int p0]) ++ List.replicate (3 - (lg_sl ([.ref h0, .int p0])).length) Slot.unset).toArray = ls at hl ⊢
  have hl : lv_has ls 3 [(0, .ref h0), (1, .int p0)] := hl
  refine lv_aload_n hx hb dX2_comeToNextStation_0 rfl (lv_at hl 0 rfl) ?_
  have hPc := hP.sub (ws' := [(h0, .inr (2, [.int o_tablet, .int o_rank, .ref s1, .ref s2, .int o_state, .int o_reached, .int o_came, .ref e1, .int o_left, .int o_time])), (s1, .inl (k1, wn9, .inl a_w))]) [0, 1] rfl
  have hDc := hD.sub (ws' := [(h0, .inr (2, [.int o_tablet, .int o_rank, .ref s1, .ref s2, .int o_state, .int o_reached, .int o_came, .ref e1, .int o_left, .int o_time])), (s1, .inl (k1, wn9, .inl a_w))]) [0, 1] (by decide) rfl
  have hKc := hK.sub (tys' := [(k1, .int)]) [0] rfl
  refine cs_i (va_runV (As := []) (rest := []) ⟨hx, hb, hml, hown, hts⟩ (g_X2_nextStation_h l dC dI h0 s1 s2 o_tablet o_rank o_state o_reached o_came o_left o_time e1 k1 a_w wn9 s.heap.size hwn9) (cwV 0 hts gX2_comeToNextStation_X2_nextStation rfl rfl rfl (by decide +kernel) ⟨Nat.le_of_ble_eq_true rfl, Nat.le_of_ble_eq_true rfl⟩) ⟨c_blind, va_recv hKc hPc (ci := 2) (q0 := 0) rfl rfl, c_pre hPc hKc hDc hN⟩ rfl rfl hl.1 rfl (lv_room (Nat.le_of_ble_eq_true rfl)) dX2_comeToNextStation_1 ⟨Nat.le_of_ble_eq_true rfl, Nat.le_of_ble_eq_true rfl⟩) (fun r_1 hr_1 => ?_)
  subst hr_1
  refine lv_istore_n (lv' := [(2, .int (if o_reached < 0 then (-1) else (if (nI wn9) ≤ o_reached then (-1) else a_w o_reached.toNatClampNeg))), (0, .ref h0), (1, .int p0)]) hx hb dX2_comeToNextStation_4 rfl hl (by decide) rfl (fun ls hl => ?_)
  refine lv_iload_n hx hb dX2_comeToNextStation_5 rfl (lv_at hl 0 rfl) ?_
  have hPc := hP.sub (ws' := []) [] rfl
  have hDc := hD.sub (ws' := []) [] (by decide) rfl
  have hKc := hK.sub (tys' := []) [] rfl
  refine cs_i (va_runSN (As := [.int (if o_reached < 0 then (-1) else (if (nI wn9) ≤ o_reached then (-1) else a_w o_reached.toNatClampNeg))]) (rest := []) ⟨hx, hb, hml, hown, hts⟩ (c_X8_isStation l dC dI (if o_reached < 0 then (-1) else (if (nI wn9) ≤ o_reached then (-1) else a_w o_reached.toNatClampNeg)) s.heap.size) ⟨va_cnB 1 hts ggX2_comeToNextStation_X8_isStation rfl rfl rfl (hN.1 (.methodLinkNest RX2 41 yX8_isStation "YamRiders") (by decide +kernel)) (hts (.initialized RX8) (by decide +kernel)) (by decide +kernel) ⟨Nat.le_of_ble_eq_true rfl, Nat.le_of_ble_eq_true rfl⟩, hts (.static yX8_isStation) (by decide +kernel), trivial⟩ ⟨c_blind, c_pre hPc hKc hDc hN⟩ rfl rfl hl.1 rfl (lv_room (Nat.le_of_ble_eq_true rfl)) dX2_comeToNextStation_6 ⟨Nat.le_of_ble_eq_true rfl, Nat.le_of_ble_eq_true rfl⟩) (fun r_2 hr_2 => ?_)
  subst hr_2
  refine lv_if_ne (tgt := 13) hx hb dX2_comeToNextStation_9 (by decide) (fun c_3 => ?_) (fun c_3 => ?_)
  · refine lv_aload_n hx hb dX2_comeToNextStation_13 rfl (lv_at hl 1 rfl) ?_
    refine va_get (D := (dC, dI)) (ci := 2) (v := .ref s2) (C := RX2) (T := TX2) (N := 10) hx hb hts hin2 hown hK hP 0 rfl rfl 3 (by decide) (hts (.fieldLink RX2 9 "YamRiders$Rider" "newsSince" "[I") (by decide +kernel)) (fun _ h9 => h9) rfl dX2_comeToNextStation_14 ?_
    refine lv_iload_n hx hb dX2_comeToNextStation_17 rfl (lv_at hl 0 rfl) ?_
    refine lv_iload_n hx hb dX2_comeToNextStation_18 rfl (lv_at hl 2 rfl) ?_
    refine va_iast hx hb hK hP hD hS 2 1 rfl rfl (st_in c_3) dX2_comeToNextStation_19 (fun H locs hP hD hS => ?_)
    have hP : va_P (dC, dI) vwCl [(h0, .inr (2, [.int o_tablet, .int o_rank, .ref s1, .ref s2, .int o_state, .int o_reached, .int o_came, .ref e1, .int o_left, .int o_time])), (s1, .inl (k1, wn9, .inl a_w)), (s2, .inl (k2, 12, .inl (upd a_v (if o_reached < 0 then (-1) else (if (nI wn9) ≤ o_reached then (-1) else a_w o_reached.toNatClampNeg)).toNatClampNeg p0)))] H := hP
    have hD : va_D A [(h0, .inr (2, [.int o_tablet, .int o_rank, .ref s1, .ref s2, .int o_state, .int o_reached, .int o_came, .ref e1, .int o_left, .int o_time])), (s1, .inl (k1, wn9, .inl a_w)), (s2, .inl (k2, 12, .inl (upd a_v (if o_reached < 0 then (-1) else (if (nI wn9) ≤ o_reached then (-1) else a_w o_reached.toNatClampNeg)).toNatClampNeg p0)))] := hD
    obtain ⟨f_4, ef_4⟩ : ∃ w9 : Nat → Int32, w9 = upd a_v (if o_reached < 0 then (-1) else (if (nI wn9) ≤ o_reached then (-1) else a_w o_reached.toNatClampNeg)).toNatClampNeg p0 := ⟨_, rfl⟩
    rw [← ef_4] at hP hD
    refine lv_aload_n hx hb dX2_comeToNextStation_20 rfl (lv_at hl 1 rfl) ?_
    refine lv_iload_n hx hb dX2_comeToNextStation_21 rfl (lv_at hl 2 rfl) ?_
    refine va_put (D := (dC, dI)) (ci := 2) (v := .int p0) (ty := (tyX2 6)) (C := RX2) (T := TX2) (N := 10) hx hb hts hin2 tyX2 tyX2_ok nmX2 hown hK hP hD hS 0 rfl rfl 6 (by decide) (hts (.fieldLink RX2 64 "YamRiders$Rider" "came" "I") (by decide +kernel)) (fun _ h9 => h9) rfl (by decide +kernel) rfl rfl (Nat.le_of_ble_eq_true rfl) dX2_comeToNextStation_22 (fun H locs hP hD hS => ?_)
    have hP : va_P (dC, dI) vwCl [(h0, .inr (2, [.int o_tablet, .int o_rank, .ref s1, .ref s2, .int o_state, .int o_reached, .int p0, .ref e1, .int o_left, .int o_time])), (s1, .inl (k1, wn9, .inl a_w)), (s2, .inl (k2, 12, .inl f_4))] H := hP
    have hD : va_D A [(h0, .inr (2, [.int o_tablet, .int o_rank, .ref s1, .ref s2, .int o_state, .int o_reached, .int p0, .ref e1, .int o_left, .int o_time])), (s1, .inl (k1, wn9, .inl a_w)), (s2, .inl (k2, 12, .inl f_4))] := hD
    refine lv_aload_n hx hb dX2_comeToNextStation_25 rfl (lv_at hl 1 rfl) ?_
    refine lv_dup hx hb dX2_comeToNextStation_26 rfl ?_
    refine va_get (D := (dC, dI)) (ci := 2) (v := .int o_reached) (C := RX2) (T := TX2) (N := 10) hx hb hts hin2 hown hK hP 0 rfl rfl 5 (by decide) (hts (.fieldLink RX2 34 "YamRiders$Rider" "reached" "I") (by decide +kernel)) (fun _ h9 => h9) rfl dX2_comeToNextStation_27 ?_
    refine lv_iconst (v := 1) hx hb dX2_comeToNextStation_30 (by decide) ?_
    refine lv_iadd hx hb dX2_comeToNextStation_31 ?_
    refine va_put (D := (dC, dI)) (ci := 2) (v := .int (o_reached + 1)) (ty := (tyX2 5)) (C := RX2) (T := TX2) (N := 10) hx hb hts hin2 tyX2 tyX2_ok nmX2 hown hK hP hD hS 0 rfl rfl 5 (by decide) (hts (.fieldLink RX2 34 "YamRiders$Rider" "reached" "I") (by decide +kernel)) (fun _ h9 => h9) rfl (by decide +kernel) rfl rfl (Nat.le_of_ble_eq_true rfl) dX2_comeToNextStation_32 (fun H locs hP hD hS => ?_)
    have hP : va_P (dC, dI) vwCl [(h0, .inr (2, [.int o_tablet, .int o_rank, .ref s1, .ref s2, .int o_state, .int (o_reached + 1), .int p0, .ref e1, .int o_left, .int o_time])), (s1, .inl (k1, wn9, .inl a_w)), (s2, .inl (k2, 12, .inl f_4))] H := hP
    have hD : va_D A [(h0, .inr (2, [.int o_tablet, .int o_rank, .ref s1, .ref s2, .int o_state, .int (o_reached + 1), .int p0, .ref e1, .int o_left, .int o_time])), (s1, .inl (k1, wn9, .inl a_w)), (s2, .inl (k2, 12, .inl f_4))] := hD
    refine lv_aload_n hx hb dX2_comeToNextStation_35 rfl (lv_at hl 1 rfl) ?_
    refine lv_aload_n hx hb dX2_comeToNextStation_36 rfl (lv_at hl 1 rfl) ?_
    refine va_get (D := (dC, dI)) (ci := 2) (v := .int (o_reached + 1)) (C := RX2) (T := TX2) (N := 10) hx hb hts hin2 hown hK hP 0 rfl rfl 5 (by decide) (hts (.fieldLink RX2 34 "YamRiders$Rider" "reached" "I") (by decide +kernel)) (fun _ h9 => h9) rfl dX2_comeToNextStation_37 ?_
    refine lv_aload_n hx hb dX2_comeToNextStation_40 rfl (lv_at hl 1 rfl) ?_
    refine va_get (D := (dC, dI)) (ci := 2) (v := .ref s1) (C := RX2) (T := TX2) (N := 10) hx hb hts hin2 hown hK hP 0 rfl rfl 2 (by decide) (hts (.fieldLink RX2 25 "YamRiders$Rider" "stations" "[I") (by decide +kernel)) (fun _ h9 => h9) rfl dX2_comeToNextStation_41 ?_
    refine va_alen (v := nI wn9) hx hb hK hP 1 0 rfl rfl rfl dX2_comeToNextStation_44 ?_
    refine lv_icmp_ge (tgt := 52) hx hb dX2_comeToNextStation_45 (by decide) (fun c_5 => ?_) (fun c_5 => ?_)
    · refine lv_iconst (v := 2) hx hb dX2_comeToNextStation_52 (by decide) ?_
      refine va_put (D := (dC, dI)) (ci := 2) (v := .int 2) (ty := (tyX2 4)) (C := RX2) (T := TX2) (N := 10) hx hb hts hin2 tyX2 tyX2_ok nmX2 hown hK hP hD hS 0 rfl rfl 4 (by decide) (hts (.fieldLink RX2 15 "YamRiders$Rider" "state" "I") (by decide +kernel)) (fun _ h9 => h9) rfl (by decide +kernel) rfl rfl (Nat.le_of_ble_eq_true rfl) dX2_comeToNextStation_53 (fun H locs hP hD hS => ?_)
      have hP : va_P (dC, dI) vwCl [(h0, .inr (2, [.int o_tablet, .int o_rank, .ref s1, .ref s2, .int 2, .int (o_reached + 1), .int p0, .ref e1, .int o_left, .int o_time])), (s1, .inl (k1, wn9, .inl a_w)), (s2, .inl (k2, 12, .inl f_4))] H := hP
      have hD : va_D A [(h0, .inr (2, [.int o_tablet, .int o_rank, .ref s1, .ref s2, .int 2, .int (o_reached + 1), .int p0, .ref e1, .int o_left, .int o_time])), (s1, .inl (k1, wn9, .inl a_w)), (s2, .inl (k2, 12, .inl f_4))] := hD
      have hP9 := hP.sub (ws' := [(h0, .inr (2, [.int o_tablet, .int o_rank, .ref s1, .ref s2, .int 2, .int (o_reached + 1), .int p0, .ref e1, .int o_left, .int o_time])), (s1, .inl (k1, wn9, .inl a_w)), (s2, .inl (k2, 12, .inl f_4))]) [0, 1, 2] rfl
      have hD9 := hD.sub (ws' := [(h0, .inr (2, [.int o_tablet, .int o_rank, .ref s1, .ref s2, .int 2, .int (o_reached + 1), .int p0, .ref e1, .int o_left, .int o_time])), (s1, .inl (k1, wn9, .inl a_w)), (s2, .inl (k2, 12, .inl f_4))]) [0, 1, 2] (by decide) rfl
      have hK9 := hK.sub (tys' := []) [] rfl
      refine W.widen (k := 0) (n := 0) (Nat.le_of_ble_eq_true rfl) (Nat.le_of_ble_eq_true rfl) ?_
      exact W.vret hx hb hr (fun t9 ht hW => ⟨⟨(), rfl, trivial, 2, (o_reached + 1), p0, f_4, (by first | rfl | simp only [if_neg c_3, if_pos c_5]), (by first | rfl | simp only [if_neg c_3, if_pos c_5]), (by first | rfl | simp only [if_neg c_3, if_pos c_5]), (by first | rfl | simp only [if_neg c_3, if_pos c_5, ef_4]), by rw [ht]; exact hP9, va_K.moved hW.alike hK9, hD9⟩, hS.F ht⟩) hS.2.2 dX2_comeToNextStation_56
    · refine lv_iconst (v := 0) hx hb dX2_comeToNextStation_48 (by decide) ?_
      refine lv_goto (tgt := 53) hx hb dX2_comeToNextStation_49 (by decide) ?_
      refine va_put (D := (dC, dI)) (ci := 2) (v := .int 0) (ty := (tyX2 4)) (C := RX2) (T := TX2) (N := 10) hx hb hts hin2 tyX2 tyX2_ok nmX2 hown hK hP hD hS 0 rfl rfl 4 (by decide) (hts (.fieldLink RX2 15 "YamRiders$Rider" "state" "I") (by decide +kernel)) (fun _ h9 => h9) rfl (by decide +kernel) rfl rfl (Nat.le_of_ble_eq_true rfl) dX2_comeToNextStation_53 (fun H locs hP hD hS => ?_)
      have hP : va_P (dC, dI) vwCl [(h0, .inr (2, [.int o_tablet, .int o_rank, .ref s1, .ref s2, .int 0, .int (o_reached + 1), .int p0, .ref e1, .int o_left, .int o_time])), (s1, .inl (k1, wn9, .inl a_w)), (s2, .inl (k2, 12, .inl f_4))] H := hP
      have hD : va_D A [(h0, .inr (2, [.int o_tablet, .int o_rank, .ref s1, .ref s2, .int 0, .int (o_reached + 1), .int p0, .ref e1, .int o_left, .int o_time])), (s1, .inl (k1, wn9, .inl a_w)), (s2, .inl (k2, 12, .inl f_4))] := hD
      have hP9 := hP.sub (ws' := [(h0, .inr (2, [.int o_tablet, .int o_rank, .ref s1, .ref s2, .int 0, .int (o_reached + 1), .int p0, .ref e1, .int o_left, .int o_time])), (s1, .inl (k1, wn9, .inl a_w)), (s2, .inl (k2, 12, .inl f_4))]) [0, 1, 2] rfl
      have hD9 := hD.sub (ws' := [(h0, .inr (2, [.int o_tablet, .int o_rank, .ref s1, .ref s2, .int 0, .int (o_reached + 1), .int p0, .ref e1, .int o_left, .int o_time])), (s1, .inl (k1, wn9, .inl a_w)), (s2, .inl (k2, 12, .inl f_4))]) [0, 1, 2] (by decide) rfl
      have hK9 := hK.sub (tys' := []) [] rfl
      refine W.widen (k := 0) (n := 0) (Nat.le_of_ble_eq_true rfl) (Nat.le_of_ble_eq_true rfl) ?_
      exact W.vret hx hb hr (fun t9 ht hW => ⟨⟨(), rfl, trivial, 0, (o_reached + 1), p0, f_4, (by first | rfl | simp only [if_neg c_3, if_neg c_5]), (by first | rfl | simp only [if_neg c_3, if_neg c_5]), (by first | rfl | simp only [if_neg c_3, if_neg c_5]), (by first | rfl | simp only [if_neg c_3, if_neg c_5, ef_4]), by rw [ht]; exact hP9, va_K.moved hW.alike hK9, hD9⟩, hS.F ht⟩) hS.2.2 dX2_comeToNextStation_56
  · have hP9 := hP.sub (ws' := [(h0, .inr (2, [.int o_tablet, .int o_rank, .ref s1, .ref s2, .int o_state, .int o_reached, .int o_came, .ref e1, .int o_left, .int o_time])), (s1, .inl (k1, wn9, .inl a_w)), (s2, .inl (k2, 12, .inl a_v))]) [0, 1, 2] rfl
    have hD9 := hD.sub (ws' := [(h0, .inr (2, [.int o_tablet, .int o_rank, .ref s1, .ref s2, .int o_state, .int o_reached, .int o_came, .ref e1, .int o_left, .int o_time])), (s1, .inl (k1, wn9, .inl a_w)), (s2, .inl (k2, 12, .inl a_v))]) [0, 1, 2] (by decide) rfl
    have hK9 := hK.sub (tys' := []) [] rfl
    refine W.widen (k := 0) (n := 0) (Nat.le_of_ble_eq_true rfl) (Nat.le_of_ble_eq_true rfl) ?_
    exact W.vret hx hb hr (fun t9 ht hW => ⟨⟨(), rfl, trivial, o_state, o_reached, o_came, a_v, (by first | rfl | simp only [if_pos c_3]), (by first | rfl | simp only [if_pos c_3]), (by first | rfl | simp only [if_pos c_3]), (by first | rfl | simp only [if_pos c_3]), by rw [ht]; exact hP9, va_K.moved hW.alike hK9, hD9⟩, hS.F ht⟩) hS.2.2 dX2_comeToNextStation_12

set_option maxHeartbeats 4000000 in
set_option maxRecDepth 100000 in
theorem g_X2_leaveOn_h (l : Launch) (dC : Nat → ClassId) (dI : Nat → Nat → Nat) (h0 : Nat) (s1 : Nat) (s2 : Nat) (o_tablet : Int32) (o_rank : Int32) (o_state : Int32) (o_reached : Int32) (o_came : Int32) (o_left : Int32) (o_time : Int32) (e1 : Nat) (e2 : Nat) (p1 : Int32) (p2 : Int32) (sz : Nat) : Met l yX2_leaveOn wsX2_leaveOn ({ frames := 0, cells := 0, slots := 0, locals := 0 }) (va_Pc [.ref h0, .ref e2, .int p1, .int p2] (cP dC dI [(h0, .inr (2, [.int o_tablet, .int o_rank, .ref s1, .ref s2, .int o_state, .int o_reached, .int o_came, .ref e1, .int o_left, .int o_time]))] [] sz)) (va_Qv (fun (_ : Unit) => True) (fun (_ : Unit) t9 => cQ dC dI [(h0, .inr (2, [.int o_tablet, .int o_rank, .ref s1, .ref s2, .int 1, .int o_reached, .int o_came, .ref e2, .int p1, .int p2]))] [] (va_A [(h0, .inr (2, [.int o_tablet, .int o_rank, .ref s1, .ref s2, .int o_state, .int o_reached, .int o_came, .ref e1, .int o_left, .int o_time]))] sz) t9) (va_A [(h0, .inr (2, [.int o_tablet, .int o_rank, .ref s1, .ref s2, .int o_state, .int o_reached, .int o_came, .ref e1, .int o_left, .int o_time]))] sz)) 0 0 (va_A [(h0, .inr (2, [.int o_tablet, .int o_rank, .ref s1, .ref s2, .int o_state, .int o_reached, .int o_came, .ref e1, .int o_left, .int o_time]))] sz) := by
  refine Met.ofW (cc := cX2_leaveOn) (maxL := 4) (ret := none) (by decide) rfl ?_
  intro p e s m args below meth c s₁ B hml hv
  obtain ⟨rfl, hsz, hP, hK, hD0, hN⟩ := hv
  have hx := B.exec
  have hb := B.bytes
  have hr := B.returns
  have hts := atoms_spec (ws := wsX2_leaveOn) B.pre
  have hown : s.vm.findClass RX2 = some m.cls := findClass_of_methodNamed B.named
  have hlocks := B.notSynchronized
  subst hsz
  have hin2 : ∀ w ∈ u_ws RX2 TX2 10, w ∈ wsX2_leaveOn := by decide +kernel
  have hD := hD0.self (sz := s.heap.size)
  generalize hAe : va_A [(h0, .inr (2, [.int o_tablet, .int o_rank, .ref s1, .ref s2, .int o_state, .int o_reached, .int o_came, .ref e1, .int o_left, .int o_time]))] s.heap.size = A at hD ⊢
  have hA : ∀ q : Nat, s.heap.size ≤ q → A q := fun q h => by rw [← hAe]; exact Or.inr h
  have hS : va_S A s.heap s.heap [] := va_S.rf
  have hP : va_P (dC, dI) vwCl [(h0, .inr (2, [.int o_tablet, .int o_rank, .ref s1, .ref s2, .int o_state, .int o_reached, .int o_came, .ref e1, .int o_left, .int o_time]))] s.heap := hP
  have hl := lv_entry ([.ref h0, .ref e2, .int p1, .int p2]) (n := 4) (Nat.le_of_ble_eq_true rfl)
  rw [lg_entry_eq]
  generalize (lg_sl ([.ref h0, .ref e2, .int p1, .int p2]) ++ List.replicate (4 - (lg_sl ([.ref h0, .ref e2, .int p1, .int p2])).length) Slot.unset).toArray = ls at hl ⊢
  have hl : lv_has ls 4 [(0, .ref h0), (1, .ref e2), (2, .int p1), (3, .int p2)] := hl
  refine lv_aload_n hx hb dX2_leaveOn_0 rfl (lv_at hl 0 rfl) ?_
  refine lv_aload_n hx hb dX2_leaveOn_1 rfl (lv_at hl 1 rfl) ?_
  refine va_put (D := (dC, dI)) (ci := 2) (v := .ref e2) (ty := (tyX2 7)) (C := RX2) (T := TX2) (N := 10) hx hb hts hin2 tyX2 tyX2_ok nmX2 hown hK hP hD hS 0 rfl rfl 7 (by decide) (hts (.fieldLink RX2 45 "YamRiders$Rider" "horse" "LYamRiders$Horse;") (by decide +kernel)) (fun _ h9 => h9) rfl (by decide +kernel) rfl rfl (Nat.le_of_ble_eq_true rfl) dX2_leaveOn_2 (fun H locs hP hD hS => ?_)
  have hP : va_P (dC, dI) vwCl [(h0, .inr (2, [.int o_tablet, .int o_rank, .ref s1, .ref s2, .int o_state, .int o_reached, .int o_came, .ref e2, .int o_left, .int o_time]))] H := hP
  have hD : va_D A [(h0, .inr (2, [.int o_tablet, .int o_rank, .ref s1, .ref s2, .int o_state, .int o_reached, .int o_came, .ref e2, .int o_left, .int o_time]))] := hD
  refine lv_aload_n hx hb dX2_leaveOn_5 rfl (lv_at hl 0 rfl) ?_
  refine lv_iload_n hx hb dX2_leaveOn_6 rfl (lv_at hl 2 rfl) ?_
  refine va_put (D := (dC, dI)) (ci := 2) (v := .int p1) (ty := (tyX2 8)) (C := RX2) (T := TX2) (N := 10) hx hb hts hin2 tyX2 tyX2_ok nmX2 hown hK hP hD hS 0 rfl rfl 8 (by decide) (hts (.fieldLink RX2 54 "YamRiders$Rider" "left" "I") (by decide +kernel)) (fun _ h9 => h9) rfl (by decide +kernel) rfl rfl (Nat.le_of_ble_eq_true rfl) dX2_leaveOn_7 (fun H locs hP hD hS => ?_)
  have hP : va_P (dC, dI) vwCl [(h0, .inr (2, [.int o_tablet, .int o_rank, .ref s1, .ref s2, .int o_state, .int o_reached, .int o_came, .ref e2, .int p1, .int o_time]))] H := hP
  have hD : va_D A [(h0, .inr (2, [.int o_tablet, .int o_rank, .ref s1, .ref s2, .int o_state, .int o_reached, .int o_came, .ref e2, .int p1, .int o_time]))] := hD
  refine lv_aload_n hx hb dX2_leaveOn_10 rfl (lv_at hl 0 rfl) ?_
  refine lv_iload_n hx hb dX2_leaveOn_11 rfl (lv_at hl 3 rfl) ?_
  refine va_put (D := (dC, dI)) (ci := 2) (v := .int p2) (ty := (tyX2 9)) (C := RX2) (T := TX2) (N := 10) hx hb hts hin2 tyX2 tyX2_ok nmX2 hown hK hP hD hS 0 rfl rfl 9 (by decide) (hts (.fieldLink RX2 57 "YamRiders$Rider" "time" "I") (by decide +kernel)) (fun _ h9 => h9) rfl (by decide +kernel) rfl rfl (Nat.le_of_ble_eq_true rfl) dX2_leaveOn_12 (fun H locs hP hD hS => ?_)
  have hP : va_P (dC, dI) vwCl [(h0, .inr (2, [.int o_tablet, .int o_rank, .ref s1, .ref s2, .int o_state, .int o_reached, .int o_came, .ref e2, .int p1, .int p2]))] H := hP
  have hD : va_D A [(h0, .inr (2, [.int o_tablet, .int o_rank, .ref s1, .ref s2, .int o_state, .int o_reached, .int o_came, .ref e2, .int p1, .int p2]))] := hD
  refine lv_aload_n hx hb dX2_leaveOn_15 rfl (lv_at hl 0 rfl) ?_
  refine lv_iconst (v := 1) hx hb dX2_leaveOn_16 (by decide) ?_
  refine va_put (D := (dC, dI)) (ci := 2) (v := .int 1) (ty := (tyX2 4)) (C := RX2) (T := TX2) (N := 10) hx hb hts hin2 tyX2 tyX2_ok nmX2 hown hK hP hD hS 0 rfl rfl 4 (by decide) (hts (.fieldLink RX2 15 "YamRiders$Rider" "state" "I") (by decide +kernel)) (fun _ h9 => h9) rfl (by decide +kernel) rfl rfl (Nat.le_of_ble_eq_true rfl) dX2_leaveOn_17 (fun H locs hP hD hS => ?_)
  have hP : va_P (dC, dI) vwCl [(h0, .inr (2, [.int o_tablet, .int o_rank, .ref s1, .ref s2, .int 1, .int o_reached, .int o_came, .ref e2, .int p1, .int p2]))] H := hP
  have hD : va_D A [(h0, .inr (2, [.int o_tablet, .int o_rank, .ref s1, .ref s2, .int 1, .int o_reached, .int o_came, .ref e2, .int p1, .int p2]))] := hD
  have hP9 := hP.sub (ws' := [(h0, .inr (2, [.int o_tablet, .int o_rank, .ref s1, .ref s2, .int 1, .int o_reached, .int o_came, .ref e2, .int p1, .int p2]))]) [0] rfl
  have hD9 := hD.sub (ws' := [(h0, .inr (2, [.int o_tablet, .int o_rank, .ref s1, .ref s2, .int 1, .int o_reached, .int o_came, .ref e2, .int p1, .int p2]))]) [0] (by decide) rfl
  have hK9 := hK.sub (tys' := []) [] rfl
  refine W.widen (k := 0) (n := 0) (Nat.le_of_ble_eq_true rfl) (Nat.le_of_ble_eq_true rfl) ?_
  exact W.vret hx hb hr (fun t9 ht hW => ⟨⟨(), rfl, trivial, by rw [ht]; exact hP9, va_K.moved hW.alike hK9, hD9⟩, hS.F ht⟩) hS.2.2 dX2_leaveOn_20
