set_option maxHeartbeats 4000000 in
set_option maxRecDepth 100000 in
theorem t_X2_isUnderWay (l : Launch) (dC : Nat → ClassId) (dI : Nat → Nat → Nat) (cs : Nat → ClassId) (L : List Nat) (ka : Nat → Nat) (f : Nat → va_E) (h0 : Nat) (sz : Nat) (hT : tO L ka cs f) (hk_h0 : tp L ka 2 h0) : Met l yX2_isUnderWay wsX2_isUnderWay ({ frames := 0, cells := 0, slots := 0, locals := 0 }) (va_Pc [.ref h0] (cP dC dI ([] ++ va_pl L f) (tyC cs) sz)) (vp_Si (fun r => r = 0 ∨ r = 1)) 0 0 (fun _ => False) := by
  refine Met.ofW (cc := cX2_isUnderWay) (maxL := 1) (ret := (some .boolean)) (by decide) rfl ?_
  intro p e s m args below meth c s₁ B hml hv
  obtain ⟨rfl, hsz, hP, hK, hD0, hN⟩ := hv
  have hx := B.exec
  have hb := B.bytes
  have hr := B.returns
  have hts := atoms_spec (ws := wsX2_isUnderWay) B.pre
  have hown : s.vm.findClass RX2 = some m.cls := findClass_of_methodNamed B.named
  have hlocks := B.notSynchronized
  subst hsz
  have hin2 : ∀ w ∈ u_ws RX2 TX2 10, w ∈ wsX2_isUnderWay := by decide +kernel
  have hD := hD0
  have hP : va_P (dC, dI) vwCl ([] ++ va_pl L f) s.heap := hP
  have hl := lv_entry ([.ref h0]) (n := 1) (Nat.le_of_ble_eq_true rfl)
  rw [lg_entry_eq]
  generalize (lg_sl ([.ref h0]) ++ List.replicate (1 - (lg_sl ([.ref h0])).length) Slot.unset).toArray = ls at hl ⊢
  have hl : lv_has ls 1 [(0, .ref h0)] := hl
  refine lv_aload_n hx hb dX2_isUnderWay_0 rfl (lv_at hl 0 rfl) ?_
  obtain ⟨x_2, x_3, o_4, o_5, x_6, x_7, x_8, o_9, x_10, x_11, hf_1, hk_o_4, hk_o_5, hq_o_9⟩ := hT.get hk_h0
  obtain ⟨q_12, hq_12⟩ := pl_at (X := []) (f := f) (e := .inr (2, [.int x_2, .int x_3, .ref o_4, .ref o_5, .int x_6, .int x_7, .int x_8, va_rf o_9, .int x_10, .int x_11])) hk_h0.1 hf_1
  refine va_get (D := (dC, dI)) (ci := 2) (v := .int x_6) (C := RX2) (T := TX2) (N := 10) hx hb hts hin2 hown hK hP q_12 hq_12 rfl 4 (by decide) (hts (.fieldLink RX2 15 "YamRiders$Rider" "state" "I") (by decide +kernel)) (fun _ h9 => h9) rfl dX2_isUnderWay_1 ?_
  refine lv_if_eq (tgt := 15) hx hb dX2_isUnderWay_4 (by decide) (fun c_13 => ?_) (fun c_13 => ?_)
  · refine lv_iconst (v := 1) hx hb dX2_isUnderWay_15 (by decide) ?_
    refine lv_goto (tgt := 20) hx hb dX2_isUnderWay_16 (by decide) ?_
    exact W.zret (v := 1) hx hb hr rfl (fun t9 ht hW => ⟨_, rfl, (Or.inr rfl), ht⟩) (fun q h => nomatch h) dX2_isUnderWay_20
  · refine lv_aload_n hx hb dX2_isUnderWay_7 rfl (lv_at hl 0 rfl) ?_
    obtain ⟨q_14, hq_14⟩ := pl_at (X := []) (f := f) (e := .inr (2, [.int x_2, .int x_3, .ref o_4, .ref o_5, .int x_6, .int x_7, .int x_8, va_rf o_9, .int x_10, .int x_11])) hk_h0.1 hf_1
    refine va_get (D := (dC, dI)) (ci := 2) (v := .int x_6) (C := RX2) (T := TX2) (N := 10) hx hb hts hin2 hown hK hP q_14 hq_14 rfl 4 (by decide) (hts (.fieldLink RX2 15 "YamRiders$Rider" "state" "I") (by decide +kernel)) (fun _ h9 => h9) rfl dX2_isUnderWay_8 ?_
    refine lv_iconst (v := 1) hx hb dX2_isUnderWay_11 (by decide) ?_
    refine lv_icmp_ne (tgt := 19) hx hb dX2_isUnderWay_12 (by decide) (fun c_15 => ?_) (fun c_15 => ?_)
    · refine lv_iconst (v := 0) hx hb dX2_isUnderWay_19 (by decide) ?_
      exact W.zret (v := 0) hx hb hr rfl (fun t9 ht hW => ⟨_, rfl, (Or.inl rfl), ht⟩) (fun q h => nomatch h) dX2_isUnderWay_20
    · refine lv_iconst (v := 1) hx hb dX2_isUnderWay_15 (by decide) ?_
      refine lv_goto (tgt := 20) hx hb dX2_isUnderWay_16 (by decide) ?_
      exact W.zret (v := 1) hx hb hr rfl (fun t9 ht hW => ⟨_, rfl, (Or.inr rfl), ht⟩) (fun q h => nomatch h) dX2_isUnderWay_20

set_option maxHeartbeats 4000000 in
set_option maxRecDepth 100000 in
theorem t_X2_stationOfWay (l : Launch) (dC : Nat → ClassId) (dI : Nat → Nat → Nat) (cs : Nat → ClassId) (L : List Nat) (ka : Nat → Nat) (f : Nat → va_E) (h0 : Nat) (p0 : Int32) (sz : Nat) (hT : tO L ka cs f) (hk_h0 : tp L ka 2 h0) : Met l yX2_stationOfWay wsX2_stationOfWay ({ frames := 0, cells := 0, slots := 0, locals := 0 }) (va_Pc [.ref h0, .int p0] (cP dC dI ([] ++ va_pl L f) (tyC cs) sz)) (vp_Si (fun _ => True)) 0 0 (fun _ => False) := by
  refine Met.ofW (cc := cX2_stationOfWay) (maxL := 2) (ret := (some .int)) (by decide) rfl ?_
  intro p e s m args below meth c s₁ B hml hv
  obtain ⟨rfl, hsz, hP, hK, hD0, hN⟩ := hv
  have hx := B.exec
  have hb := B.bytes
  have hr := B.returns
  have hts := atoms_spec (ws := wsX2_stationOfWay) B.pre
  have hown : s.vm.findClass RX2 = some m.cls := findClass_of_methodNamed B.named
  have hlocks := B.notSynchronized
  subst hsz
  have hin2 : ∀ w ∈ u_ws RX2 TX2 10, w ∈ wsX2_stationOfWay := by decide +kernel
  have hD := hD0
  have hP : va_P (dC, dI) vwCl ([] ++ va_pl L f) s.heap := hP
  have hl := lv_entry ([.ref h0, .int p0]) (n := 2) (Nat.le_of_ble_eq_true rfl)
  rw [lg_entry_eq]
  generalize (lg_sl ([.ref h0, .int p0]) ++ List.replicate (2 - (lg_sl ([.ref h0, .int p0])).length) Slot.unset).toArray = ls at hl ⊢
  have hl : lv_has ls 2 [(0, .ref h0), (1, .int p0)] := hl
  refine lv_iload_n hx hb dX2_stationOfWay_0 rfl (lv_at hl 1 rfl) ?_
  refine lv_if_lt (tgt := 22) hx hb dX2_stationOfWay_1 (by decide) (fun c_1 => ?_) (fun c_1 => ?_)
  · refine lv_iconst (v := (-1)) hx hb dX2_stationOfWay_22 (by decide) ?_
    exact W.iret (v := (-1)) hx hb hr (fun t9 ht hW => ⟨_, rfl, trivial, ht⟩) (fun q h => nomatch h) dX2_stationOfWay_23
  · refine lv_iload_n hx hb dX2_stationOfWay_4 rfl (lv_at hl 1 rfl) ?_
    refine lv_aload_n hx hb dX2_stationOfWay_5 rfl (lv_at hl 0 rfl) ?_
    obtain ⟨x_3, x_4, o_5, o_6, x_7, x_8, x_9, o_10, x_11, x_12, hf_2, hk_o_5, hk_o_6, hq_o_10⟩ := hT.get hk_h0
    obtain ⟨q_13, hq_13⟩ := pl_at (X := []) (f := f) (e := .inr (2, [.int x_3, .int x_4, .ref o_5, .ref o_6, .int x_7, .int x_8, .int x_9, va_rf o_10, .int x_11, .int x_12])) hk_h0.1 hf_2
    refine va_get (D := (dC, dI)) (ci := 2) (v := .ref o_5) (C := RX2) (T := TX2) (N := 10) hx hb hts hin2 hown hK hP q_13 hq_13 rfl 2 (by decide) (hts (.fieldLink RX2 25 "YamRiders$Rider" "stations" "[I") (by decide +kernel)) (fun _ h9 => h9) rfl dX2_stationOfWay_6 ?_
    obtain ⟨n_16, g_15, hn_17, hf_14⟩ := hT.get hk_o_5
    obtain ⟨q_18, hq_18⟩ := pl_at (X := []) (f := f) (e := .inl (cs 0, n_16, .inl g_15)) hk_o_5.1 hf_14
    refine va_alen (v := nI n_16) hx hb hK hP q_18 0 hq_18 rfl rfl dX2_stationOfWay_9 ?_
    refine lv_icmp_ge (tgt := 22) hx hb dX2_stationOfWay_10 (by decide) (fun c_19 => ?_) (fun c_19 => ?_)
    · refine lv_iconst (v := (-1)) hx hb dX2_stationOfWay_22 (by decide) ?_
      exact W.iret (v := (-1)) hx hb hr (fun t9 ht hW => ⟨_, rfl, trivial, ht⟩) (fun q h => nomatch h) dX2_stationOfWay_23
    · refine lv_aload_n hx hb dX2_stationOfWay_13 rfl (lv_at hl 0 rfl) ?_
      obtain ⟨q_20, hq_20⟩ := pl_at (X := []) (f := f) (e := .inr (2, [.int x_3, .int x_4, .ref o_5, .ref o_6, .int x_7, .int x_8, .int x_9, va_rf o_10, .int x_11, .int x_12])) hk_h0.1 hf_2
      refine va_get (D := (dC, dI)) (ci := 2) (v := .ref o_5) (C := RX2) (T := TX2) (N := 10) hx hb hts hin2 hown hK hP q_20 hq_20 rfl 2 (by decide) (hts (.fieldLink RX2 25 "YamRiders$Rider" "stations" "[I") (by decide +kernel)) (fun _ h9 => h9) rfl dX2_stationOfWay_14 ?_
      refine lv_iload_n hx hb dX2_stationOfWay_17 rfl (lv_at hl 1 rfl) ?_
      obtain ⟨q_21, hq_21⟩ := pl_at (X := []) (f := f) (e := .inl (cs 0, n_16, .inl g_15)) hk_o_5.1 hf_14
      refine va_iald hx hb hK hP q_21 0 hq_21 rfl (in_nI c_1 c_19 (by first | decide | omega)) dX2_stationOfWay_18 ?_
      refine lv_topi (fun v_22 ev_22 => ?_)
      refine lv_goto (tgt := 23) hx hb dX2_stationOfWay_19 (by decide) ?_
      exact W.iret (v := v_22) hx hb hr (fun t9 ht hW => ⟨_, rfl, trivial, ht⟩) (fun q h => nomatch h) dX2_stationOfWay_23

set_option maxHeartbeats 4000000 in
set_option maxRecDepth 100000 in
theorem t_X2_lastStation (l : Launch) (dC : Nat → ClassId) (dI : Nat → Nat → Nat) (cs : Nat → ClassId) (L : List Nat) (ka : Nat → Nat) (f : Nat → va_E) (h0 : Nat) (sz : Nat) (hT : tO L ka cs f) (hk_h0 : tp L ka 2 h0) : Met l yX2_lastStation wsX2_lastStation ({ frames := 1, cells := 0, slots := 0, locals := 21 }) (va_Pc [.ref h0] (cP dC dI ([] ++ va_pl L f) (tyC cs) sz)) (vp_Si (fun _ => True)) 0 0 (fun _ => False) := by
  refine Met.ofW (cc := cX2_lastStation) (maxL := 1) (ret := (some .int)) (by decide) rfl ?_
  intro p e s m args below meth c s₁ B hml hv
  obtain ⟨rfl, hsz, hP, hK, hD0, hN⟩ := hv
  have hx := B.exec
  have hb := B.bytes
  have hr := B.returns
  have hts := atoms_spec (ws := wsX2_lastStation) B.pre
  have hown : s.vm.findClass RX2 = some m.cls := findClass_of_methodNamed B.named
  have hlocks := B.notSynchronized
  subst hsz
  have hin2 : ∀ w ∈ u_ws RX2 TX2 10, w ∈ wsX2_lastStation := by decide +kernel
  have hD := hD0
  have hP : va_P (dC, dI) vwCl ([] ++ va_pl L f) s.heap := hP
  have hl := lv_entry ([.ref h0]) (n := 1) (Nat.le_of_ble_eq_true rfl)
  rw [lg_entry_eq]
  generalize (lg_sl ([.ref h0]) ++ List.replicate (1 - (lg_sl ([.ref h0])).length) Slot.unset).toArray = ls at hl ⊢
  have hl : lv_has ls 1 [(0, .ref h0)] := hl
  refine lv_aload_n hx hb dX2_lastStation_0 rfl (lv_at hl 0 rfl) ?_
  refine lv_aload_n hx hb dX2_lastStation_1 rfl (lv_at hl 0 rfl) ?_
  obtain ⟨x_2, x_3, o_4, o_5, x_6, x_7, x_8, o_9, x_10, x_11, hf_1, hk_o_4, hk_o_5, hq_o_9⟩ := hT.get hk_h0
  obtain ⟨q_12, hq_12⟩ := pl_at (X := []) (f := f) (e := .inr (2, [.int x_2, .int x_3, .ref o_4, .ref o_5, .int x_6, .int x_7, .int x_8, va_rf o_9, .int x_10, .int x_11])) hk_h0.1 hf_1
  refine va_get (D := (dC, dI)) (ci := 2) (v := .int x_7) (C := RX2) (T := TX2) (N := 10) hx hb hts hin2 hown hK hP q_12 hq_12 rfl 5 (by decide) (hts (.fieldLink RX2 34 "YamRiders$Rider" "reached" "I") (by decide +kernel)) (fun _ h9 => h9) rfl dX2_lastStation_2 ?_
  refine lv_iconst (v := 1) hx hb dX2_lastStation_5 (by decide) ?_
  refine lv_isub hx hb dX2_lastStation_6 ?_
  refine lv_topi (fun v_13 ev_13 => ?_)
  have hPc := hP.part (cx := []) [] rfl
  have hDc := hD.part (cx := []) [] (by decide) rfl
  have hKc := hK
  obtain ⟨q_14, hq_14⟩ := pl_at (X := []) (f := f) (e := .inr (2, [.int x_2, .int x_3, .ref o_4, .ref o_5, .int x_6, .int x_7, .int x_8, va_rf o_9, .int x_10, .int x_11])) hk_h0.1 hf_1
  refine cs_i (va_runV (As := [.int v_13]) (rest := []) ⟨hx, hb, hml, hown, hts⟩ (t_X2_stationOfWay l dC dI cs L ka f h0 v_13 s.heap.size hT hk_h0) (cwV 1 hts gX2_lastStation_X2_stationOfWay rfl rfl rfl (by decide +kernel) ⟨Nat.le_of_ble_eq_true rfl, Nat.le_of_ble_eq_true rfl⟩) ⟨c_blind, va_recv hKc hPc (ci := 2) (q0 := q_14) rfl hq_14, c_pre hPc hKc hDc hN⟩ rfl rfl hl.1 rfl (lv_room (Nat.le_of_ble_eq_true rfl)) dX2_lastStation_7 ⟨Nat.le_of_ble_eq_true rfl, Nat.le_of_ble_eq_true rfl⟩) (fun r_15 hr_15 => ?_)
  exact W.iret (v := r_15) hx hb hr (fun t9 ht hW => ⟨_, rfl, trivial, ht⟩) (fun q h => nomatch h) dX2_lastStation_10

set_option maxHeartbeats 4000000 in
set_option maxRecDepth 100000 in
theorem t_X2_nextStation (l : Launch) (dC : Nat → ClassId) (dI : Nat → Nat → Nat) (cs : Nat → ClassId) (L : List Nat) (ka : Nat → Nat) (f : Nat → va_E) (h0 : Nat) (sz : Nat) (hT : tO L ka cs f) (hk_h0 : tp L ka 2 h0) : Met l yX2_nextStation wsX2_nextStation ({ frames := 1, cells := 0, slots := 0, locals := 21 }) (va_Pc [.ref h0] (cP dC dI ([] ++ va_pl L f) (tyC cs) sz)) (vp_Si (fun _ => True)) 0 0 (fun _ => False) := by
  refine Met.ofW (cc := cX2_nextStation) (maxL := 1) (ret := (some .int)) (by decide) rfl ?_
  intro p e s m args below meth c s₁ B hml hv
  obtain ⟨rfl, hsz, hP, hK, hD0, hN⟩ := hv
  have hx := B.exec
  have hb := B.bytes
  have hr := B.returns
  have hts := atoms_spec (ws := wsX2_nextStation) B.pre
  have hown : s.vm.findClass RX2 = some m.cls := findClass_of_methodNamed B.named
  have hlocks := B.notSynchronized
  subst hsz
  have hin2 : ∀ w ∈ u_ws RX2 TX2 10, w ∈ wsX2_nextStation := by decide +kernel
  have hD := hD0
  have hP : va_P (dC, dI) vwCl ([] ++ va_pl L f) s.heap := hP
  have hl := lv_entry ([.ref h0]) (n := 1) (Nat.le_of_ble_eq_true rfl)
  rw [lg_entry_eq]
  generalize (lg_sl ([.ref h0]) ++ List.replicate (1 - (lg_sl ([.ref h0])).length) Slot.unset).toArray = ls at hl ⊢
  have hl : lv_has ls 1 [(0, .ref h0)] := hl
  refine lv_aload_n hx hb dX2_nextStation_0 rfl (lv_at hl 0 rfl) ?_
  refine lv_aload_n hx hb dX2_nextStation_1 rfl (lv_at hl 0 rfl) ?_
  obtain ⟨x_2, x_3, o_4, o_5, x_6, x_7, x_8, o_9, x_10, x_11, hf_1, hk_o_4, hk_o_5, hq_o_9⟩ := hT.get hk_h0
  obtain ⟨q_12, hq_12⟩ := pl_at (X := []) (f := f) (e := .inr (2, [.int x_2, .int x_3, .ref o_4, .ref o_5, .int x_6, .int x_7, .int x_8, va_rf o_9, .int x_10, .int x_11])) hk_h0.1 hf_1
  refine va_get (D := (dC, dI)) (ci := 2) (v := .int x_7) (C := RX2) (T := TX2) (N := 10) hx hb hts hin2 hown hK hP q_12 hq_12 rfl 5 (by decide) (hts (.fieldLink RX2 34 "YamRiders$Rider" "reached" "I") (by decide +kernel)) (fun _ h9 => h9) rfl dX2_nextStation_2 ?_
  have hPc := hP.part (cx := []) [] rfl
  have hDc := hD.part (cx := []) [] (by decide) rfl
  have hKc := hK
  obtain ⟨q_13, hq_13⟩ := pl_at (X := []) (f := f) (e := .inr (2, [.int x_2, .int x_3, .ref o_4, .ref o_5, .int x_6, .int x_7, .int x_8, va_rf o_9, .int x_10, .int x_11])) hk_h0.1 hf_1
  refine cs_i (va_runV (As := [.int x_7]) (rest := []) ⟨hx, hb, hml, hown, hts⟩ (t_X2_stationOfWay l dC dI cs L ka f h0 x_7 s.heap.size hT hk_h0) (cwV 1 hts gX2_nextStation_X2_stationOfWay rfl rfl rfl (by decide +kernel) ⟨Nat.le_of_ble_eq_true rfl, Nat.le_of_ble_eq_true rfl⟩) ⟨c_blind, va_recv hKc hPc (ci := 2) (q0 := q_13) rfl hq_13, c_pre hPc hKc hDc hN⟩ rfl rfl hl.1 rfl (lv_room (Nat.le_of_ble_eq_true rfl)) dX2_nextStation_5 ⟨Nat.le_of_ble_eq_true rfl, Nat.le_of_ble_eq_true rfl⟩) (fun r_14 hr_14 => ?_)
  exact W.iret (v := r_14) hx hb hr (fun t9 ht hW => ⟨_, rfl, trivial, ht⟩) (fun q h => nomatch h) dX2_nextStation_8

set_option maxHeartbeats 4000000 in
set_option maxRecDepth 100000 in
theorem t_X2_newsKnownSince (l : Launch) (dC : Nat → ClassId) (dI : Nat → Nat → Nat) (cs : Nat → ClassId) (L : List Nat) (ka : Nat → Nat) (f : Nat → va_E) (h0 : Nat) (p0 : Int32) (sz : Nat) (hT : tO L ka cs f) (hk_h0 : tp L ka 2 h0) : Met l yX2_newsKnownSince wsX2_newsKnownSince ({ frames := 1, cells := 0, slots := 0, locals := 20 }) (va_Pc [.ref h0, .int p0] (cP dC dI ([] ++ va_pl L f) (tyC cs) sz)) (vp_Si (fun _ => True)) 0 0 (fun _ => False) := by
  refine Met.ofW (cc := cX2_newsKnownSince) (maxL := 2) (ret := (some .int)) (by decide) rfl ?_
  intro p e s m args below meth c s₁ B hml hv
  obtain ⟨rfl, hsz, hP, hK, hD0, hN⟩ := hv
  have hx := B.exec
  have hb := B.bytes
  have hr := B.returns
  have hts := atoms_spec (ws := wsX2_newsKnownSince) B.pre
  have hown : s.vm.findClass RX2 = some m.cls := findClass_of_methodNamed B.named
  have hlocks := B.notSynchronized
  subst hsz
  have hin2 : ∀ w ∈ u_ws RX2 TX2 10, w ∈ wsX2_newsKnownSince := by decide +kernel
  have hD := hD0
  have hP : va_P (dC, dI) vwCl ([] ++ va_pl L f) s.heap := hP
  have hl := lv_entry ([.ref h0, .int p0]) (n := 2) (Nat.le_of_ble_eq_true rfl)
  rw [lg_entry_eq]
  generalize (lg_sl ([.ref h0, .int p0]) ++ List.replicate (2 - (lg_sl ([.ref h0, .int p0])).length) Slot.unset).toArray = ls at hl ⊢
  have hl : lv_has ls 2 [(0, .ref h0), (1, .int p0)] := hl
  refine lv_iload_n hx hb dX2_newsKnownSince_0 rfl (lv_at hl 1 rfl) ?_
  have hPc := hP.sub (ws' := []) [] rfl
  have hDc := hD.sub (ws' := []) [] (by decide) rfl
  have hKc := hK.sub (tys' := []) [] rfl
  refine cs_i (va_runSN (As := [.int p0]) (rest := []) ⟨hx, hb, hml, hown, hts⟩ (c_X8_isStation l dC dI p0 s.heap.size) ⟨va_cnB 1 hts ggX2_newsKnownSince_X8_isStation rfl rfl rfl (hN.1 (.methodLinkNest RX2 41 yX8_isStation "YamRiders") (by decide +kernel)) (hts (.initialized RX8) (by decide +kernel)) (by decide +kernel) ⟨Nat.le_of_ble_eq_true rfl, Nat.le_of_ble_eq_true rfl⟩, hts (.static yX8_isStation) (by decide +kernel), trivial⟩ ⟨c_blind, c_pre hPc hKc hDc hN⟩ rfl rfl hl.1 rfl (lv_room (Nat.le_of_ble_eq_true rfl)) dX2_newsKnownSince_1 ⟨Nat.le_of_ble_eq_true rfl, Nat.le_of_ble_eq_true rfl⟩) (fun r_1 hr_1 => ?_)
  subst hr_1
  refine lv_if_eq (tgt := 16) hx hb dX2_newsKnownSince_4 (by decide) (fun c_2 => ?_) (fun c_2 => ?_)
  · refine lv_iconst (v := (-1)) hx hb dX2_newsKnownSince_16 (by decide) ?_
    exact W.iret (v := (-1)) hx hb hr (fun t9 ht hW => ⟨_, rfl, trivial, ht⟩) (fun q h => nomatch h) dX2_newsKnownSince_17
  · refine lv_aload_n hx hb dX2_newsKnownSince_7 rfl (lv_at hl 0 rfl) ?_
    obtain ⟨x_4, x_5, o_6, o_7, x_8, x_9, x_10, o_11, x_12, x_13, hf_3, hk_o_6, hk_o_7, hq_o_11⟩ := hT.get hk_h0
    obtain ⟨q_14, hq_14⟩ := pl_at (X := []) (f := f) (e := .inr (2, [.int x_4, .int x_5, .ref o_6, .ref o_7, .int x_8, .int x_9, .int x_10, va_rf o_11, .int x_12, .int x_13])) hk_h0.1 hf_3
    refine va_get (D := (dC, dI)) (ci := 2) (v := .ref o_7) (C := RX2) (T := TX2) (N := 10) hx hb hts hin2 hown hK hP q_14 hq_14 rfl 3 (by decide) (hts (.fieldLink RX2 9 "YamRiders$Rider" "newsSince" "[I") (by decide +kernel)) (fun _ h9 => h9) rfl dX2_newsKnownSince_8 ?_
    refine lv_iload_n hx hb dX2_newsKnownSince_11 rfl (lv_at hl 1 rfl) ?_
    obtain ⟨g_16, hf_15⟩ := hT.get hk_o_7
    obtain ⟨q_17, hq_17⟩ := pl_at (X := []) (f := f) (e := .inl (cs 0, 12, .inl g_16)) hk_o_7.1 hf_15
    refine va_iald hx hb hK hP q_17 0 hq_17 rfl (st_in c_2) dX2_newsKnownSince_12 ?_
    refine lv_topi (fun v_18 ev_18 => ?_)
    refine lv_goto (tgt := 17) hx hb dX2_newsKnownSince_13 (by decide) ?_
    exact W.iret (v := v_18) hx hb hr (fun t9 ht hW => ⟨_, rfl, trivial, ht⟩) (fun q h => nomatch h) dX2_newsKnownSince_17

set_option maxHeartbeats 4000000 in
set_option maxRecDepth 100000 in
theorem t_X2_horseRidden (l : Launch) (dC : Nat → ClassId) (dI : Nat → Nat → Nat) (cs : Nat → ClassId) (L : List Nat) (ka : Nat → Nat) (f : Nat → va_E) (h0 : Nat) (sz : Nat) (hT : tO L ka cs f) (hk_h0 : tp L ka 2 h0) : Met l yX2_horseRidden wsX2_horseRidden ({ frames := 0, cells := 0, slots := 0, locals := 0 }) (va_Pc [.ref h0] (cP dC dI ([] ++ va_pl L f) (tyC cs) sz)) (vp_Si (fun _ => True)) 0 0 (fun _ => False) := by
  refine Met.ofW (cc := cX2_horseRidden) (maxL := 1) (ret := (some .int)) (by decide) rfl ?_
  intro p e s m args below meth c s₁ B hml hv
  obtain ⟨rfl, hsz, hP, hK, hD0, hN⟩ := hv
  have hx := B.exec
  have hb := B.bytes
  have hr := B.returns
  have hts := atoms_spec (ws := wsX2_horseRidden) B.pre
  have hown : s.vm.findClass RX2 = some m.cls := findClass_of_methodNamed B.named
  have hlocks := B.notSynchronized
  subst hsz
  have hin0 : ∀ w ∈ u_ws RX0 TX0 3, w ∈ wsX2_horseRidden := by decide +kernel
  have hin2 : ∀ w ∈ u_ws RX2 TX2 10, w ∈ wsX2_horseRidden := by decide +kernel
  have hD := hD0
  have hP : va_P (dC, dI) vwCl ([] ++ va_pl L f) s.heap := hP
  have hl := lv_entry ([.ref h0]) (n := 1) (Nat.le_of_ble_eq_true rfl)
  rw [lg_entry_eq]
  generalize (lg_sl ([.ref h0]) ++ List.replicate (1 - (lg_sl ([.ref h0])).length) Slot.unset).toArray = ls at hl ⊢
  have hl : lv_has ls 1 [(0, .ref h0)] := hl
  refine lv_aload_n hx hb dX2_horseRidden_0 rfl (lv_at hl 0 rfl) ?_
  obtain ⟨x_2, x_3, o_4, o_5, x_6, x_7, x_8, o_9, x_10, x_11, hf_1, hk_o_4, hk_o_5, hq_o_9⟩ := hT.get hk_h0
  obtain ⟨q_12, hq_12⟩ := pl_at (X := []) (f := f) (e := .inr (2, [.int x_2, .int x_3, .ref o_4, .ref o_5, .int x_6, .int x_7, .int x_8, va_rf o_9, .int x_10, .int x_11])) hk_h0.1 hf_1
  refine va_get (D := (dC, dI)) (ci := 2) (v := .int x_6) (C := RX2) (T := TX2) (N := 10) hx hb hts hin2 hown hK hP q_12 hq_12 rfl 4 (by decide) (hts (.fieldLink RX2 15 "YamRiders$Rider" "state" "I") (by decide +kernel)) (fun _ h9 => h9) rfl dX2_horseRidden_1 ?_
  refine lv_iconst (v := 1) hx hb dX2_horseRidden_4 (by decide) ?_
  refine lv_icmp_ne (tgt := 25) hx hb dX2_horseRidden_5 (by decide) (fun c_13 => ?_) (fun c_13 => ?_)
  · refine lv_iconst (v := (-1)) hx hb dX2_horseRidden_25 (by decide) ?_
    exact W.iret (v := (-1)) hx hb hr (fun t9 ht hW => ⟨_, rfl, trivial, ht⟩) (fun q h => nomatch h) dX2_horseRidden_26
  · refine lv_aload_n hx hb dX2_horseRidden_8 rfl (lv_at hl 0 rfl) ?_
    obtain ⟨q_14, hq_14⟩ := pl_at (X := []) (f := f) (e := .inr (2, [.int x_2, .int x_3, .ref o_4, .ref o_5, .int x_6, .int x_7, .int x_8, va_rf o_9, .int x_10, .int x_11])) hk_h0.1 hf_1
    refine va_get (D := (dC, dI)) (ci := 2) (v := va_rf o_9) (C := RX2) (T := TX2) (N := 10) hx hb hts hin2 hown hK hP q_14 hq_14 rfl 7 (by decide) (hts (.fieldLink RX2 45 "YamRiders$Rider" "horse" "LYamRiders$Horse;") (by decide +kernel)) (fun _ h9 => h9) rfl dX2_horseRidden_9 ?_
    rcases o_9 with _ | o_15
    · have hf_1 : f h0 = .inr (2, [.int x_2, .int x_3, .ref o_4, .ref o_5, .int x_6, .int x_7, .int x_8, .null, .int x_10, .int x_11]) := hf_1
      refine W.eq (g2 := F0 m 12 ls [.null]) rfl ?_
      refine lv_ifnullN (tgt := 25) hx hb dX2_horseRidden_12 (by decide) ?_
      refine lv_iconst (v := (-1)) hx hb dX2_horseRidden_25 (by decide) ?_
      exact W.iret (v := (-1)) hx hb hr (fun t9 ht hW => ⟨_, rfl, trivial, ht⟩) (fun q h => nomatch h) dX2_horseRidden_26
    · have hf_1 : f h0 = .inr (2, [.int x_2, .int x_3, .ref o_4, .ref o_5, .int x_6, .int x_7, .int x_8, .ref o_15, .int x_10, .int x_11]) := hf_1
      have hk_o_15 := hq_o_9 _ rfl
      refine W.eq (g2 := F0 m 12 ls [.ref o_15]) rfl ?_
      refine lv_ifnull hx hb dX2_horseRidden_12 ?_
      refine lv_aload_n hx hb dX2_horseRidden_15 rfl (lv_at hl 0 rfl) ?_
      obtain ⟨q_16, hq_16⟩ := pl_at (X := []) (f := f) (e := .inr (2, [.int x_2, .int x_3, .ref o_4, .ref o_5, .int x_6, .int x_7, .int x_8, .ref o_15, .int x_10, .int x_11])) hk_h0.1 hf_1
      refine va_get (D := (dC, dI)) (ci := 2) (v := .ref o_15) (C := RX2) (T := TX2) (N := 10) hx hb hts hin2 hown hK hP q_16 hq_16 rfl 7 (by decide) (hts (.fieldLink RX2 45 "YamRiders$Rider" "horse" "LYamRiders$Horse;") (by decide +kernel)) (fun _ h9 => h9) rfl dX2_horseRidden_16 ?_
      obtain ⟨x_18, x_19, x_20, hf_17⟩ := hT.get hk_o_15
      obtain ⟨q_21, hq_21⟩ := pl_at (X := []) (f := f) (e := .inr (0, [.int x_18, .int x_19, .int x_20])) hk_o_15.1 hf_17
      refine va_getN (D := (dC, dI)) (ci := 0) (v := .int x_18) (C := RX0) (T := TX0) (N := 3) hx hb hts hin0 hown hK hP q_21 hq_21 rfl 0 (by decide) (hN.nx (.fieldLinkNest RX2 49 "YamRiders$Horse" "number" "I" "YamRiders") (by decide +kernel)) (fun _ h9 => h9) rfl dX2_horseRidden_19 ?_
      refine lv_goto (tgt := 26) hx hb dX2_horseRidden_22 (by decide) ?_
      exact W.iret (v := x_18) hx hb hr (fun t9 ht hW => ⟨_, rfl, trivial, ht⟩) (fun q h => nomatch h) dX2_horseRidden_26

set_option maxHeartbeats 4000000 in
set_option maxRecDepth 100000 in
theorem t_X2_leaveOn (l : Launch) (dC : Nat → ClassId) (dI : Nat → Nat → Nat) (cs : Nat → ClassId) (L : List Nat) (ka : Nat → Nat) (f : Nat → va_E) (h0 : Nat) (e2 : Nat) (p1 : Int32) (p2 : Int32) (sz : Nat) (hT : tO L ka cs f) (hk_h0 : tp L ka 2 h0) (hk_e2 : tp L ka 0 e2) : Met l yX2_leaveOn wsX2_leaveOn ({ frames := 0, cells := 0, slots := 0, locals := 0 }) (va_Pc [.ref h0, .ref e2, .int p1, .int p2] (cP dC dI ([] ++ va_pl L f) (tyC cs) sz)) (va_Qv (fun (_ : Unit) => True) (fun (_ : Unit) t9 => ∃ (f2 : Nat → va_E), (tO L ka cs f2) ∧ cQ dC dI ([] ++ va_pl L f2) [] (va_A ([] ++ va_pl L f) sz) t9) (va_A ([] ++ va_pl L f) sz)) 0 0 (va_A ([] ++ va_pl L f) sz) := by
  refine Met.ofW (cc := cX2_leaveOn) (maxL := 4) (ret := none) (by decide) rfl ?_
  intro p e s m args below meth c s₁ B hml hv
  obtain ⟨rfl, hsz, hP, hK, hD0, hN⟩ := hv
  have hx := B.exec
  have hb := B.bytes
  have hr := B.returns
  have hts := atoms_spec (ws := wsX2_leaveOn) B.pre
  have hown : s.vm.findClass RX2 = some m.cls := findClass_of_methodNamed B.named
  have hlocks := B.notSynchronized
  subst hsz
  have hin2 : ∀ w ∈ u_ws RX2 TX2 10, w ∈ wsX2_leaveOn := by decide +kernel
  have hD := hD0.self (sz := s.heap.size)
  generalize hAe : va_A ([] ++ va_pl L f) s.heap.size = A at hD ⊢
  have hA : ∀ q : Nat, s.heap.size ≤ q → A q := fun q h => by rw [← hAe]; exact Or.inr h
  have hS : va_S A s.heap s.heap [] := va_S.rf
  have hP : va_P (dC, dI) vwCl ([] ++ va_pl L f) s.heap := hP
  have hl := lv_entry ([.ref h0, .ref e2, .int p1, .int p2]) (n := 4) (Nat.le_of_ble_eq_true rfl)
  rw [lg_entry_eq]
  generalize (lg_sl ([.ref h0, .ref e2, .int p1, .int p2]) ++ List.replicate (4 - (lg_sl ([.ref h0, .ref e2, .int p1, .int p2])).length) Slot.unset).toArray = ls at hl ⊢
  have hl : lv_has ls 4 [(0, .ref h0), (1, .ref e2), (2, .int p1), (3, .int p2)] := hl
  refine lv_aload_n hx hb dX2_leaveOn_0 rfl (lv_at hl 0 rfl) ?_
  refine lv_aload_n hx hb dX2_leaveOn_1 rfl (lv_at hl 1 rfl) ?_
  obtain ⟨x_2, x_3, o_4, o_5, x_6, x_7, x_8, o_9, x_10, x_11, hf_1, hk_o_4, hk_o_5, hq_o_9⟩ := hT.get hk_h0
  obtain ⟨q_12, hq_12⟩ := pl_at (X := []) (f := f) (e := .inr (2, [.int x_2, .int x_3, .ref o_4, .ref o_5, .int x_6, .int x_7, .int x_8, va_rf o_9, .int x_10, .int x_11])) hk_h0.1 hf_1
  refine va_put (D := (dC, dI)) (ci := 2) (v := .ref e2) (ty := (tyX2 7)) (C := RX2) (T := TX2) (N := 10) hx hb hts hin2 tyX2 tyX2_ok nmX2 hown hK hP hD hS q_12 hq_12 rfl 7 (by decide) (hts (.fieldLink RX2 45 "YamRiders$Rider" "horse" "LYamRiders$Horse;") (by decide +kernel)) (fun _ h9 => h9) rfl (by decide +kernel) rfl rfl (Nat.le_of_ble_eq_true rfl) dX2_leaveOn_2 (fun H locs hP9 hD9 hS => ?_)
  have hs_13 := pl_st (.inr (2, [.int x_2, .int x_3, .ref o_4, .ref o_5, .int x_6, .int x_7, .int x_8, .ref e2, .int x_10, .int x_11])) hD hk_h0.1 hf_1 hq_12
  have hP9 : va_P (dC, dI) vwCl ((([] : va_W) ++ va_pl L f).set q_12 (h0, .inr (2, [.int x_2, .int x_3, .ref o_4, .ref o_5, .int x_6, .int x_7, .int x_8, .ref e2, .int x_10, .int x_11]))) H := hP9
  have hD9 : va_D A ((([] : va_W) ++ va_pl L f).set q_12 (h0, .inr (2, [.int x_2, .int x_3, .ref o_4, .ref o_5, .int x_6, .int x_7, .int x_8, .ref e2, .int x_10, .int x_11]))) := hD9
  rw [hs_13] at hP9 hD9
  have hT := hT.put (e := .inr (2, [.int x_2, .int x_3, .ref o_4, .ref o_5, .int x_6, .int x_7, .int x_8, .ref e2, .int x_10, .int x_11])) hk_h0 ⟨x_2, x_3, o_4, o_5, x_6, x_7, x_8, some e2, x_10, x_11, rfl, hk_o_4, hk_o_5, (fun _ h9 => Option.some.inj h9 ▸ hk_e2)⟩
  have hf_14 : va_up f h0 (.inr (2, [.int x_2, .int x_3, .ref o_4, .ref o_5, .int x_6, .int x_7, .int x_8, .ref e2, .int x_10, .int x_11])) h0 = .inr (2, [.int x_2, .int x_3, .ref o_4, .ref o_5, .int x_6, .int x_7, .int x_8, .ref e2, .int x_10, .int x_11]) := va_up_self _ _ _
  have hP := hP9
  have hD := hD9
  clear hP9 hD9 hs_13
  generalize va_up f h0 (.inr (2, [.int x_2, .int x_3, .ref o_4, .ref o_5, .int x_6, .int x_7, .int x_8, .ref e2, .int x_10, .int x_11])) = f_15 at hP hD hT hf_14
  refine lv_aload_n hx hb dX2_leaveOn_5 rfl (lv_at hl 0 rfl) ?_
  refine lv_iload_n hx hb dX2_leaveOn_6 rfl (lv_at hl 2 rfl) ?_
  obtain ⟨q_16, hq_16⟩ := pl_at (X := []) (f := f_15) (e := .inr (2, [.int x_2, .int x_3, .ref o_4, .ref o_5, .int x_6, .int x_7, .int x_8, .ref e2, .int x_10, .int x_11])) hk_h0.1 hf_14
  refine va_put (D := (dC, dI)) (ci := 2) (v := .int p1) (ty := (tyX2 8)) (C := RX2) (T := TX2) (N := 10) hx hb hts hin2 tyX2 tyX2_ok nmX2 hown hK hP hD hS q_16 hq_16 rfl 8 (by decide) (hts (.fieldLink RX2 54 "YamRiders$Rider" "left" "I") (by decide +kernel)) (fun _ h9 => h9) rfl (by decide +kernel) rfl rfl (Nat.le_of_ble_eq_true rfl) dX2_leaveOn_7 (fun H locs hP9 hD9 hS => ?_)
  have hs_17 := pl_st (.inr (2, [.int x_2, .int x_3, .ref o_4, .ref o_5, .int x_6, .int x_7, .int x_8, .ref e2, .int p1, .int x_11])) hD hk_h0.1 hf_14 hq_16
  have hP9 : va_P (dC, dI) vwCl ((([] : va_W) ++ va_pl L f_15).set q_16 (h0, .inr (2, [.int x_2, .int x_3, .ref o_4, .ref o_5, .int x_6, .int x_7, .int x_8, .ref e2, .int p1, .int x_11]))) H := hP9
  have hD9 : va_D A ((([] : va_W) ++ va_pl L f_15).set q_16 (h0, .inr (2, [.int x_2, .int x_3, .ref o_4, .ref o_5, .int x_6, .int x_7, .int x_8, .ref e2, .int p1, .int x_11]))) := hD9
  rw [hs_17] at hP9 hD9
  have hT := hT.put (e := .inr (2, [.int x_2, .int x_3, .ref o_4, .ref o_5, .int x_6, .int x_7, .int x_8, .ref e2, .int p1, .int x_11])) hk_h0 ⟨x_2, x_3, o_4, o_5, x_6, x_7, x_8, some e2, p1, x_11, rfl, hk_o_4, hk_o_5, (fun _ h9 => Option.some.inj h9 ▸ hk_e2)⟩
  have hf_18 : va_up f_15 h0 (.inr (2, [.int x_2, .int x_3, .ref o_4, .ref o_5, .int x_6, .int x_7, .int x_8, .ref e2, .int p1, .int x_11])) h0 = .inr (2, [.int x_2, .int x_3, .ref o_4, .ref o_5, .int x_6, .int x_7, .int x_8, .ref e2, .int p1, .int x_11]) := va_up_self _ _ _
  have hP := hP9
  have hD := hD9
  clear hP9 hD9 hs_17
  generalize va_up f_15 h0 (.inr (2, [.int x_2, .int x_3, .ref o_4, .ref o_5, .int x_6, .int x_7, .int x_8, .ref e2, .int p1, .int x_11])) = f_19 at hP hD hT hf_18
  refine lv_aload_n hx hb dX2_leaveOn_10 rfl (lv_at hl 0 rfl) ?_
  refine lv_iload_n hx hb dX2_leaveOn_11 rfl (lv_at hl 3 rfl) ?_
  obtain ⟨q_20, hq_20⟩ := pl_at (X := []) (f := f_19) (e := .inr (2, [.int x_2, .int x_3, .ref o_4, .ref o_5, .int x_6, .int x_7, .int x_8, .ref e2, .int p1, .int x_11])) hk_h0.1 hf_18
  refine va_put (D := (dC, dI)) (ci := 2) (v := .int p2) (ty := (tyX2 9)) (C := RX2) (T := TX2) (N := 10) hx hb hts hin2 tyX2 tyX2_ok nmX2 hown hK hP hD hS q_20 hq_20 rfl 9 (by decide) (hts (.fieldLink RX2 57 "YamRiders$Rider" "time" "I") (by decide +kernel)) (fun _ h9 => h9) rfl (by decide +kernel) rfl rfl (Nat.le_of_ble_eq_true rfl) dX2_leaveOn_12 (fun H locs hP9 hD9 hS => ?_)
  have hs_21 := pl_st (.inr (2, [.int x_2, .int x_3, .ref o_4, .ref o_5, .int x_6, .int x_7, .int x_8, .ref e2, .int p1, .int p2])) hD hk_h0.1 hf_18 hq_20
  have hP9 : va_P (dC, dI) vwCl ((([] : va_W) ++ va_pl L f_19).set q_20 (h0, .inr (2, [.int x_2, .int x_3, .ref o_4, .ref o_5, .int x_6, .int x_7, .int x_8, .ref e2, .int p1, .int p2]))) H := hP9
  have hD9 : va_D A ((([] : va_W) ++ va_pl L f_19).set q_20 (h0, .inr (2, [.int x_2, .int x_3, .ref o_4, .ref o_5, .int x_6, .int x_7, .int x_8, .ref e2, .int p1, .int p2]))) := hD9
  rw [hs_21] at hP9 hD9
  have hT := hT.put (e := .inr (2, [.int x_2, .int x_3, .ref o_4, .ref o_5, .int x_6, .int x_7, .int x_8, .ref e2, .int p1, .int p2])) hk_h0 ⟨x_2, x_3, o_4, o_5, x_6, x_7, x_8, some e2, p1, p2, rfl, hk_o_4, hk_o_5, (fun _ h9 => Option.some.inj h9 ▸ hk_e2)⟩
  have hf_22 : va_up f_19 h0 (.inr (2, [.int x_2, .int x_3, .ref o_4, .ref o_5, .int x_6, .int x_7, .int x_8, .ref e2, .int p1, .int p2])) h0 = .inr (2, [.int x_2, .int x_3, .ref o_4, .ref o_5, .int x_6, .int x_7, .int x_8, .ref e2, .int p1, .int p2]) := va_up_self _ _ _
  have hP := hP9
  have hD := hD9
  clear hP9 hD9 hs_21
  generalize va_up f_19 h0 (.inr (2, [.int x_2, .int x_3, .ref o_4, .ref o_5, .int x_6, .int x_7, .int x_8, .ref e2, .int p1, .int p2])) = f_23 at hP hD hT hf_22
  refine lv_aload_n hx hb dX2_leaveOn_15 rfl (lv_at hl 0 rfl) ?_
  refine lv_iconst (v := 1) hx hb dX2_leaveOn_16 (by decide) ?_
  obtain ⟨q_24, hq_24⟩ := pl_at (X := []) (f := f_23) (e := .inr (2, [.int x_2, .int x_3, .ref o_4, .ref o_5, .int x_6, .int x_7, .int x_8, .ref e2, .int p1, .int p2])) hk_h0.1 hf_22
  refine va_put (D := (dC, dI)) (ci := 2) (v := .int 1) (ty := (tyX2 4)) (C := RX2) (T := TX2) (N := 10) hx hb hts hin2 tyX2 tyX2_ok nmX2 hown hK hP hD hS q_24 hq_24 rfl 4 (by decide) (hts (.fieldLink RX2 15 "YamRiders$Rider" "state" "I") (by decide +kernel)) (fun _ h9 => h9) rfl (by decide +kernel) rfl rfl (Nat.le_of_ble_eq_true rfl) dX2_leaveOn_17 (fun H locs hP9 hD9 hS => ?_)
  have hs_25 := pl_st (.inr (2, [.int x_2, .int x_3, .ref o_4, .ref o_5, .int 1, .int x_7, .int x_8, .ref e2, .int p1, .int p2])) hD hk_h0.1 hf_22 hq_24
  have hP9 : va_P (dC, dI) vwCl ((([] : va_W) ++ va_pl L f_23).set q_24 (h0, .inr (2, [.int x_2, .int x_3, .ref o_4, .ref o_5, .int 1, .int x_7, .int x_8, .ref e2, .int p1, .int p2]))) H := hP9
  have hD9 : va_D A ((([] : va_W) ++ va_pl L f_23).set q_24 (h0, .inr (2, [.int x_2, .int x_3, .ref o_4, .ref o_5, .int 1, .int x_7, .int x_8, .ref e2, .int p1, .int p2]))) := hD9
  rw [hs_25] at hP9 hD9
  have hT := hT.put (e := .inr (2, [.int x_2, .int x_3, .ref o_4, .ref o_5, .int 1, .int x_7, .int x_8, .ref e2, .int p1, .int p2])) hk_h0 ⟨x_2, x_3, o_4, o_5, 1, x_7, x_8, some e2, p1, p2, rfl, hk_o_4, hk_o_5, (fun _ h9 => Option.some.inj h9 ▸ hk_e2)⟩
  have hf_26 : va_up f_23 h0 (.inr (2, [.int x_2, .int x_3, .ref o_4, .ref o_5, .int 1, .int x_7, .int x_8, .ref e2, .int p1, .int p2])) h0 = .inr (2, [.int x_2, .int x_3, .ref o_4, .ref o_5, .int 1, .int x_7, .int x_8, .ref e2, .int p1, .int p2]) := va_up_self _ _ _
  have hP := hP9
  have hD := hD9
  clear hP9 hD9 hs_25
  generalize va_up f_23 h0 (.inr (2, [.int x_2, .int x_3, .ref o_4, .ref o_5, .int 1, .int x_7, .int x_8, .ref e2, .int p1, .int p2])) = f_27 at hP hD hT hf_26
  have hP9 := hP.part (cx := []) [] rfl
  have hD9 := hD.part (cx := []) [] (by decide) rfl
  have hK9 := hK.sub (tys' := []) [] rfl
  refine W.widen (k := 0) (n := 0) (Nat.le_of_ble_eq_true rfl) (Nat.le_of_ble_eq_true rfl) ?_
  exact W.vret hx hb hr (fun t9 ht hW => ⟨⟨(), rfl, trivial, f_27, hT, by rw [ht]; exact hP9, va_K.moved hW.alike hK9, hD9⟩, hS.F ht⟩) hS.2.2 dX2_leaveOn_20

set_option maxHeartbeats 4000000 in
set_option maxRecDepth 100000 in
theorem t_X2_comeTo (l : Launch) (dC : Nat → ClassId) (dI : Nat → Nat → Nat) (cs : Nat → ClassId) (L : List Nat) (ka : Nat → Nat) (f : Nat → va_E) (h0 : Nat) (p0 : Int32) (sz : Nat) (hT : tO L ka cs f) (hk_h0 : tp L ka 2 h0) : Met l yX2_comeToNextStation wsX2_comeToNextStation ({ frames := 2, cells := 0, slots := 0, locals := 41 }) (va_Pc [.ref h0, .int p0] (cP dC dI ([] ++ va_pl L f) (tyC cs) sz)) (va_Qv (fun (_ : Unit) => True) (fun (_ : Unit) t9 => ∃ (f2 : Nat → va_E), (tO L ka cs f2) ∧ cQ dC dI ([] ++ va_pl L f2) [] (va_A ([] ++ va_pl L f) sz) t9) (va_A ([] ++ va_pl L f) sz)) 0 0 (va_A ([] ++ va_pl L f) sz) := by
  refine Met.ofW (cc := cX2_comeToNextStation) (maxL := 3) (ret := none) (by decide) rfl ?_
  intro p e s m args below meth c s₁ B hml hv
  obtain ⟨rfl, hsz, hP, hK, hD0, hN⟩ := hv
  have hx := B.exec
  have hb := B.bytes
  have hr := B.returns
  have hts := atoms_spec (ws := wsX2_comeToNextStation) B.pre
  have hown : s.vm.findClass RX2 = some m.cls := findClass_of_methodNamed B.named
  have hlocks := B.notSynchronized
  subst hsz
  have hin2 : ∀ w ∈ u_ws RX2 TX2 10, w ∈ wsX2_comeToNextStation := by decide +kernel
  have hD := hD0.self (sz := s.heap.size)
  generalize hAe : va_A ([] ++ va_pl L f) s.heap.size = A at hD ⊢
  have hA : ∀ q : Nat, s.heap.size ≤ q → A q := fun q h => by rw [← hAe]; exact Or.inr h
  have hS : va_S A s.heap s.heap [] := va_S.rf
  have hP : va_P (dC, dI) vwCl ([] ++ va_pl L f) s.heap := hP
  have hl := lv_entry ([.ref h0, .int p0]) (n := 3) (Nat.le_of_ble_eq_true rfl)
  rw [lg_entry_eq]
  generalize (lg_sl ([.ref h0, .int p0]) ++ List.replicate (3 - (lg_sl ([.ref h0, .int p0])).length) Slot.unset).toArray = ls at hl ⊢
  have hl : lv_has ls 3 [(0, .ref h0), (1, .int p0)] := hl
  refine lv_aload_n hx hb dX2_comeToNextStation_0 rfl (lv_at hl 0 rfl) ?_
  have hPc := hP.part (cx := []) [] rfl
  have hDc := hD.part (cx := []) [] (by decide) rfl
  have hKc := hK
  obtain ⟨x_2, x_3, o_4, o_5, x_6, x_7, x_8, o_9, x_10, x_11, hf_1, hk_o_4, hk_o_5, hq_o_9⟩ := hT.get hk_h0
  obtain ⟨q_12, hq_12⟩ := pl_at (X := []) (f := f) (e := .inr (2, [.int x_2, .int x_3, .ref o_4, .ref o_5, .int x_6, .int x_7, .int x_8, va_rf o_9, .int x_10, .int x_11])) hk_h0.1 hf_1
  refine cs_i (va_runV (As := []) (rest := []) ⟨hx, hb, hml, hown, hts⟩ (t_X2_nextStation l dC dI cs L ka f h0 s.heap.size hT hk_h0) (cwV 0 hts gX2_comeToNextStation_X2_nextStation rfl rfl rfl (by decide +kernel) ⟨Nat.le_of_ble_eq_true rfl, Nat.le_of_ble_eq_true rfl⟩) ⟨c_blind, va_recv hKc hPc (ci := 2) (q0 := q_12) rfl hq_12, c_pre hPc hKc hDc hN⟩ rfl rfl hl.1 rfl (lv_room (Nat.le_of_ble_eq_true rfl)) dX2_comeToNextStation_1 ⟨Nat.le_of_ble_eq_true rfl, Nat.le_of_ble_eq_true rfl⟩) (fun r_13 hr_13 => ?_)
  refine lv_istore_n (lv' := [(2, .int r_13), (0, .ref h0), (1, .int p0)]) hx hb dX2_comeToNextStation_4 rfl hl (by decide) rfl (fun ls hl => ?_)
  refine lv_iload_n hx hb dX2_comeToNextStation_5 rfl (lv_at hl 0 rfl) ?_
  have hPc := hP.sub (ws' := []) [] rfl
  have hDc := hD.sub (ws' := []) [] (by decide) rfl
  have hKc := hK.sub (tys' := []) [] rfl
  refine cs_i (va_runSN (As := [.int r_13]) (rest := []) ⟨hx, hb, hml, hown, hts⟩ (c_X8_isStation l dC dI r_13 s.heap.size) ⟨va_cnB 1 hts ggX2_comeToNextStation_X8_isStation rfl rfl rfl (hN.1 (.methodLinkNest RX2 41 yX8_isStation "YamRiders") (by decide +kernel)) (hts (.initialized RX8) (by decide +kernel)) (by decide +kernel) ⟨Nat.le_of_ble_eq_true rfl, Nat.le_of_ble_eq_true rfl⟩, hts (.static yX8_isStation) (by decide +kernel), trivial⟩ ⟨c_blind, c_pre hPc hKc hDc hN⟩ rfl rfl hl.1 rfl (lv_room (Nat.le_of_ble_eq_true rfl)) dX2_comeToNextStation_6 ⟨Nat.le_of_ble_eq_true rfl, Nat.le_of_ble_eq_true rfl⟩) (fun r_14 hr_14 => ?_)
  subst hr_14
  refine lv_if_ne (tgt := 13) hx hb dX2_comeToNextStation_9 (by decide) (fun c_15 => ?_) (fun c_15 => ?_)
  · refine lv_aload_n hx hb dX2_comeToNextStation_13 rfl (lv_at hl 1 rfl) ?_
    obtain ⟨q_16, hq_16⟩ := pl_at (X := []) (f := f) (e := .inr (2, [.int x_2, .int x_3, .ref o_4, .ref o_5, .int x_6, .int x_7, .int x_8, va_rf o_9, .int x_10, .int x_11])) hk_h0.1 hf_1
    refine va_get (D := (dC, dI)) (ci := 2) (v := .ref o_5) (C := RX2) (T := TX2) (N := 10) hx hb hts hin2 hown hK hP q_16 hq_16 rfl 3 (by decide) (hts (.fieldLink RX2 9 "YamRiders$Rider" "newsSince" "[I") (by decide +kernel)) (fun _ h9 => h9) rfl dX2_comeToNextStation_14 ?_
    refine lv_iload_n hx hb dX2_comeToNextStation_17 rfl (lv_at hl 0 rfl) ?_
    refine lv_iload_n hx hb dX2_comeToNextStation_18 rfl (lv_at hl 2 rfl) ?_
    obtain ⟨g_18, hf_17⟩ := hT.get hk_o_5
    obtain ⟨q_19, hq_19⟩ := pl_at (X := []) (f := f) (e := .inl (cs 0, 12, .inl g_18)) hk_o_5.1 hf_17
    refine va_iast hx hb hK hP hD hS q_19 0 hq_19 rfl (st_in c_15) dX2_comeToNextStation_19 (fun H locs hP9 hD9 hS => ?_)
    have hs_20 := pl_st (.inl (cs 0, 12, .inl (upd g_18 r_13.toNatClampNeg p0))) hD hk_o_5.1 hf_17 hq_19
    have hP9 : va_P (dC, dI) vwCl ((([] : va_W) ++ va_pl L f).set q_19 (o_5, .inl (cs 0, 12, .inl (upd g_18 r_13.toNatClampNeg p0)))) H := hP9
    have hD9 : va_D A ((([] : va_W) ++ va_pl L f).set q_19 (o_5, .inl (cs 0, 12, .inl (upd g_18 r_13.toNatClampNeg p0)))) := hD9
    rw [hs_20] at hP9 hD9
    have hT := hT.put (e := .inl (cs 0, 12, .inl (upd g_18 r_13.toNatClampNeg p0))) hk_o_5 ⟨_, rfl⟩
    have hf_21 : va_up f o_5 (.inl (cs 0, 12, .inl (upd g_18 r_13.toNatClampNeg p0))) o_5 = .inl (cs 0, 12, .inl (upd g_18 r_13.toNatClampNeg p0)) := va_up_self _ _ _
    have hP := hP9
    have hD := hD9
    clear hP9 hD9 hs_20
    generalize va_up f o_5 (.inl (cs 0, 12, .inl (upd g_18 r_13.toNatClampNeg p0))) = f_22 at hP hD hT hf_21
    generalize upd g_18 r_13.toNatClampNeg p0 = g_23 at hf_21
    refine lv_aload_n hx hb dX2_comeToNextStation_20 rfl (lv_at hl 1 rfl) ?_
    refine lv_iload_n hx hb dX2_comeToNextStation_21 rfl (lv_at hl 2 rfl) ?_
    obtain ⟨x_25, x_26, o_27, o_28, x_29, x_30, x_31, o_32, x_33, x_34, hf_24, hk_o_27, hk_o_28, hq_o_32⟩ := hT.get hk_h0
    obtain ⟨q_35, hq_35⟩ := pl_at (X := []) (f := f_22) (e := .inr (2, [.int x_25, .int x_26, .ref o_27, .ref o_28, .int x_29, .int x_30, .int x_31, va_rf o_32, .int x_33, .int x_34])) hk_h0.1 hf_24
    refine va_put (D := (dC, dI)) (ci := 2) (v := .int p0) (ty := (tyX2 6)) (C := RX2) (T := TX2) (N := 10) hx hb hts hin2 tyX2 tyX2_ok nmX2 hown hK hP hD hS q_35 hq_35 rfl 6 (by decide) (hts (.fieldLink RX2 64 "YamRiders$Rider" "came" "I") (by decide +kernel)) (fun _ h9 => h9) rfl (by decide +kernel) rfl rfl (Nat.le_of_ble_eq_true rfl) dX2_comeToNextStation_22 (fun H locs hP9 hD9 hS => ?_)
    have hs_36 := pl_st (.inr (2, [.int x_25, .int x_26, .ref o_27, .ref o_28, .int x_29, .int x_30, .int p0, va_rf o_32, .int x_33, .int x_34])) hD hk_h0.1 hf_24 hq_35
    have hP9 : va_P (dC, dI) vwCl ((([] : va_W) ++ va_pl L f_22).set q_35 (h0, .inr (2, [.int x_25, .int x_26, .ref o_27, .ref o_28, .int x_29, .int x_30, .int p0, va_rf o_32, .int x_33, .int x_34]))) H := hP9
    have hD9 : va_D A ((([] : va_W) ++ va_pl L f_22).set q_35 (h0, .inr (2, [.int x_25, .int x_26, .ref o_27, .ref o_28, .int x_29, .int x_30, .int p0, va_rf o_32, .int x_33, .int x_34]))) := hD9
    rw [hs_36] at hP9 hD9
    have hT := hT.put (e := .inr (2, [.int x_25, .int x_26, .ref o_27, .ref o_28, .int x_29, .int x_30, .int p0, va_rf o_32, .int x_33, .int x_34])) hk_h0 ⟨x_25, x_26, o_27, o_28, x_29, x_30, p0, o_32, x_33, x_34, rfl, hk_o_27, hk_o_28, hq_o_32⟩
    have hf_37 : va_up f_22 h0 (.inr (2, [.int x_25, .int x_26, .ref o_27, .ref o_28, .int x_29, .int x_30, .int p0, va_rf o_32, .int x_33, .int x_34])) h0 = .inr (2, [.int x_25, .int x_26, .ref o_27, .ref o_28, .int x_29, .int x_30, .int p0, va_rf o_32, .int x_33, .int x_34]) := va_up_self _ _ _
    have hP := hP9
    have hD := hD9
    clear hP9 hD9 hs_36
    generalize va_up f_22 h0 (.inr (2, [.int x_25, .int x_26, .ref o_27, .ref o_28, .int x_29, .int x_30, .int p0, va_rf o_32, .int x_33, .int x_34])) = f_38 at hP hD hT hf_37
    refine lv_aload_n hx hb dX2_comeToNextStation_25 rfl (lv_at hl 1 rfl) ?_
    refine lv_dup hx hb dX2_comeToNextStation_26 rfl ?_
    obtain ⟨q_39, hq_39⟩ := pl_at (X := []) (f := f_38) (e := .inr (2, [.int x_25, .int x_26, .ref o_27, .ref o_28, .int x_29, .int x_30, .int p0, va_rf o_32, .int x_33, .int x_34])) hk_h0.1 hf_37
    refine va_get (D := (dC, dI)) (ci := 2) (v := .int x_30) (C := RX2) (T := TX2) (N := 10) hx hb hts hin2 hown hK hP q_39 hq_39 rfl 5 (by decide) (hts (.fieldLink RX2 34 "YamRiders$Rider" "reached" "I") (by decide +kernel)) (fun _ h9 => h9) rfl dX2_comeToNextStation_27 ?_
    refine lv_iconst (v := 1) hx hb dX2_comeToNextStation_30 (by decide) ?_
    refine lv_iadd hx hb dX2_comeToNextStation_31 ?_
    refine lv_topi (fun v_40 ev_40 => ?_)
    obtain ⟨q_41, hq_41⟩ := pl_at (X := []) (f := f_38) (e := .inr (2, [.int x_25, .int x_26, .ref o_27, .ref o_28, .int x_29, .int x_30, .int p0, va_rf o_32, .int x_33, .int x_34])) hk_h0.1 hf_37
    refine va_put (D := (dC, dI)) (ci := 2) (v := .int v_40) (ty := (tyX2 5)) (C := RX2) (T := TX2) (N := 10) hx hb hts hin2 tyX2 tyX2_ok nmX2 hown hK hP hD hS q_41 hq_41 rfl 5 (by decide) (hts (.fieldLink RX2 34 "YamRiders$Rider" "reached" "I") (by decide +kernel)) (fun _ h9 => h9) rfl (by decide +kernel) rfl rfl (Nat.le_of_ble_eq_true rfl) dX2_comeToNextStation_32 (fun H locs hP9 hD9 hS => ?_)
    have hs_42 := pl_st (.inr (2, [.int x_25, .int x_26, .ref o_27, .ref o_28, .int x_29, .int v_40, .int p0, va_rf o_32, .int x_33, .int x_34])) hD hk_h0.1 hf_37 hq_41
    have hP9 : va_P (dC, dI) vwCl ((([] : va_W) ++ va_pl L f_38).set q_41 (h0, .inr (2, [.int x_25, .int x_26, .ref o_27, .ref o_28, .int x_29, .int v_40, .int p0, va_rf o_32, .int x_33, .int x_34]))) H := hP9
    have hD9 : va_D A ((([] : va_W) ++ va_pl L f_38).set q_41 (h0, .inr (2, [.int x_25, .int x_26, .ref o_27, .ref o_28, .int x_29, .int v_40, .int p0, va_rf o_32, .int x_33, .int x_34]))) := hD9
    rw [hs_42] at hP9 hD9
    have hT := hT.put (e := .inr (2, [.int x_25, .int x_26, .ref o_27, .ref o_28, .int x_29, .int v_40, .int p0, va_rf o_32, .int x_33, .int x_34])) hk_h0 ⟨x_25, x_26, o_27, o_28, x_29, v_40, p0, o_32, x_33, x_34, rfl, hk_o_27, hk_o_28, hq_o_32⟩
    have hf_43 : va_up f_38 h0 (.inr (2, [.int x_25, .int x_26, .ref o_27, .ref o_28, .int x_29, .int v_40, .int p0, va_rf o_32, .int x_33, .int x_34])) h0 = .inr (2, [.int x_25, .int x_26, .ref o_27, .ref o_28, .int x_29, .int v_40, .int p0, va_rf o_32, .int x_33, .int x_34]) := va_up_self _ _ _
    have hP := hP9
    have hD := hD9
    clear hP9 hD9 hs_42
    generalize va_up f_38 h0 (.inr (2, [.int x_25, .int x_26, .ref o_27, .ref o_28, .int x_29, .int v_40, .int p0, va_rf o_32, .int x_33, .int x_34])) = f_44 at hP hD hT hf_43
    refine lv_aload_n hx hb dX2_comeToNextStation_35 rfl (lv_at hl 1 rfl) ?_
    refine lv_aload_n hx hb dX2_comeToNextStation_36 rfl (lv_at hl 1 rfl) ?_
    obtain ⟨q_45, hq_45⟩ := pl_at (X := []) (f := f_44) (e := .inr (2, [.int x_25, .int x_26, .ref o_27, .ref o_28, .int x_29, .int v_40, .int p0, va_rf o_32, .int x_33, .int x_34])) hk_h0.1 hf_43
    refine va_get (D := (dC, dI)) (ci := 2) (v := .int v_40) (C := RX2) (T := TX2) (N := 10) hx hb hts hin2 hown hK hP q_45 hq_45 rfl 5 (by decide) (hts (.fieldLink RX2 34 "YamRiders$Rider" "reached" "I") (by decide +kernel)) (fun _ h9 => h9) rfl dX2_comeToNextStation_37 ?_
    refine lv_aload_n hx hb dX2_comeToNextStation_40 rfl (lv_at hl 1 rfl) ?_
    obtain ⟨q_46, hq_46⟩ := pl_at (X := []) (f := f_44) (e := .inr (2, [.int x_25, .int x_26, .ref o_27, .ref o_28, .int x_29, .int v_40, .int p0, va_rf o_32, .int x_33, .int x_34])) hk_h0.1 hf_43
    refine va_get (D := (dC, dI)) (ci := 2) (v := .ref o_27) (C := RX2) (T := TX2) (N := 10) hx hb hts hin2 hown hK hP q_46 hq_46 rfl 2 (by decide) (hts (.fieldLink RX2 25 "YamRiders$Rider" "stations" "[I") (by decide +kernel)) (fun _ h9 => h9) rfl dX2_comeToNextStation_41 ?_
    obtain ⟨n_49, g_48, hn_50, hf_47⟩ := hT.get hk_o_27
    obtain ⟨q_51, hq_51⟩ := pl_at (X := []) (f := f_44) (e := .inl (cs 0, n_49, .inl g_48)) hk_o_27.1 hf_47
    refine va_alen (v := nI n_49) hx hb hK hP q_51 0 hq_51 rfl rfl dX2_comeToNextStation_44 ?_
    refine lv_icmp_ge (tgt := 52) hx hb dX2_comeToNextStation_45 (by decide) (fun c_52 => ?_) (fun c_52 => ?_)
    · refine lv_iconst (v := 2) hx hb dX2_comeToNextStation_52 (by decide) ?_
      obtain ⟨q_53, hq_53⟩ := pl_at (X := []) (f := f_44) (e := .inr (2, [.int x_25, .int x_26, .ref o_27, .ref o_28, .int x_29, .int v_40, .int p0, va_rf o_32, .int x_33, .int x_34])) hk_h0.1 hf_43
      refine va_put (D := (dC, dI)) (ci := 2) (v := .int 2) (ty := (tyX2 4)) (C := RX2) (T := TX2) (N := 10) hx hb hts hin2 tyX2 tyX2_ok nmX2 hown hK hP hD hS q_53 hq_53 rfl 4 (by decide) (hts (.fieldLink RX2 15 "YamRiders$Rider" "state" "I") (by decide +kernel)) (fun _ h9 => h9) rfl (by decide +kernel) rfl rfl (Nat.le_of_ble_eq_true rfl) dX2_comeToNextStation_53 (fun H locs hP9 hD9 hS => ?_)
      have hs_54 := pl_st (.inr (2, [.int x_25, .int x_26, .ref o_27, .ref o_28, .int 2, .int v_40, .int p0, va_rf o_32, .int x_33, .int x_34])) hD hk_h0.1 hf_43 hq_53
      have hP9 : va_P (dC, dI) vwCl ((([] : va_W) ++ va_pl L f_44).set q_53 (h0, .inr (2, [.int x_25, .int x_26, .ref o_27, .ref o_28, .int 2, .int v_40, .int p0, va_rf o_32, .int x_33, .int x_34]))) H := hP9
      have hD9 : va_D A ((([] : va_W) ++ va_pl L f_44).set q_53 (h0, .inr (2, [.int x_25, .int x_26, .ref o_27, .ref o_28, .int 2, .int v_40, .int p0, va_rf o_32, .int x_33, .int x_34]))) := hD9
      rw [hs_54] at hP9 hD9
      have hT := hT.put (e := .inr (2, [.int x_25, .int x_26, .ref o_27, .ref o_28, .int 2, .int v_40, .int p0, va_rf o_32, .int x_33, .int x_34])) hk_h0 ⟨x_25, x_26, o_27, o_28, 2, v_40, p0, o_32, x_33, x_34, rfl, hk_o_27, hk_o_28, hq_o_32⟩
      have hf_55 : va_up f_44 h0 (.inr (2, [.int x_25, .int x_26, .ref o_27, .ref o_28, .int 2, .int v_40, .int p0, va_rf o_32, .int x_33, .int x_34])) h0 = .inr (2, [.int x_25, .int x_26, .ref o_27, .ref o_28, .int 2, .int v_40, .int p0, va_rf o_32, .int x_33, .int x_34]) := va_up_self _ _ _
      have hP := hP9
      have hD := hD9
      clear hP9 hD9 hs_54
      generalize va_up f_44 h0 (.inr (2, [.int x_25, .int x_26, .ref o_27, .ref o_28, .int 2, .int v_40, .int p0, va_rf o_32, .int x_33, .int x_34])) = f_56 at hP hD hT hf_55
      have hP9 := hP.part (cx := []) [] rfl
      have hD9 := hD.part (cx := []) [] (by decide) rfl
      have hK9 := hK.sub (tys' := []) [] rfl
      refine W.widen (k := 0) (n := 0) (Nat.le_of_ble_eq_true rfl) (Nat.le_of_ble_eq_true rfl) ?_
      exact W.vret hx hb hr (fun t9 ht hW => ⟨⟨(), rfl, trivial, f_56, hT, by rw [ht]; exact hP9, va_K.moved hW.alike hK9, hD9⟩, hS.F ht⟩) hS.2.2 dX2_comeToNextStation_56
    · refine lv_iconst (v := 0) hx hb dX2_comeToNextStation_48 (by decide) ?_
      refine lv_goto (tgt := 53) hx hb dX2_comeToNextStation_49 (by decide) ?_
      obtain ⟨q_57, hq_57⟩ := pl_at (X := []) (f := f_44) (e := .inr (2, [.int x_25, .int x_26, .ref o_27, .ref o_28, .int x_29, .int v_40, .int p0, va_rf o_32, .int x_33, .int x_34])) hk_h0.1 hf_43
      refine va_put (D := (dC, dI)) (ci := 2) (v := .int 0) (ty := (tyX2 4)) (C := RX2) (T := TX2) (N := 10) hx hb hts hin2 tyX2 tyX2_ok nmX2 hown hK hP hD hS q_57 hq_57 rfl 4 (by decide) (hts (.fieldLink RX2 15 "YamRiders$Rider" "state" "I") (by decide +kernel)) (fun _ h9 => h9) rfl (by decide +kernel) rfl rfl (Nat.le_of_ble_eq_true rfl) dX2_comeToNextStation_53 (fun H locs hP9 hD9 hS => ?_)
      have hs_58 := pl_st (.inr (2, [.int x_25, .int x_26, .ref o_27, .ref o_28, .int 0, .int v_40, .int p0, va_rf o_32, .int x_33, .int x_34])) hD hk_h0.1 hf_43 hq_57
      have hP9 : va_P (dC, dI) vwCl ((([] : va_W) ++ va_pl L f_44).set q_57 (h0, .inr (2, [.int x_25, .int x_26, .ref o_27, .ref o_28, .int 0, .int v_40, .int p0, va_rf o_32, .int x_33, .int x_34]))) H := hP9
      have hD9 : va_D A ((([] : va_W) ++ va_pl L f_44).set q_57 (h0, .inr (2, [.int x_25, .int x_26, .ref o_27, .ref o_28, .int 0, .int v_40, .int p0, va_rf o_32, .int x_33, .int x_34]))) := hD9
      rw [hs_58] at hP9 hD9
      have hT := hT.put (e := .inr (2, [.int x_25, .int x_26, .ref o_27, .ref o_28, .int 0, .int v_40, .int p0, va_rf o_32, .int x_33, .int x_34])) hk_h0 ⟨x_25, x_26, o_27, o_28, 0, v_40, p0, o_32, x_33, x_34, rfl, hk_o_27, hk_o_28, hq_o_32⟩
      have hf_59 : va_up f_44 h0 (.inr (2, [.int x_25, .int x_26, .ref o_27, .ref o_28, .int 0, .int v_40, .int p0, va_rf o_32, .int x_33, .int x_34])) h0 = .inr (2, [.int x_25, .int x_26, .ref o_27, .ref o_28, .int 0, .int v_40, .int p0, va_rf o_32, .int x_33, .int x_34]) := va_up_self _ _ _
      have hP := hP9
      have hD := hD9
      clear hP9 hD9 hs_58
      generalize va_up f_44 h0 (.inr (2, [.int x_25, .int x_26, .ref o_27, .ref o_28, .int 0, .int v_40, .int p0, va_rf o_32, .int x_33, .int x_34])) = f_60 at hP hD hT hf_59
      have hP9 := hP.part (cx := []) [] rfl
      have hD9 := hD.part (cx := []) [] (by decide) rfl
      have hK9 := hK.sub (tys' := []) [] rfl
      refine W.widen (k := 0) (n := 0) (Nat.le_of_ble_eq_true rfl) (Nat.le_of_ble_eq_true rfl) ?_
      exact W.vret hx hb hr (fun t9 ht hW => ⟨⟨(), rfl, trivial, f_60, hT, by rw [ht]; exact hP9, va_K.moved hW.alike hK9, hD9⟩, hS.F ht⟩) hS.2.2 dX2_comeToNextStation_56
  · have hP9 := hP.part (cx := []) [] rfl
    have hD9 := hD.part (cx := []) [] (by decide) rfl
    have hK9 := hK.sub (tys' := []) [] rfl
    refine W.widen (k := 0) (n := 0) (Nat.le_of_ble_eq_true rfl) (Nat.le_of_ble_eq_true rfl) ?_
    exact W.vret hx hb hr (fun t9 ht hW => ⟨⟨(), rfl, trivial, f, hT, by rw [ht]; exact hP9, va_K.moved hW.alike hK9, hD9⟩, hS.F ht⟩) hS.2.2 dX2_comeToNextStation_12

set_option maxHeartbeats 4000000 in
set_option maxRecDepth 100000 in
theorem t_X0_weaken (l : Launch) (dC : Nat → ClassId) (dI : Nat → Nat → Nat) (cs : Nat → ClassId) (L : List Nat) (ka : Nat → Nat) (f : Nat → va_E) (h0 : Nat) (p0 : Int32) (sz : Nat) (hT : tO L ka cs f) (hk_h0 : tp L ka 0 h0) : Met l yX0_weaken wsX0_weaken ({ frames := 1, cells := 0, slots := 0, locals := 24 }) (va_Pc [.ref h0, .int p0] (cP dC dI ([] ++ va_pl L f) (tyC cs) sz)) (va_Qv (fun (_ : Unit) => True) (fun (_ : Unit) t9 => ∃ (f2 : Nat → va_E), (tO L ka cs f2) ∧ cQ dC dI ([] ++ va_pl L f2) [] (va_A ([] ++ va_pl L f) sz) t9) (va_A ([] ++ va_pl L f) sz)) 0 0 (va_A ([] ++ va_pl L f) sz) := by
  refine Met.ofW (cc := cX0_weaken) (maxL := 2) (ret := none) (by decide) rfl ?_
  intro p e s m args below meth c s₁ B hml hv
  obtain ⟨rfl, hsz, hP, hK, hD0, hN⟩ := hv
  have hx := B.exec
  have hb := B.bytes
  have hr := B.returns
  have hts := atoms_spec (ws := wsX0_weaken) B.pre
  have hown : s.vm.findClass RX0 = some m.cls := findClass_of_methodNamed B.named
  have hlocks := B.notSynchronized
  subst hsz
  have hin0 : ∀ w ∈ u_ws RX0 TX0 3, w ∈ wsX0_weaken := by decide +kernel
  have hD := hD0.self (sz := s.heap.size)
  generalize hAe : va_A ([] ++ va_pl L f) s.heap.size = A at hD ⊢
  have hA : ∀ q : Nat, s.heap.size ≤ q → A q := fun q h => by rw [← hAe]; exact Or.inr h
  have hS : va_S A s.heap s.heap [] := va_S.rf
  have hP : va_P (dC, dI) vwCl ([] ++ va_pl L f) s.heap := hP
  have hl := lv_entry ([.ref h0, .int p0]) (n := 2) (Nat.le_of_ble_eq_true rfl)
  rw [lg_entry_eq]
  generalize (lg_sl ([.ref h0, .int p0]) ++ List.replicate (2 - (lg_sl ([.ref h0, .int p0])).length) Slot.unset).toArray = ls at hl ⊢
  have hl : lv_has ls 2 [(0, .ref h0), (1, .int p0)] := hl
  refine lv_aload_n hx hb dX0_weaken_0 rfl (lv_at hl 0 rfl) ?_
  refine lv_iconst (v := 0) hx hb dX0_weaken_1 (by decide) ?_
  refine lv_aload_n hx hb dX0_weaken_2 rfl (lv_at hl 0 rfl) ?_
  obtain ⟨x_2, x_3, x_4, hf_1⟩ := hT.get hk_h0
  obtain ⟨q_5, hq_5⟩ := pl_at (X := []) (f := f) (e := .inr (0, [.int x_2, .int x_3, .int x_4])) hk_h0.1 hf_1
  refine va_get (D := (dC, dI)) (ci := 0) (v := .int x_4) (C := RX0) (T := TX0) (N := 3) hx hb hts hin0 hown hK hP q_5 hq_5 rfl 2 (by decide) (hts (.fieldLink RX0 16 "YamRiders$Horse" "strength" "I") (by decide +kernel)) (fun _ h9 => h9) rfl dX0_weaken_3 ?_
  refine lv_iload_n hx hb dX0_weaken_6 rfl (lv_at hl 1 rfl) ?_
  refine lv_isub hx hb dX0_weaken_7 ?_
  refine lv_topi (fun v_6 ev_6 => ?_)
  refine va_mmax (x := 0) (y := v_6) hx hb (by rw [hml]; exact hl.1.symm) hown (hts (.methodLink RX0 19 Lib.Math.max.name) (by decide +kernel)) (hts (.static Lib.Math.max.name) (by decide +kernel)) (hts (.initialized "java/lang/Math") (by decide +kernel)) (hts (.code Lib.Math.max.name Lib.Math.max.code 2 (some .int)) (by decide +kernel)) (Nat.le_of_ble_eq_true rfl) (Nat.le_of_ble_eq_true rfl) (Nat.le_of_ble_eq_true rfl) (Nat.le_of_ble_eq_true rfl) dX0_weaken_8 ?_
  refine lv_topi (fun v_7 ev_7 => ?_)
  obtain ⟨q_8, hq_8⟩ := pl_at (X := []) (f := f) (e := .inr (0, [.int x_2, .int x_3, .int x_4])) hk_h0.1 hf_1
  refine va_put (D := (dC, dI)) (ci := 0) (v := .int v_7) (ty := (tyX0 2)) (C := RX0) (T := TX0) (N := 3) hx hb hts hin0 tyX0 tyX0_ok nmX0 hown hK hP hD hS q_8 hq_8 rfl 2 (by decide) (hts (.fieldLink RX0 16 "YamRiders$Horse" "strength" "I") (by decide +kernel)) (fun _ h9 => h9) rfl (by decide +kernel) rfl rfl (Nat.le_of_ble_eq_true rfl) dX0_weaken_11 (fun H locs hP9 hD9 hS => ?_)
  have hs_9 := pl_st (.inr (0, [.int x_2, .int x_3, .int v_7])) hD hk_h0.1 hf_1 hq_8
  have hP9 : va_P (dC, dI) vwCl ((([] : va_W) ++ va_pl L f).set q_8 (h0, .inr (0, [.int x_2, .int x_3, .int v_7]))) H := hP9
  have hD9 : va_D A ((([] : va_W) ++ va_pl L f).set q_8 (h0, .inr (0, [.int x_2, .int x_3, .int v_7]))) := hD9
  rw [hs_9] at hP9 hD9
  have hT := hT.put (e := .inr (0, [.int x_2, .int x_3, .int v_7])) hk_h0 ⟨x_2, x_3, v_7, rfl⟩
  have hf_10 : va_up f h0 (.inr (0, [.int x_2, .int x_3, .int v_7])) h0 = .inr (0, [.int x_2, .int x_3, .int v_7]) := va_up_self _ _ _
  have hP := hP9
  have hD := hD9
  clear hP9 hD9 hs_9
  generalize va_up f h0 (.inr (0, [.int x_2, .int x_3, .int v_7])) = f_11 at hP hD hT hf_10
  have hP9 := hP.part (cx := []) [] rfl
  have hD9 := hD.part (cx := []) [] (by decide) rfl
  have hK9 := hK.sub (tys' := []) [] rfl
  refine W.widen (k := 0) (n := 0) (Nat.le_of_ble_eq_true rfl) (Nat.le_of_ble_eq_true rfl) ?_
  exact W.vret hx hb hr (fun t9 ht hW => ⟨⟨(), rfl, trivial, f_11, hT, by rw [ht]; exact hP9, va_K.moved hW.alike hK9, hD9⟩, hS.F ht⟩) hS.2.2 dX0_weaken_14

set_option maxHeartbeats 4000000 in
set_option maxRecDepth 100000 in
theorem t_X6_voidSince (l : Launch) (dC : Nat → ClassId) (dI : Nat → Nat → Nat) (cs : Nat → ClassId) (L : List Nat) (ka : Nat → Nat) (f : Nat → va_E) (h0 : Nat) (p0 : Int32) (sz : Nat) (hT : tO L ka cs f) (hk_h0 : tp L ka 6 h0) : Met l yX6_voidSince wsX6_voidSince ({ frames := 1, cells := 0, slots := 0, locals := 20 }) (va_Pc [.ref h0, .int p0] (cP dC dI ([] ++ va_pl L f) (tyC cs) sz)) (vp_Si (fun _ => True)) 0 0 (fun _ => False) := by
  refine Met.ofW (cc := cX6_voidSince) (maxL := 2) (ret := (some .int)) (by decide) rfl ?_
  intro p e s m args below meth c s₁ B hml hv
  obtain ⟨rfl, hsz, hP, hK, hD0, hN⟩ := hv
  have hx := B.exec
  have hb := B.bytes
  have hr := B.returns
  have hts := atoms_spec (ws := wsX6_voidSince) B.pre
  have hown : s.vm.findClass RX6 = some m.cls := findClass_of_methodNamed B.named
  have hlocks := B.notSynchronized
  subst hsz
  have hin6 : ∀ w ∈ u_ws RX6 TX6 2, w ∈ wsX6_voidSince := by decide +kernel
  have hD := hD0
  have hP : va_P (dC, dI) vwCl ([] ++ va_pl L f) s.heap := hP
  have hl := lv_entry ([.ref h0, .int p0]) (n := 2) (Nat.le_of_ble_eq_true rfl)
  rw [lg_entry_eq]
  generalize (lg_sl ([.ref h0, .int p0]) ++ List.replicate (2 - (lg_sl ([.ref h0, .int p0])).length) Slot.unset).toArray = ls at hl ⊢
  have hl : lv_has ls 2 [(0, .ref h0), (1, .int p0)] := hl
  refine lv_iload_n hx hb dX6_voidSince_0 rfl (lv_at hl 1 rfl) ?_
  have hPc := hP.sub (ws' := []) [] rfl
  have hDc := hD.sub (ws' := []) [] (by decide) rfl
  have hKc := hK.sub (tys' := []) [] rfl
  refine cs_i (va_runSN (As := [.int p0]) (rest := []) ⟨hx, hb, hml, hown, hts⟩ (c_X8_isStation l dC dI p0 s.heap.size) ⟨va_cnB 1 hts ggX6_voidSince_X8_isStation rfl rfl rfl (hN.1 (.methodLinkNest RX6 25 yX8_isStation "YamRiders") (by decide +kernel)) (hts (.initialized RX8) (by decide +kernel)) (by decide +kernel) ⟨Nat.le_of_ble_eq_true rfl, Nat.le_of_ble_eq_true rfl⟩, hts (.static yX8_isStation) (by decide +kernel), trivial⟩ ⟨c_blind, c_pre hPc hKc hDc hN⟩ rfl rfl hl.1 rfl (lv_room (Nat.le_of_ble_eq_true rfl)) dX6_voidSince_1 ⟨Nat.le_of_ble_eq_true rfl, Nat.le_of_ble_eq_true rfl⟩) (fun r_1 hr_1 => ?_)
  subst hr_1
  refine lv_if_eq (tgt := 16) hx hb dX6_voidSince_4 (by decide) (fun c_2 => ?_) (fun c_2 => ?_)
  · refine lv_iconst (v := (-1)) hx hb dX6_voidSince_16 (by decide) ?_
    exact W.iret (v := (-1)) hx hb hr (fun t9 ht hW => ⟨_, rfl, trivial, ht⟩) (fun q h => nomatch h) dX6_voidSince_17
  · refine lv_aload_n hx hb dX6_voidSince_7 rfl (lv_at hl 0 rfl) ?_
    obtain ⟨x_4, o_5, hf_3, hk_o_5⟩ := hT.get hk_h0
    obtain ⟨q_6, hq_6⟩ := pl_at (X := []) (f := f) (e := .inr (6, [.int x_4, .ref o_5])) hk_h0.1 hf_3
    refine va_get (D := (dC, dI)) (ci := 6) (v := .ref o_5) (C := RX6) (T := TX6) (N := 2) hx hb hts hin6 hown hK hP q_6 hq_6 rfl 1 (by decide) (hts (.fieldLink RX6 9 "YamRiders$Tablet" "since" "[I") (by decide +kernel)) (fun _ h9 => h9) rfl dX6_voidSince_8 ?_
    refine lv_iload_n hx hb dX6_voidSince_11 rfl (lv_at hl 1 rfl) ?_
    obtain ⟨g_8, hf_7⟩ := hT.get hk_o_5
    obtain ⟨q_9, hq_9⟩ := pl_at (X := []) (f := f) (e := .inl (cs 0, 12, .inl g_8)) hk_o_5.1 hf_7
    refine va_iald hx hb hK hP q_9 0 hq_9 rfl (st_in c_2) dX6_voidSince_12 ?_
    refine lv_topi (fun v_10 ev_10 => ?_)
    refine lv_goto (tgt := 17) hx hb dX6_voidSince_13 (by decide) ?_
    exact W.iret (v := v_10) hx hb hr (fun t9 ht hW => ⟨_, rfl, trivial, ht⟩) (fun q h => nomatch h) dX6_voidSince_17

set_option maxHeartbeats 4000000 in
set_option maxRecDepth 100000 in
theorem t_X6_wasVoid (l : Launch) (dC : Nat → ClassId) (dI : Nat → Nat → Nat) (cs : Nat → ClassId) (L : List Nat) (ka : Nat → Nat) (f : Nat → va_E) (h0 : Nat) (p0 : Int32) (p1 : Int32) (sz : Nat) (hT : tO L ka cs f) (hk_h0 : tp L ka 6 h0) : Met l yX6_wasVoid wsX6_wasVoid ({ frames := 2, cells := 0, slots := 0, locals := 41 }) (va_Pc [.ref h0, .int p0, .int p1] (cP dC dI ([] ++ va_pl L f) (tyC cs) sz)) (vp_Si (fun r => r = 0 ∨ r = 1)) 0 0 (fun _ => False) := by
  refine Met.ofW (cc := cX6_wasVoid) (maxL := 4) (ret := (some .boolean)) (by decide) rfl ?_
  intro p e s m args below meth c s₁ B hml hv
  obtain ⟨rfl, hsz, hP, hK, hD0, hN⟩ := hv
  have hx := B.exec
  have hb := B.bytes
  have hr := B.returns
  have hts := atoms_spec (ws := wsX6_wasVoid) B.pre
  have hown : s.vm.findClass RX6 = some m.cls := findClass_of_methodNamed B.named
  have hlocks := B.notSynchronized
  subst hsz
  have hD := hD0
  have hP : va_P (dC, dI) vwCl ([] ++ va_pl L f) s.heap := hP
  have hl := lv_entry ([.ref h0, .int p0, .int p1]) (n := 4) (Nat.le_of_ble_eq_true rfl)
  rw [lg_entry_eq]
  generalize (lg_sl ([.ref h0, .int p0, .int p1]) ++ List.replicate (4 - (lg_sl ([.ref h0, .int p0, .int p1])).length) Slot.unset).toArray = ls at hl ⊢
  have hl : lv_has ls 4 [(0, .ref h0), (1, .int p0), (2, .int p1)] := hl
  refine lv_aload_n hx hb dX6_wasVoid_0 rfl (lv_at hl 0 rfl) ?_
  refine lv_iload_n hx hb dX6_wasVoid_1 rfl (lv_at hl 1 rfl) ?_
  have hPc := hP.part (cx := []) [] rfl
  have hDc := hD.part (cx := []) [] (by decide) rfl
  have hKc := hK
  obtain ⟨x_2, o_3, hf_1, hk_o_3⟩ := hT.get hk_h0
  obtain ⟨q_4, hq_4⟩ := pl_at (X := []) (f := f) (e := .inr (6, [.int x_2, .ref o_3])) hk_h0.1 hf_1
  refine cs_i (va_runV (As := [.int p0]) (rest := []) ⟨hx, hb, hml, hown, hts⟩ (t_X6_voidSince l dC dI cs L ka f h0 p0 s.heap.size hT hk_h0) (cwV 1 hts gX6_wasVoid_X6_voidSince rfl rfl rfl (by decide +kernel) ⟨Nat.le_of_ble_eq_true rfl, Nat.le_of_ble_eq_true rfl⟩) ⟨c_blind, va_recv hKc hPc (ci := 6) (q0 := q_4) rfl hq_4, c_pre hPc hKc hDc hN⟩ rfl rfl hl.1 rfl (lv_room (Nat.le_of_ble_eq_true rfl)) dX6_wasVoid_2 ⟨Nat.le_of_ble_eq_true rfl, Nat.le_of_ble_eq_true rfl⟩) (fun r_5 hr_5 => ?_)
  refine lv_istore_n (lv' := [(3, .int r_5), (0, .ref h0), (1, .int p0), (2, .int p1)]) hx hb dX6_wasVoid_5 rfl hl (by decide) rfl (fun ls hl => ?_)
  refine lv_iload_n hx hb dX6_wasVoid_6 rfl (lv_at hl 0 rfl) ?_
  refine lv_iconst (v := (-1)) hx hb dX6_wasVoid_7 (by decide) ?_
  refine lv_icmp_eq (tgt := 20) hx hb dX6_wasVoid_8 (by decide) (fun c_6 => ?_) (fun c_6 => ?_)
  · refine lv_iconst (v := 0) hx hb dX6_wasVoid_20 (by decide) ?_
    exact W.zret (v := 0) hx hb hr rfl (fun t9 ht hW => ⟨_, rfl, (Or.inl rfl), ht⟩) (fun q h => nomatch h) dX6_wasVoid_21
  · refine lv_iload_n hx hb dX6_wasVoid_11 rfl (lv_at hl 0 rfl) ?_
    refine lv_iload_n hx hb dX6_wasVoid_12 rfl (lv_at hl 3 rfl) ?_
    refine lv_icmp_gt (tgt := 20) hx hb dX6_wasVoid_13 (by decide) (fun c_7 => ?_) (fun c_7 => ?_)
    · refine lv_iconst (v := 0) hx hb dX6_wasVoid_20 (by decide) ?_
      exact W.zret (v := 0) hx hb hr rfl (fun t9 ht hW => ⟨_, rfl, (Or.inl rfl), ht⟩) (fun q h => nomatch h) dX6_wasVoid_21
    · refine lv_iconst (v := 1) hx hb dX6_wasVoid_16 (by decide) ?_
      refine lv_goto (tgt := 21) hx hb dX6_wasVoid_17 (by decide) ?_
      exact W.zret (v := 1) hx hb hr rfl (fun t9 ht hW => ⟨_, rfl, (Or.inr rfl), ht⟩) (fun q h => nomatch h) dX6_wasVoid_21

set_option maxHeartbeats 4000000 in
set_option maxRecDepth 100000 in
theorem t_X6_tellVoid (l : Launch) (dC : Nat → ClassId) (dI : Nat → Nat → Nat) (cs : Nat → ClassId) (L : List Nat) (ka : Nat → Nat) (f : Nat → va_E) (h0 : Nat) (p0 : Int32) (p1 : Int32) (sz : Nat) (hT : tO L ka cs f) (hk_h0 : tp L ka 6 h0) : Met l yX6_tellVoid wsX6_tellVoid ({ frames := 1, cells := 0, slots := 0, locals := 20 }) (va_Pc [.ref h0, .int p0, .int p1] (cP dC dI ([] ++ va_pl L f) (tyC cs) sz)) (va_Qi (fun (r : Int32) (_ : Unit) => r = 0 ∨ r = 1) (fun (_ : Unit) t9 => ∃ (f2 : Nat → va_E), (tO L ka cs f2) ∧ cQ dC dI ([] ++ va_pl L f2) [] (va_A ([] ++ va_pl L f) sz) t9) (va_A ([] ++ va_pl L f) sz)) 0 0 (va_A ([] ++ va_pl L f) sz) := by
  refine Met.ofW (cc := cX6_tellVoid) (maxL := 3) (ret := (some .boolean)) (by decide) rfl ?_
  intro p e s m args below meth c s₁ B hml hv
  obtain ⟨rfl, hsz, hP, hK, hD0, hN⟩ := hv
  have hx := B.exec
  have hb := B.bytes
  have hr := B.returns
  have hts := atoms_spec (ws := wsX6_tellVoid) B.pre
  have hown : s.vm.findClass RX6 = some m.cls := findClass_of_methodNamed B.named
  have hlocks := B.notSynchronized
  subst hsz
  have hin6 : ∀ w ∈ u_ws RX6 TX6 2, w ∈ wsX6_tellVoid := by decide +kernel
  have hD := hD0.self (sz := s.heap.size)
  generalize hAe : va_A ([] ++ va_pl L f) s.heap.size = A at hD ⊢
  have hA : ∀ q : Nat, s.heap.size ≤ q → A q := fun q h => by rw [← hAe]; exact Or.inr h
  have hS : va_S A s.heap s.heap [] := va_S.rf
  have hP : va_P (dC, dI) vwCl ([] ++ va_pl L f) s.heap := hP
  have hl := lv_entry ([.ref h0, .int p0, .int p1]) (n := 3) (Nat.le_of_ble_eq_true rfl)
  rw [lg_entry_eq]
  generalize (lg_sl ([.ref h0, .int p0, .int p1]) ++ List.replicate (3 - (lg_sl ([.ref h0, .int p0, .int p1])).length) Slot.unset).toArray = ls at hl ⊢
  have hl : lv_has ls 3 [(0, .ref h0), (1, .int p0), (2, .int p1)] := hl
  refine lv_iload_n hx hb dX6_tellVoid_0 rfl (lv_at hl 1 rfl) ?_
  have hPc := hP.sub (ws' := []) [] rfl
  have hDc := hD.sub (ws' := []) [] (by decide) rfl
  have hKc := hK.sub (tys' := []) [] rfl
  refine cs_i (va_runSN (As := [.int p0]) (rest := []) ⟨hx, hb, hml, hown, hts⟩ (c_X8_isStation l dC dI p0 s.heap.size) ⟨va_cnB 1 hts ggX6_tellVoid_X8_isStation rfl rfl rfl (hN.1 (.methodLinkNest RX6 25 yX8_isStation "YamRiders") (by decide +kernel)) (hts (.initialized RX8) (by decide +kernel)) (by decide +kernel) ⟨Nat.le_of_ble_eq_true rfl, Nat.le_of_ble_eq_true rfl⟩, hts (.static yX8_isStation) (by decide +kernel), trivial⟩ ⟨c_blind, c_pre hPc hKc hDc hN⟩ rfl rfl hl.1 rfl (lv_room (Nat.le_of_ble_eq_true rfl)) dX6_tellVoid_1 ⟨Nat.le_of_ble_eq_true rfl, Nat.le_of_ble_eq_true rfl⟩) (fun r_1 hr_1 => ?_)
  subst hr_1
  refine lv_if_eq (tgt := 17) hx hb dX6_tellVoid_4 (by decide) (fun c_2 => ?_) (fun c_2 => ?_)
  · refine lv_iconst (v := 0) hx hb dX6_tellVoid_17 (by decide) ?_
    have hP9 := hP.part (cx := []) [] rfl
    have hD9 := hD.part (cx := []) [] (by decide) rfl
    have hK9 := hK.sub (tys' := []) [] rfl
    refine W.widen (k := 0) (n := 0) (Nat.le_of_ble_eq_true rfl) (Nat.le_of_ble_eq_true rfl) ?_
    exact W.zret (v := 0) hx hb hr rfl (fun t9 ht hW => ⟨⟨_, (), rfl, (Or.inl rfl), f, hT, by rw [ht]; exact hP9, va_K.moved hW.alike hK9, hD9⟩, hS.F ht⟩) hS.2.2 dX6_tellVoid_18
  · refine lv_aload_n hx hb dX6_tellVoid_7 rfl (lv_at hl 0 rfl) ?_
    obtain ⟨x_4, o_5, hf_3, hk_o_5⟩ := hT.get hk_h0
    obtain ⟨q_6, hq_6⟩ := pl_at (X := []) (f := f) (e := .inr (6, [.int x_4, .ref o_5])) hk_h0.1 hf_3
    refine va_get (D := (dC, dI)) (ci := 6) (v := .ref o_5) (C := RX6) (T := TX6) (N := 2) hx hb hts hin6 hown hK hP q_6 hq_6 rfl 1 (by decide) (hts (.fieldLink RX6 9 "YamRiders$Tablet" "since" "[I") (by decide +kernel)) (fun _ h9 => h9) rfl dX6_tellVoid_8 ?_
    refine lv_iload_n hx hb dX6_tellVoid_11 rfl (lv_at hl 1 rfl) ?_
    obtain ⟨g_8, hf_7⟩ := hT.get hk_o_5
    obtain ⟨q_9, hq_9⟩ := pl_at (X := []) (f := f) (e := .inl (cs 0, 12, .inl g_8)) hk_o_5.1 hf_7
    refine va_iald hx hb hK hP q_9 0 hq_9 rfl (st_in c_2) dX6_tellVoid_12 ?_
    refine lv_topi (fun v_10 ev_10 => ?_)
    refine lv_iconst (v := (-1)) hx hb dX6_tellVoid_13 (by decide) ?_
    refine lv_icmp_eq (tgt := 19) hx hb dX6_tellVoid_14 (by decide) (fun c_11 => ?_) (fun c_11 => ?_)
    · refine lv_aload_n hx hb dX6_tellVoid_19 rfl (lv_at hl 0 rfl) ?_
      obtain ⟨q_12, hq_12⟩ := pl_at (X := []) (f := f) (e := .inr (6, [.int x_4, .ref o_5])) hk_h0.1 hf_3
      refine va_get (D := (dC, dI)) (ci := 6) (v := .ref o_5) (C := RX6) (T := TX6) (N := 2) hx hb hts hin6 hown hK hP q_12 hq_12 rfl 1 (by decide) (hts (.fieldLink RX6 9 "YamRiders$Tablet" "since" "[I") (by decide +kernel)) (fun _ h9 => h9) rfl dX6_tellVoid_20 ?_
      refine lv_iload_n hx hb dX6_tellVoid_23 rfl (lv_at hl 1 rfl) ?_
      refine lv_iload_n hx hb dX6_tellVoid_24 rfl (lv_at hl 2 rfl) ?_
      obtain ⟨q_13, hq_13⟩ := pl_at (X := []) (f := f) (e := .inl (cs 0, 12, .inl g_8)) hk_o_5.1 hf_7
      refine va_iast hx hb hK hP hD hS q_13 0 hq_13 rfl (st_in c_2) dX6_tellVoid_25 (fun H locs hP9 hD9 hS => ?_)
      have hs_14 := pl_st (.inl (cs 0, 12, .inl (upd g_8 p0.toNatClampNeg p1))) hD hk_o_5.1 hf_7 hq_13
      have hP9 : va_P (dC, dI) vwCl ((([] : va_W) ++ va_pl L f).set q_13 (o_5, .inl (cs 0, 12, .inl (upd g_8 p0.toNatClampNeg p1)))) H := hP9
      have hD9 : va_D A ((([] : va_W) ++ va_pl L f).set q_13 (o_5, .inl (cs 0, 12, .inl (upd g_8 p0.toNatClampNeg p1)))) := hD9
      rw [hs_14] at hP9 hD9
      have hT := hT.put (e := .inl (cs 0, 12, .inl (upd g_8 p0.toNatClampNeg p1))) hk_o_5 ⟨_, rfl⟩
      have hf_15 : va_up f o_5 (.inl (cs 0, 12, .inl (upd g_8 p0.toNatClampNeg p1))) o_5 = .inl (cs 0, 12, .inl (upd g_8 p0.toNatClampNeg p1)) := va_up_self _ _ _
      have hP := hP9
      have hD := hD9
      clear hP9 hD9 hs_14
      generalize va_up f o_5 (.inl (cs 0, 12, .inl (upd g_8 p0.toNatClampNeg p1))) = f_16 at hP hD hT hf_15
      generalize upd g_8 p0.toNatClampNeg p1 = g_17 at hf_15
      refine lv_iconst (v := 1) hx hb dX6_tellVoid_26 (by decide) ?_
      have hP9 := hP.part (cx := []) [] rfl
      have hD9 := hD.part (cx := []) [] (by decide) rfl
      have hK9 := hK.sub (tys' := []) [] rfl
      refine W.widen (k := 0) (n := 0) (Nat.le_of_ble_eq_true rfl) (Nat.le_of_ble_eq_true rfl) ?_
      exact W.zret (v := 1) hx hb hr rfl (fun t9 ht hW => ⟨⟨_, (), rfl, (Or.inr rfl), f_16, hT, by rw [ht]; exact hP9, va_K.moved hW.alike hK9, hD9⟩, hS.F ht⟩) hS.2.2 dX6_tellVoid_27
    · refine lv_iconst (v := 0) hx hb dX6_tellVoid_17 (by decide) ?_
      have hP9 := hP.part (cx := []) [] rfl
      have hD9 := hD.part (cx := []) [] (by decide) rfl
      have hK9 := hK.sub (tys' := []) [] rfl
      refine W.widen (k := 0) (n := 0) (Nat.le_of_ble_eq_true rfl) (Nat.le_of_ble_eq_true rfl) ?_
      exact W.zret (v := 0) hx hb hr rfl (fun t9 ht hW => ⟨⟨_, (), rfl, (Or.inl rfl), f, hT, by rw [ht]; exact hP9, va_K.moved hW.alike hK9, hD9⟩, hS.F ht⟩) hS.2.2 dX6_tellVoid_18

set_option maxHeartbeats 4000000 in
set_option maxRecDepth 100000 in
theorem t_X5_tire (l : Launch) (dC : Nat → ClassId) (dI : Nat → Nat → Nat) (cs : Nat → ClassId) (L : List Nat) (ka : Nat → Nat) (f : Nat → va_E) (h0 : Nat) (sz : Nat) (hT : tO L ka cs f) (hk_h0 : tp L ka 5 h0) : Met l yX5_tire wsX5_tire ({ frames := 0, cells := 0, slots := 0, locals := 0 }) (va_Pc [.ref h0] (cP dC dI ([] ++ va_pl L f) (tyC cs) sz)) (vp_Si (fun _ => True)) 0 0 (fun _ => False) := by
  refine Met.ofW (cc := cX5_tire) (maxL := 1) (ret := (some .int)) (by decide) rfl ?_
  intro p e s m args below meth c s₁ B hml hv
  obtain ⟨rfl, hsz, hP, hK, hD0, hN⟩ := hv
  have hx := B.exec
  have hb := B.bytes
  have hr := B.returns
  have hts := atoms_spec (ws := wsX5_tire) B.pre
  have hown : s.vm.findClass RX5 = some m.cls := findClass_of_methodNamed B.named
  have hlocks := B.notSynchronized
  subst hsz
  have hin5 : ∀ w ∈ u_ws RX5 TX5 1, w ∈ wsX5_tire := by decide +kernel
  have hD := hD0
  have hP : va_P (dC, dI) vwCl ([] ++ va_pl L f) s.heap := hP
  have hl := lv_entry ([.ref h0]) (n := 1) (Nat.le_of_ble_eq_true rfl)
  rw [lg_entry_eq]
  generalize (lg_sl ([.ref h0]) ++ List.replicate (1 - (lg_sl ([.ref h0])).length) Slot.unset).toArray = ls at hl ⊢
  have hl : lv_has ls 1 [(0, .ref h0)] := hl
  refine lv_aload_n hx hb dX5_tire_0 rfl (lv_at hl 0 rfl) ?_
  obtain ⟨o_2, hf_1, hk_o_2⟩ := hT.get hk_h0
  obtain ⟨q_3, hq_3⟩ := pl_at (X := []) (f := f) (e := .inr (5, [.ref o_2])) hk_h0.1 hf_1
  refine va_get (D := (dC, dI)) (ci := 5) (v := .ref o_2) (C := RX5) (T := TX5) (N := 1) hx hb hts hin5 hown hK hP q_3 hq_3 rfl 0 (by decide) (hts (.fieldLink RX5 11 "YamRiders$Statutes" "numbers" "[I") (by decide +kernel)) (fun _ h9 => h9) rfl dX5_tire_1 ?_
  refine lv_iconst (v := 0) hx hb dX5_tire_4 (by decide) ?_
  obtain ⟨g_5, hf_4⟩ := hT.get hk_o_2
  obtain ⟨q_6, hq_6⟩ := pl_at (X := []) (f := f) (e := .inl (cs 0, 6, .inl g_5)) hk_o_2.1 hf_4
  refine va_iald hx hb hK hP q_6 0 hq_6 rfl (by unfold vp_in; decide) dX5_tire_5 ?_
  refine lv_topi (fun v_7 ev_7 => ?_)
  exact W.iret (v := v_7) hx hb hr (fun t9 ht hW => ⟨_, rfl, trivial, ht⟩) (fun q h => nomatch h) dX5_tire_6

set_option maxHeartbeats 4000000 in
set_option maxRecDepth 100000 in
theorem t_X5_rest (l : Launch) (dC : Nat → ClassId) (dI : Nat → Nat → Nat) (cs : Nat → ClassId) (L : List Nat) (ka : Nat → Nat) (f : Nat → va_E) (h0 : Nat) (sz : Nat) (hT : tO L ka cs f) (hk_h0 : tp L ka 5 h0) : Met l yX5_rest wsX5_rest ({ frames := 0, cells := 0, slots := 0, locals := 0 }) (va_Pc [.ref h0] (cP dC dI ([] ++ va_pl L f) (tyC cs) sz)) (vp_Si (fun _ => True)) 0 0 (fun _ => False) := by
  refine Met.ofW (cc := cX5_rest) (maxL := 1) (ret := (some .int)) (by decide) rfl ?_
  intro p e s m args below meth c s₁ B hml hv
  obtain ⟨rfl, hsz, hP, hK, hD0, hN⟩ := hv
  have hx := B.exec
  have hb := B.bytes
  have hr := B.returns
  have hts := atoms_spec (ws := wsX5_rest) B.pre
  have hown : s.vm.findClass RX5 = some m.cls := findClass_of_methodNamed B.named
  have hlocks := B.notSynchronized
  subst hsz
  have hin5 : ∀ w ∈ u_ws RX5 TX5 1, w ∈ wsX5_rest := by decide +kernel
  have hD := hD0
  have hP : va_P (dC, dI) vwCl ([] ++ va_pl L f) s.heap := hP
  have hl := lv_entry ([.ref h0]) (n := 1) (Nat.le_of_ble_eq_true rfl)
  rw [lg_entry_eq]
  generalize (lg_sl ([.ref h0]) ++ List.replicate (1 - (lg_sl ([.ref h0])).length) Slot.unset).toArray = ls at hl ⊢
  have hl : lv_has ls 1 [(0, .ref h0)] := hl
  refine lv_aload_n hx hb dX5_rest_0 rfl (lv_at hl 0 rfl) ?_
  obtain ⟨o_2, hf_1, hk_o_2⟩ := hT.get hk_h0
  obtain ⟨q_3, hq_3⟩ := pl_at (X := []) (f := f) (e := .inr (5, [.ref o_2])) hk_h0.1 hf_1
  refine va_get (D := (dC, dI)) (ci := 5) (v := .ref o_2) (C := RX5) (T := TX5) (N := 1) hx hb hts hin5 hown hK hP q_3 hq_3 rfl 0 (by decide) (hts (.fieldLink RX5 11 "YamRiders$Statutes" "numbers" "[I") (by decide +kernel)) (fun _ h9 => h9) rfl dX5_rest_1 ?_
  refine lv_iconst (v := 1) hx hb dX5_rest_4 (by decide) ?_
  obtain ⟨g_5, hf_4⟩ := hT.get hk_o_2
  obtain ⟨q_6, hq_6⟩ := pl_at (X := []) (f := f) (e := .inl (cs 0, 6, .inl g_5)) hk_o_2.1 hf_4
  refine va_iald hx hb hK hP q_6 0 hq_6 rfl (by unfold vp_in; decide) dX5_rest_5 ?_
  refine lv_topi (fun v_7 ev_7 => ?_)
  exact W.iret (v := v_7) hx hb hr (fun t9 ht hW => ⟨_, rfl, trivial, ht⟩) (fun q h => nomatch h) dX5_rest_6

set_option maxHeartbeats 4000000 in
set_option maxRecDepth 100000 in
theorem t_X5_hunger (l : Launch) (dC : Nat → ClassId) (dI : Nat → Nat → Nat) (cs : Nat → ClassId) (L : List Nat) (ka : Nat → Nat) (f : Nat → va_E) (h0 : Nat) (sz : Nat) (hT : tO L ka cs f) (hk_h0 : tp L ka 5 h0) : Met l yX5_hunger wsX5_hunger ({ frames := 0, cells := 0, slots := 0, locals := 0 }) (va_Pc [.ref h0] (cP dC dI ([] ++ va_pl L f) (tyC cs) sz)) (vp_Si (fun _ => True)) 0 0 (fun _ => False) := by
  refine Met.ofW (cc := cX5_hunger) (maxL := 1) (ret := (some .int)) (by decide) rfl ?_
  intro p e s m args below meth c s₁ B hml hv
  obtain ⟨rfl, hsz, hP, hK, hD0, hN⟩ := hv
  have hx := B.exec
  have hb := B.bytes
  have hr := B.returns
  have hts := atoms_spec (ws := wsX5_hunger) B.pre
  have hown : s.vm.findClass RX5 = some m.cls := findClass_of_methodNamed B.named
  have hlocks := B.notSynchronized
  subst hsz
  have hin5 : ∀ w ∈ u_ws RX5 TX5 1, w ∈ wsX5_hunger := by decide +kernel
  have hD := hD0
  have hP : va_P (dC, dI) vwCl ([] ++ va_pl L f) s.heap := hP
  have hl := lv_entry ([.ref h0]) (n := 1) (Nat.le_of_ble_eq_true rfl)
  rw [lg_entry_eq]
  generalize (lg_sl ([.ref h0]) ++ List.replicate (1 - (lg_sl ([.ref h0])).length) Slot.unset).toArray = ls at hl ⊢
  have hl : lv_has ls 1 [(0, .ref h0)] := hl
  refine lv_aload_n hx hb dX5_hunger_0 rfl (lv_at hl 0 rfl) ?_
  obtain ⟨o_2, hf_1, hk_o_2⟩ := hT.get hk_h0
  obtain ⟨q_3, hq_3⟩ := pl_at (X := []) (f := f) (e := .inr (5, [.ref o_2])) hk_h0.1 hf_1
  refine va_get (D := (dC, dI)) (ci := 5) (v := .ref o_2) (C := RX5) (T := TX5) (N := 1) hx hb hts hin5 hown hK hP q_3 hq_3 rfl 0 (by decide) (hts (.fieldLink RX5 11 "YamRiders$Statutes" "numbers" "[I") (by decide +kernel)) (fun _ h9 => h9) rfl dX5_hunger_1 ?_
  refine lv_iconst (v := 2) hx hb dX5_hunger_4 (by decide) ?_
  obtain ⟨g_5, hf_4⟩ := hT.get hk_o_2
  obtain ⟨q_6, hq_6⟩ := pl_at (X := []) (f := f) (e := .inl (cs 0, 6, .inl g_5)) hk_o_2.1 hf_4
  refine va_iald hx hb hK hP q_6 0 hq_6 rfl (by unfold vp_in; decide) dX5_hunger_5 ?_
  refine lv_topi (fun v_7 ev_7 => ?_)
  exact W.iret (v := v_7) hx hb hr (fun t9 ht hW => ⟨_, rfl, trivial, ht⟩) (fun q h => nomatch h) dX5_hunger_6

set_option maxHeartbeats 4000000 in
set_option maxRecDepth 100000 in
theorem t_X5_keepFor (l : Launch) (dC : Nat → ClassId) (dI : Nat → Nat → Nat) (cs : Nat → ClassId) (L : List Nat) (ka : Nat → Nat) (f : Nat → va_E) (h0 : Nat) (p0 : Int32) (sz : Nat) (hT : tO L ka cs f) (hk_h0 : tp L ka 5 h0) : Met l yX5_keepFor wsX5_keepFor ({ frames := 0, cells := 0, slots := 0, locals := 0 }) (va_Pc [.ref h0, .int p0] (cP dC dI ([] ++ va_pl L f) (tyC cs) sz)) (vp_Si (fun _ => True)) 0 0 (fun _ => False) := by
  refine Met.ofW (cc := cX5_keepFor) (maxL := 2) (ret := (some .int)) (by decide) rfl ?_
  intro p e s m args below meth c s₁ B hml hv
  obtain ⟨rfl, hsz, hP, hK, hD0, hN⟩ := hv
  have hx := B.exec
  have hb := B.bytes
  have hr := B.returns
  have hts := atoms_spec (ws := wsX5_keepFor) B.pre
  have hown : s.vm.findClass RX5 = some m.cls := findClass_of_methodNamed B.named
  have hlocks := B.notSynchronized
  subst hsz
  have hin5 : ∀ w ∈ u_ws RX5 TX5 1, w ∈ wsX5_keepFor := by decide +kernel
  have hD := hD0
  have hP : va_P (dC, dI) vwCl ([] ++ va_pl L f) s.heap := hP
  have hl := lv_entry ([.ref h0, .int p0]) (n := 2) (Nat.le_of_ble_eq_true rfl)
  rw [lg_entry_eq]
  generalize (lg_sl ([.ref h0, .int p0]) ++ List.replicate (2 - (lg_sl ([.ref h0, .int p0])).length) Slot.unset).toArray = ls at hl ⊢
  have hl : lv_has ls 2 [(0, .ref h0), (1, .int p0)] := hl
  refine lv_iload_n hx hb dX5_keepFor_0 rfl (lv_at hl 1 rfl) ?_
  refine lv_iconst (v := 1) hx hb dX5_keepFor_1 (by decide) ?_
  refine lv_icmp_lt (tgt := 23) hx hb dX5_keepFor_2 (by decide) (fun c_1 => ?_) (fun c_1 => ?_)
  · refine lv_iconst (v := 0) hx hb dX5_keepFor_23 (by decide) ?_
    exact W.iret (v := 0) hx hb hr (fun t9 ht hW => ⟨_, rfl, trivial, ht⟩) (fun q h => nomatch h) dX5_keepFor_24
  · refine lv_iload_n hx hb dX5_keepFor_5 rfl (lv_at hl 1 rfl) ?_
    refine lv_iconst (v := 3) hx hb dX5_keepFor_6 (by decide) ?_
    refine lv_icmp_gt (tgt := 23) hx hb dX5_keepFor_7 (by decide) (fun c_2 => ?_) (fun c_2 => ?_)
    · refine lv_iconst (v := 0) hx hb dX5_keepFor_23 (by decide) ?_
      exact W.iret (v := 0) hx hb hr (fun t9 ht hW => ⟨_, rfl, trivial, ht⟩) (fun q h => nomatch h) dX5_keepFor_24
    · refine lv_aload_n hx hb dX5_keepFor_10 rfl (lv_at hl 0 rfl) ?_
      obtain ⟨o_4, hf_3, hk_o_4⟩ := hT.get hk_h0
      obtain ⟨q_5, hq_5⟩ := pl_at (X := []) (f := f) (e := .inr (5, [.ref o_4])) hk_h0.1 hf_3
      refine va_get (D := (dC, dI)) (ci := 5) (v := .ref o_4) (C := RX5) (T := TX5) (N := 1) hx hb hts hin5 hown hK hP q_5 hq_5 rfl 0 (by decide) (hts (.fieldLink RX5 11 "YamRiders$Statutes" "numbers" "[I") (by decide +kernel)) (fun _ h9 => h9) rfl dX5_keepFor_11 ?_
      refine lv_iconst (v := 3) hx hb dX5_keepFor_14 (by decide) ?_
      refine lv_iload_n hx hb dX5_keepFor_15 rfl (lv_at hl 1 rfl) ?_
      refine lv_iadd hx hb dX5_keepFor_16 ?_
      refine lv_iconst (v := 1) hx hb dX5_keepFor_17 (by decide) ?_
      refine lv_isub hx hb dX5_keepFor_18 ?_
      obtain ⟨g_7, hf_6⟩ := hT.get hk_o_4
      obtain ⟨q_8, hq_8⟩ := pl_at (X := []) (f := f) (e := .inl (cs 0, 6, .inl g_7)) hk_o_4.1 hf_6
      refine va_iald hx hb hK hP q_8 0 hq_8 rfl (kf_in9 c_1 (Int32.not_lt.mp c_2)) dX5_keepFor_19 ?_
      refine lv_topi (fun v_9 ev_9 => ?_)
      refine lv_goto (tgt := 24) hx hb dX5_keepFor_20 (by decide) ?_
      exact W.iret (v := v_9) hx hb hr (fun t9 ht hW => ⟨_, rfl, trivial, ht⟩) (fun q h => nomatch h) dX5_keepFor_24
