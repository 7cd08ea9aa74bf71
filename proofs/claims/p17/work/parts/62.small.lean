set_option maxHeartbeats 4000000 in
set_option maxRecDepth 100000 in
theorem e_X2_isUnderWay (l : Launch) (dC : Nat → ClassId) (dI : Nat → Nat → Nat) (cs : Nat → ClassId) (L : List Nat) (ka : Nat → Nat) (ix : Nat → Nat) (ad : Nat → Nat → Nat) (n0 : Nat) (n6 : Nat) (n2 : Nat) (S : Nat → Nat → Nat → Int32) (f : Nat → va_E) (i9 : Nat) (h0 : Nat) (sz : Nat) (hT : tB L ka ix ad cs n0 n6 n2 S f) (hk_h0 : tpx L ka ix 2 i9 h0) (hlt_i9 : i9 < n2) : Met l yX2_isUnderWay wsX2_isUnderWay ({ frames := 0, cells := 0, slots := 0, locals := 0 }) (va_Pc [.ref h0] (cP dC dI ([] ++ va_pl L f) (tyC cs) sz)) (vp_Si (fun r => r = sUW S i9)) 0 0 (fun _ => False) := by
  refine Met.ofW (cc := cX2_isUnderWay) (maxL := 1) (ret := (some .boolean)) (by decide) rfl ?_
  intro p e s m args below meth c s₁ B hml hv
  obtain ⟨rfl, hsz, hP, hK, hD0, hN⟩ := hv
  have hx := B.exec
  have hb := B.bytes
  have hr := B.returns
  have hts := atoms_spec (ws := wsX2_isUnderWay) B.pre
  have hown : s.vm.findClass RX2 = some m.cls := findClass_of_methodNamed B.named
  have hlocks := B.notSynchronized
  subst hsz
  have hin2 : ∀ w ∈ u_ws RX2 TX2 10, w ∈ wsX2_isUnderWay := by decide +kernel
  have hD := hD0
  have hP : va_P (dC, dI) vwCl ([] ++ va_pl L f) s.heap := hP
  have hl := lv_entry ([.ref h0]) (n := 1) (Nat.le_of_ble_eq_true rfl)
  rw [lg_entry_eq]
  generalize (lg_sl ([.ref h0]) ++ List.replicate (1 - (lg_sl ([.ref h0])).length) Slot.unset).toArray = ls at hl ⊢
  have hl : lv_has ls 1 [(0, .ref h0)] := hl
  refine lv_aload_n hx hb dX2_isUnderWay_0 rfl (lv_at hl 0 rfl) ?_
  have hf_1 : f h0 = .inr (2, [.int (S 32 i9 0), .int (S 33 i9 0), .ref (ad 37 i9), .ref (ad 36 i9), .int (S 36 i9 0), .int (S 37 i9 0), .int (S 38 i9 0), va_rf (oq ad 0 (S 39 i9 0)), .int (S 40 i9 0), .int (S 41 i9 0)]) := hT.get hk_h0
  obtain ⟨q_2, hq_2⟩ := pl_at (X := []) (f := f) (e := .inr (2, [.int (S 32 i9 0), .int (S 33 i9 0), .ref (ad 37 i9), .ref (ad 36 i9), .int (S 36 i9 0), .int (S 37 i9 0), .int (S 38 i9 0), va_rf (oq ad 0 (S 39 i9 0)), .int (S 40 i9 0), .int (S 41 i9 0)])) hk_h0.1 hf_1
  refine va_get (D := (dC, dI)) (ci := 2) (v := .int (S 36 i9 0)) (C := RX2) (T := TX2) (N := 10) hx hb hts hin2 hown hK hP q_2 hq_2 rfl 4 (by decide) (hts (.fieldLink RX2 15 "YamRiders$Rider" "state" "I") (by decide +kernel)) (fun _ h9 => h9) rfl dX2_isUnderWay_1 ?_
  refine lv_if_eq (tgt := 15) hx hb dX2_isUnderWay_4 (by decide) (fun c_3 => ?_) (fun c_3 => ?_)
  · refine lv_iconst (v := 1) hx hb dX2_isUnderWay_15 (by decide) ?_
    refine lv_goto (tgt := 20) hx hb dX2_isUnderWay_16 (by decide) ?_
    exact W.zret (v := 1) hx hb hr rfl (fun t9 ht hW => ⟨_, rfl, (by unfold sUW; rw [if_pos c_3]), ht⟩) (fun q h => nomatch h) dX2_isUnderWay_20
  · refine lv_aload_n hx hb dX2_isUnderWay_7 rfl (lv_at hl 0 rfl) ?_
    obtain ⟨q_4, hq_4⟩ := pl_at (X := []) (f := f) (e := .inr (2, [.int (S 32 i9 0), .int (S 33 i9 0), .ref (ad 37 i9), .ref (ad 36 i9), .int (S 36 i9 0), .int (S 37 i9 0), .int (S 38 i9 0), va_rf (oq ad 0 (S 39 i9 0)), .int (S 40 i9 0), .int (S 41 i9 0)])) hk_h0.1 hf_1
    refine va_get (D := (dC, dI)) (ci := 2) (v := .int (S 36 i9 0)) (C := RX2) (T := TX2) (N := 10) hx hb hts hin2 hown hK hP q_4 hq_4 rfl 4 (by decide) (hts (.fieldLink RX2 15 "YamRiders$Rider" "state" "I") (by decide +kernel)) (fun _ h9 => h9) rfl dX2_isUnderWay_8 ?_
    refine lv_iconst (v := 1) hx hb dX2_isUnderWay_11 (by decide) ?_
    refine lv_icmp_ne (tgt := 19) hx hb dX2_isUnderWay_12 (by decide) (fun c_5 => ?_) (fun c_5 => ?_)
    · refine lv_iconst (v := 0) hx hb dX2_isUnderWay_19 (by decide) ?_
      exact W.zret (v := 0) hx hb hr rfl (fun t9 ht hW => ⟨_, rfl, (by unfold sUW; rw [if_neg c_3, if_neg c_5]), ht⟩) (fun q h => nomatch h) dX2_isUnderWay_20
    · refine lv_iconst (v := 1) hx hb dX2_isUnderWay_15 (by decide) ?_
      refine lv_goto (tgt := 20) hx hb dX2_isUnderWay_16 (by decide) ?_
      exact W.zret (v := 1) hx hb hr rfl (fun t9 ht hW => ⟨_, rfl, (by unfold sUW; rw [if_neg c_3, if_pos c_5]), ht⟩) (fun q h => nomatch h) dX2_isUnderWay_20

set_option maxHeartbeats 4000000 in
set_option maxRecDepth 100000 in
theorem e_X2_stationOfWay (l : Launch) (dC : Nat → ClassId) (dI : Nat → Nat → Nat) (cs : Nat → ClassId) (L : List Nat) (ka : Nat → Nat) (ix : Nat → Nat) (ad : Nat → Nat → Nat) (n0 : Nat) (n6 : Nat) (n2 : Nat) (S : Nat → Nat → Nat → Int32) (f : Nat → va_E) (i9 : Nat) (h0 : Nat) (p0 : Int32) (sz : Nat) (hT : tB L ka ix ad cs n0 n6 n2 S f) (hk_h0 : tpx L ka ix 2 i9 h0) (hlt_i9 : i9 < n2) : Met l yX2_stationOfWay wsX2_stationOfWay ({ frames := 0, cells := 0, slots := 0, locals := 0 }) (va_Pc [.ref h0, .int p0] (cP dC dI ([] ++ va_pl L f) (tyC cs) sz)) (vp_Si (fun r => r = sSW S i9 p0)) 0 0 (fun _ => False) := by
  refine Met.ofW (cc := cX2_stationOfWay) (maxL := 2) (ret := (some .int)) (by decide) rfl ?_
  intro p e s m args below meth c s₁ B hml hv
  obtain ⟨rfl, hsz, hP, hK, hD0, hN⟩ := hv
  have hx := B.exec
  have hb := B.bytes
  have hr := B.returns
  have hts := atoms_spec (ws := wsX2_stationOfWay) B.pre
  have hown : s.vm.findClass RX2 = some m.cls := findClass_of_methodNamed B.named
  have hlocks := B.notSynchronized
  subst hsz
  have hin2 : ∀ w ∈ u_ws RX2 TX2 10, w ∈ wsX2_stationOfWay := by decide +kernel
  have hD := hD0
  have hP : va_P (dC, dI) vwCl ([] ++ va_pl L f) s.heap := hP
  have hl := lv_entry ([.ref h0, .int p0]) (n := 2) (Nat.le_of_ble_eq_true rfl)
  rw [lg_entry_eq]
  generalize (lg_sl ([.ref h0, .int p0]) ++ List.replicate (2 - (lg_sl ([.ref h0, .int p0])).length) Slot.unset).toArray = ls at hl ⊢
  have hl : lv_has ls 2 [(0, .ref h0), (1, .int p0)] := hl
  refine lv_iload_n hx hb dX2_stationOfWay_0 rfl (lv_at hl 1 rfl) ?_
  refine lv_if_lt (tgt := 22) hx hb dX2_stationOfWay_1 (by decide) (fun c_1 => ?_) (fun c_1 => ?_)
  · refine lv_iconst (v := (-1)) hx hb dX2_stationOfWay_22 (by decide) ?_
    exact W.iret (v := (-1)) hx hb hr (fun t9 ht hW => ⟨_, rfl, (by unfold sSW; rw [if_pos c_1]), ht⟩) (fun q h => nomatch h) dX2_stationOfWay_23
  · refine lv_iload_n hx hb dX2_stationOfWay_4 rfl (lv_at hl 1 rfl) ?_
    refine lv_aload_n hx hb dX2_stationOfWay_5 rfl (lv_at hl 0 rfl) ?_
    have hf_2 : f h0 = .inr (2, [.int (S 32 i9 0), .int (S 33 i9 0), .ref (ad 37 i9), .ref (ad 36 i9), .int (S 36 i9 0), .int (S 37 i9 0), .int (S 38 i9 0), va_rf (oq ad 0 (S 39 i9 0)), .int (S 40 i9 0), .int (S 41 i9 0)]) := hT.get hk_h0
    obtain ⟨q_3, hq_3⟩ := pl_at (X := []) (f := f) (e := .inr (2, [.int (S 32 i9 0), .int (S 33 i9 0), .ref (ad 37 i9), .ref (ad 36 i9), .int (S 36 i9 0), .int (S 37 i9 0), .int (S 38 i9 0), va_rf (oq ad 0 (S 39 i9 0)), .int (S 40 i9 0), .int (S 41 i9 0)])) hk_h0.1 hf_2
    refine va_get (D := (dC, dI)) (ci := 2) (v := .ref (ad 37 i9)) (C := RX2) (T := TX2) (N := 10) hx hb hts hin2 hown hK hP q_3 hq_3 rfl 2 (by decide) (hts (.fieldLink RX2 25 "YamRiders$Rider" "stations" "[I") (by decide +kernel)) (fun _ h9 => h9) rfl dX2_stationOfWay_6 ?_
    obtain ⟨w_5, hw_5, ew_5⟩ := hT.wl (r := i9) (by omega)
    have hf_4 : f (ad 37 i9) = .inl (cs 0, w_5, .inl (S 592 i9)) := (hT.get (hT.k37 (i := i9) (by omega))).trans (by simp only [EN]; rw [ew_5, nI_clamp (by omega)])
    obtain ⟨q_6, hq_6⟩ := pl_at (X := []) (f := f) (e := .inl (cs 0, w_5, .inl (S 592 i9))) (hT.k37 (i := i9) (by omega)).1 hf_4
    refine va_alen (v := nI w_5) hx hb hK hP q_6 0 hq_6 rfl rfl dX2_stationOfWay_9 ?_
    refine lv_icmp_ge (tgt := 22) hx hb dX2_stationOfWay_10 (by decide) (fun c_7 => ?_) (fun c_7 => ?_)
    · refine lv_iconst (v := (-1)) hx hb dX2_stationOfWay_22 (by decide) ?_
      exact W.iret (v := (-1)) hx hb hr (fun t9 ht hW => ⟨_, rfl, (by unfold sSW; rw [if_neg c_1, ew_5, if_pos c_7]), ht⟩) (fun q h => nomatch h) dX2_stationOfWay_23
    · refine lv_aload_n hx hb dX2_stationOfWay_13 rfl (lv_at hl 0 rfl) ?_
      obtain ⟨q_8, hq_8⟩ := pl_at (X := []) (f := f) (e := .inr (2, [.int (S 32 i9 0), .int (S 33 i9 0), .ref (ad 37 i9), .ref (ad 36 i9), .int (S 36 i9 0), .int (S 37 i9 0), .int (S 38 i9 0), va_rf (oq ad 0 (S 39 i9 0)), .int (S 40 i9 0), .int (S 41 i9 0)])) hk_h0.1 hf_2
      refine va_get (D := (dC, dI)) (ci := 2) (v := .ref (ad 37 i9)) (C := RX2) (T := TX2) (N := 10) hx hb hts hin2 hown hK hP q_8 hq_8 rfl 2 (by decide) (hts (.fieldLink RX2 25 "YamRiders$Rider" "stations" "[I") (by decide +kernel)) (fun _ h9 => h9) rfl dX2_stationOfWay_14 ?_
      refine lv_iload_n hx hb dX2_stationOfWay_17 rfl (lv_at hl 1 rfl) ?_
      obtain ⟨u_9, hu_9, rfl⟩ := nat_lt2 (n := w_5) c_1 c_7 (by omega)
      have hf_10 : f (ad 37 i9) = .inl (cs 0, w_5, .inl (S 592 i9)) := (hT.get (hT.k37 (i := i9) (by omega))).trans (by simp only [EN]; rw [ew_5, nI_clamp (by omega)])
      obtain ⟨q_11, hq_11⟩ := pl_at (X := []) (f := f) (e := .inl (cs 0, w_5, .inl (S 592 i9))) (hT.k37 (i := i9) (by omega)).1 hf_10
      refine va_iald hx hb hK hP q_11 0 hq_11 rfl (vp_in_nI (by omega) (by omega)) dX2_stationOfWay_18 ?_
      refine lv_topi (fun v_12 ev_12 => ?_)
      obtain rfl : v_12 = S 592 i9 u_9 := ev_12.trans (by rw [(nI_clamp (by omega))])
      refine lv_goto (tgt := 23) hx hb dX2_stationOfWay_19 (by decide) ?_
      exact W.iret (v := S 592 i9 u_9) hx hb hr (fun t9 ht hW => ⟨_, rfl, (by unfold sSW; rw [if_neg c_1, ew_5, if_neg c_7]; rw [nI_clamp (by omega)]), ht⟩) (fun q h => nomatch h) dX2_stationOfWay_23

set_option maxHeartbeats 4000000 in
set_option maxRecDepth 100000 in
theorem e_X2_lastStation (l : Launch) (dC : Nat → ClassId) (dI : Nat → Nat → Nat) (cs : Nat → ClassId) (L : List Nat) (ka : Nat → Nat) (ix : Nat → Nat) (ad : Nat → Nat → Nat) (n0 : Nat) (n6 : Nat) (n2 : Nat) (S : Nat → Nat → Nat → Int32) (f : Nat → va_E) (i9 : Nat) (h0 : Nat) (sz : Nat) (hT : tB L ka ix ad cs n0 n6 n2 S f) (hk_h0 : tpx L ka ix 2 i9 h0) (hlt_i9 : i9 < n2) : Met l yX2_lastStation wsX2_lastStation ({ frames := 1, cells := 0, slots := 0, locals := 21 }) (va_Pc [.ref h0] (cP dC dI ([] ++ va_pl L f) (tyC cs) sz)) (vp_Si (fun r => r = sSW S i9 ((S 37 i9 0) - 1))) 0 0 (fun _ => False) := by
  refine Met.ofW (cc := cX2_lastStation) (maxL := 1) (ret := (some .int)) (by decide) rfl ?_
  intro p e s m args below meth c s₁ B hml hv
  obtain ⟨rfl, hsz, hP, hK, hD0, hN⟩ := hv
  have hx := B.exec
  have hb := B.bytes
  have hr := B.returns
  have hts := atoms_spec (ws := wsX2_lastStation) B.pre
  have hown : s.vm.findClass RX2 = some m.cls := findClass_of_methodNamed B.named
  have hlocks := B.notSynchronized
  subst hsz
  have hin2 : ∀ w ∈ u_ws RX2 TX2 10, w ∈ wsX2_lastStation := by decide +kernel
  have hD := hD0
  have hP : va_P (dC, dI) vwCl ([] ++ va_pl L f) s.heap := hP
  have hl := lv_entry ([.ref h0]) (n := 1) (Nat.le_of_ble_eq_true rfl)
  rw [lg_entry_eq]
  generalize (lg_sl ([.ref h0]) ++ List.replicate (1 - (lg_sl ([.ref h0])).length) Slot.unset).toArray = ls at hl ⊢
  have hl : lv_has ls 1 [(0, .ref h0)] := hl
  refine lv_aload_n hx hb dX2_lastStation_0 rfl (lv_at hl 0 rfl) ?_
  refine lv_aload_n hx hb dX2_lastStation_1 rfl (lv_at hl 0 rfl) ?_
  have hf_1 : f h0 = .inr (2, [.int (S 32 i9 0), .int (S 33 i9 0), .ref (ad 37 i9), .ref (ad 36 i9), .int (S 36 i9 0), .int (S 37 i9 0), .int (S 38 i9 0), va_rf (oq ad 0 (S 39 i9 0)), .int (S 40 i9 0), .int (S 41 i9 0)]) := hT.get hk_h0
  obtain ⟨q_2, hq_2⟩ := pl_at (X := []) (f := f) (e := .inr (2, [.int (S 32 i9 0), .int (S 33 i9 0), .ref (ad 37 i9), .ref (ad 36 i9), .int (S 36 i9 0), .int (S 37 i9 0), .int (S 38 i9 0), va_rf (oq ad 0 (S 39 i9 0)), .int (S 40 i9 0), .int (S 41 i9 0)])) hk_h0.1 hf_1
  refine va_get (D := (dC, dI)) (ci := 2) (v := .int (S 37 i9 0)) (C := RX2) (T := TX2) (N := 10) hx hb hts hin2 hown hK hP q_2 hq_2 rfl 5 (by decide) (hts (.fieldLink RX2 34 "YamRiders$Rider" "reached" "I") (by decide +kernel)) (fun _ h9 => h9) rfl dX2_lastStation_2 ?_
  refine lv_iconst (v := 1) hx hb dX2_lastStation_5 (by decide) ?_
  refine lv_isub hx hb dX2_lastStation_6 ?_
  have hPc := hP.part (cx := []) [] rfl
  have hDc := hD.part (cx := []) [] (by decide) rfl
  have hKc := hK
  obtain ⟨q_3, hq_3⟩ := pl_at (X := []) (f := f) (e := .inr (2, [.int (S 32 i9 0), .int (S 33 i9 0), .ref (ad 37 i9), .ref (ad 36 i9), .int (S 36 i9 0), .int (S 37 i9 0), .int (S 38 i9 0), va_rf (oq ad 0 (S 39 i9 0)), .int (S 40 i9 0), .int (S 41 i9 0)])) hk_h0.1 hf_1
  refine cs_i (va_runV (As := [.int ((S 37 i9 0) - 1)]) (rest := []) ⟨hx, hb, hml, hown, hts⟩ (e_X2_stationOfWay l dC dI cs L ka ix ad n0 n6 n2 S f i9 h0 ((S 37 i9 0) - 1) s.heap.size hT hk_h0 (by omega)) (cwV 1 hts gX2_lastStation_X2_stationOfWay rfl rfl rfl (by decide +kernel) ⟨Nat.le_of_ble_eq_true rfl, Nat.le_of_ble_eq_true rfl⟩) ⟨c_blind, va_recv hKc hPc (ci := 2) (q0 := q_3) rfl hq_3, c_pre hPc hKc hDc hN⟩ rfl rfl hl.1 rfl (lv_room (Nat.le_of_ble_eq_true rfl)) dX2_lastStation_7 ⟨Nat.le_of_ble_eq_true rfl, Nat.le_of_ble_eq_true rfl⟩) (fun r_4 hr_4 => ?_)
  subst hr_4
  exact W.iret (v := sSW S i9 ((S 37 i9 0) - 1)) hx hb hr (fun t9 ht hW => ⟨_, rfl, rfl, ht⟩) (fun q h => nomatch h) dX2_lastStation_10

set_option maxHeartbeats 4000000 in
set_option maxRecDepth 100000 in
theorem e_X2_nextStation (l : Launch) (dC : Nat → ClassId) (dI : Nat → Nat → Nat) (cs : Nat → ClassId) (L : List Nat) (ka : Nat → Nat) (ix : Nat → Nat) (ad : Nat → Nat → Nat) (n0 : Nat) (n6 : Nat) (n2 : Nat) (S : Nat → Nat → Nat → Int32) (f : Nat → va_E) (i9 : Nat) (h0 : Nat) (sz : Nat) (hT : tB L ka ix ad cs n0 n6 n2 S f) (hk_h0 : tpx L ka ix 2 i9 h0) (hlt_i9 : i9 < n2) : Met l yX2_nextStation wsX2_nextStation ({ frames := 1, cells := 0, slots := 0, locals := 21 }) (va_Pc [.ref h0] (cP dC dI ([] ++ va_pl L f) (tyC cs) sz)) (vp_Si (fun r => r = sSW S i9 (S 37 i9 0))) 0 0 (fun _ => False) := by
  refine Met.ofW (cc := cX2_nextStation) (maxL := 1) (ret := (some .int)) (by decide) rfl ?_
  intro p e s m args below meth c s₁ B hml hv
  obtain ⟨rfl, hsz, hP, hK, hD0, hN⟩ := hv
  have hx := B.exec
  have hb := B.bytes
  have hr := B.returns
  have hts := atoms_spec (ws := wsX2_nextStation) B.pre
  have hown : s.vm.findClass RX2 = some m.cls := findClass_of_methodNamed B.named
  have hlocks := B.notSynchronized
  subst hsz
  have hin2 : ∀ w ∈ u_ws RX2 TX2 10, w ∈ wsX2_nextStation := by decide +kernel
  have hD := hD0
  have hP : va_P (dC, dI) vwCl ([] ++ va_pl L f) s.heap := hP
  have hl := lv_entry ([.ref h0]) (n := 1) (Nat.le_of_ble_eq_true rfl)
  rw [lg_entry_eq]
  generalize (lg_sl ([.ref h0]) ++ List.replicate (1 - (lg_sl ([.ref h0])).length) Slot.unset).toArray = ls at hl ⊢
  have hl : lv_has ls 1 [(0, .ref h0)] := hl
  refine lv_aload_n hx hb dX2_nextStation_0 rfl (lv_at hl 0 rfl) ?_
  refine lv_aload_n hx hb dX2_nextStation_1 rfl (lv_at hl 0 rfl) ?_
  have hf_1 : f h0 = .inr (2, [.int (S 32 i9 0), .int (S 33 i9 0), .ref (ad 37 i9), .ref (ad 36 i9), .int (S 36 i9 0), .int (S 37 i9 0), .int (S 38 i9 0), va_rf (oq ad 0 (S 39 i9 0)), .int (S 40 i9 0), .int (S 41 i9 0)]) := hT.get hk_h0
  obtain ⟨q_2, hq_2⟩ := pl_at (X := []) (f := f) (e := .inr (2, [.int (S 32 i9 0), .int (S 33 i9 0), .ref (ad 37 i9), .ref (ad 36 i9), .int (S 36 i9 0), .int (S 37 i9 0), .int (S 38 i9 0), va_rf (oq ad 0 (S 39 i9 0)), .int (S 40 i9 0), .int (S 41 i9 0)])) hk_h0.1 hf_1
  refine va_get (D := (dC, dI)) (ci := 2) (v := .int (S 37 i9 0)) (C := RX2) (T := TX2) (N := 10) hx hb hts hin2 hown hK hP q_2 hq_2 rfl 5 (by decide) (hts (.fieldLink RX2 34 "YamRiders$Rider" "reached" "I") (by decide +kernel)) (fun _ h9 => h9) rfl dX2_nextStation_2 ?_
  have hPc := hP.part (cx := []) [] rfl
  have hDc := hD.part (cx := []) [] (by decide) rfl
  have hKc := hK
  obtain ⟨q_3, hq_3⟩ := pl_at (X := []) (f := f) (e := .inr (2, [.int (S 32 i9 0), .int (S 33 i9 0), .ref (ad 37 i9), .ref (ad 36 i9), .int (S 36 i9 0), .int (S 37 i9 0), .int (S 38 i9 0), va_rf (oq ad 0 (S 39 i9 0)), .int (S 40 i9 0), .int (S 41 i9 0)])) hk_h0.1 hf_1
  refine cs_i (va_runV (As := [.int (S 37 i9 0)]) (rest := []) ⟨hx, hb, hml, hown, hts⟩ (e_X2_stationOfWay l dC dI cs L ka ix ad n0 n6 n2 S f i9 h0 (S 37 i9 0) s.heap.size hT hk_h0 (by omega)) (cwV 1 hts gX2_nextStation_X2_stationOfWay rfl rfl rfl (by decide +kernel) ⟨Nat.le_of_ble_eq_true rfl, Nat.le_of_ble_eq_true rfl⟩) ⟨c_blind, va_recv hKc hPc (ci := 2) (q0 := q_3) rfl hq_3, c_pre hPc hKc hDc hN⟩ rfl rfl hl.1 rfl (lv_room (Nat.le_of_ble_eq_true rfl)) dX2_nextStation_5 ⟨Nat.le_of_ble_eq_true rfl, Nat.le_of_ble_eq_true rfl⟩) (fun r_4 hr_4 => ?_)
  subst hr_4
  exact W.iret (v := sSW S i9 (S 37 i9 0)) hx hb hr (fun t9 ht hW => ⟨_, rfl, rfl, ht⟩) (fun q h => nomatch h) dX2_nextStation_8

set_option maxHeartbeats 4000000 in
set_option maxRecDepth 100000 in
theorem e_X2_newsKnownSince (l : Launch) (dC : Nat → ClassId) (dI : Nat → Nat → Nat) (cs : Nat → ClassId) (L : List Nat) (ka : Nat → Nat) (ix : Nat → Nat) (ad : Nat → Nat → Nat) (n0 : Nat) (n6 : Nat) (n2 : Nat) (S : Nat → Nat → Nat → Int32) (f : Nat → va_E) (i9 : Nat) (h0 : Nat) (p0 : Int32) (sz : Nat) (hT : tB L ka ix ad cs n0 n6 n2 S f) (hk_h0 : tpx L ka ix 2 i9 h0) (hlt_i9 : i9 < n2) : Met l yX2_newsKnownSince wsX2_newsKnownSince ({ frames := 1, cells := 0, slots := 0, locals := 20 }) (va_Pc [.ref h0, .int p0] (cP dC dI ([] ++ va_pl L f) (tyC cs) sz)) (vp_Si (fun r => r = nkS S i9 p0)) 0 0 (fun _ => False) := by
  refine Met.ofW (cc := cX2_newsKnownSince) (maxL := 2) (ret := (some .int)) (by decide) rfl ?_
  intro p e s m args below meth c s₁ B hml hv
  obtain ⟨rfl, hsz, hP, hK, hD0, hN⟩ := hv
  have hx := B.exec
  have hb := B.bytes
  have hr := B.returns
  have hts := atoms_spec (ws := wsX2_newsKnownSince) B.pre
  have hown : s.vm.findClass RX2 = some m.cls := findClass_of_methodNamed B.named
  have hlocks := B.notSynchronized
  subst hsz
  have hin2 : ∀ w ∈ u_ws RX2 TX2 10, w ∈ wsX2_newsKnownSince := by decide +kernel
  have hD := hD0
  have hP : va_P (dC, dI) vwCl ([] ++ va_pl L f) s.heap := hP
  have hl := lv_entry ([.ref h0, .int p0]) (n := 2) (Nat.le_of_ble_eq_true rfl)
  rw [lg_entry_eq]
  generalize (lg_sl ([.ref h0, .int p0]) ++ List.replicate (2 - (lg_sl ([.ref h0, .int p0])).length) Slot.unset).toArray = ls at hl ⊢
  have hl : lv_has ls 2 [(0, .ref h0), (1, .int p0)] := hl
  refine lv_iload_n hx hb dX2_newsKnownSince_0 rfl (lv_at hl 1 rfl) ?_
  have hPc := hP.sub (ws' := []) [] rfl
  have hDc := hD.sub (ws' := []) [] (by decide) rfl
  have hKc := hK.sub (tys' := []) [] rfl
  refine cs_i (va_runSN (As := [.int p0]) (rest := []) ⟨hx, hb, hml, hown, hts⟩ (c_X8_isStation l dC dI p0 s.heap.size) ⟨va_cnB 1 hts ggX2_newsKnownSince_X8_isStation rfl rfl rfl (hN.1 (.methodLinkNest RX2 41 yX8_isStation "YamRiders") (by decide +kernel)) (hts (.initialized RX8) (by decide +kernel)) (by decide +kernel) ⟨Nat.le_of_ble_eq_true rfl, Nat.le_of_ble_eq_true rfl⟩, hts (.static yX8_isStation) (by decide +kernel), trivial⟩ ⟨c_blind, c_pre hPc hKc hDc hN⟩ rfl rfl hl.1 rfl (lv_room (Nat.le_of_ble_eq_true rfl)) dX2_newsKnownSince_1 ⟨Nat.le_of_ble_eq_true rfl, Nat.le_of_ble_eq_true rfl⟩) (fun r_1 hr_1 => ?_)
  subst hr_1
  refine lv_if_eq (tgt := 16) hx hb dX2_newsKnownSince_4 (by decide) (fun c_2 => ?_) (fun c_2 => ?_)
  · refine lv_iconst (v := (-1)) hx hb dX2_newsKnownSince_16 (by decide) ?_
    exact W.iret (v := (-1)) hx hb hr (fun t9 ht hW => ⟨_, rfl, (by unfold nkS; rw [if_pos c_2]), ht⟩) (fun q h => nomatch h) dX2_newsKnownSince_17
  · refine lv_aload_n hx hb dX2_newsKnownSince_7 rfl (lv_at hl 0 rfl) ?_
    have hf_3 : f h0 = .inr (2, [.int (S 32 i9 0), .int (S 33 i9 0), .ref (ad 37 i9), .ref (ad 36 i9), .int (S 36 i9 0), .int (S 37 i9 0), .int (S 38 i9 0), va_rf (oq ad 0 (S 39 i9 0)), .int (S 40 i9 0), .int (S 41 i9 0)]) := hT.get hk_h0
    obtain ⟨q_4, hq_4⟩ := pl_at (X := []) (f := f) (e := .inr (2, [.int (S 32 i9 0), .int (S 33 i9 0), .ref (ad 37 i9), .ref (ad 36 i9), .int (S 36 i9 0), .int (S 37 i9 0), .int (S 38 i9 0), va_rf (oq ad 0 (S 39 i9 0)), .int (S 40 i9 0), .int (S 41 i9 0)])) hk_h0.1 hf_3
    refine va_get (D := (dC, dI)) (ci := 2) (v := .ref (ad 36 i9)) (C := RX2) (T := TX2) (N := 10) hx hb hts hin2 hown hK hP q_4 hq_4 rfl 3 (by decide) (hts (.fieldLink RX2 9 "YamRiders$Rider" "newsSince" "[I") (by decide +kernel)) (fun _ h9 => h9) rfl dX2_newsKnownSince_8 ?_
    refine lv_iload_n hx hb dX2_newsKnownSince_11 rfl (lv_at hl 1 rfl) ?_
    obtain ⟨u_5, hu_5, rfl⟩ := st_of c_2
    have hf_6 : f (ad 36 i9) = .inl (cs 0, 12, .inl (S 576 i9)) := hT.get (hT.k36 (i := i9) (by omega))
    obtain ⟨q_7, hq_7⟩ := pl_at (X := []) (f := f) (e := .inl (cs 0, 12, .inl (S 576 i9))) (hT.k36 (i := i9) (by omega)).1 hf_6
    refine va_iald hx hb hK hP q_7 0 hq_7 rfl (vp_in_nI (by omega) (by omega)) dX2_newsKnownSince_12 ?_
    refine lv_topi (fun v_8 ev_8 => ?_)
    obtain rfl : v_8 = S 576 i9 u_5 := ev_8.trans (by rw [(nI_clamp (by omega))])
    refine lv_goto (tgt := 17) hx hb dX2_newsKnownSince_13 (by decide) ?_
    exact W.iret (v := S 576 i9 u_5) hx hb hr (fun t9 ht hW => ⟨_, rfl, (by unfold nkS; rw [if_neg c_2]; rw [nI_clamp (by omega)]), ht⟩) (fun q h => nomatch h) dX2_newsKnownSince_17

set_option maxHeartbeats 4000000 in
set_option maxRecDepth 100000 in
theorem e_X2_horseRidden (l : Launch) (dC : Nat → ClassId) (dI : Nat → Nat → Nat) (cs : Nat → ClassId) (L : List Nat) (ka : Nat → Nat) (ix : Nat → Nat) (ad : Nat → Nat → Nat) (n0 : Nat) (n6 : Nat) (n2 : Nat) (S : Nat → Nat → Nat → Int32) (f : Nat → va_E) (i9 : Nat) (h0 : Nat) (sz : Nat) (hT : tB L ka ix ad cs n0 n6 n2 S f) (hk_h0 : tpx L ka ix 2 i9 h0) (hlt_i9 : i9 < n2) : Met l yX2_horseRidden wsX2_horseRidden ({ frames := 0, cells := 0, slots := 0, locals := 0 }) (va_Pc [.ref h0] (cP dC dI ([] ++ va_pl L f) (tyC cs) sz)) (vp_Si (fun r => r = hrS S i9)) 0 0 (fun _ => False) := by
  refine Met.ofW (cc := cX2_horseRidden) (maxL := 1) (ret := (some .int)) (by decide) rfl ?_
  intro p e s m args below meth c s₁ B hml hv
  obtain ⟨rfl, hsz, hP, hK, hD0, hN⟩ := hv
  have hx := B.exec
  have hb := B.bytes
  have hr := B.returns
  have hts := atoms_spec (ws := wsX2_horseRidden) B.pre
  have hown : s.vm.findClass RX2 = some m.cls := findClass_of_methodNamed B.named
  have hlocks := B.notSynchronized
  subst hsz
  have hin0 : ∀ w ∈ u_ws RX0 TX0 3, w ∈ wsX2_horseRidden := by decide +kernel
  have hin2 : ∀ w ∈ u_ws RX2 TX2 10, w ∈ wsX2_horseRidden := by decide +kernel
  have hD := hD0
  have hP : va_P (dC, dI) vwCl ([] ++ va_pl L f) s.heap := hP
  have hl := lv_entry ([.ref h0]) (n := 1) (Nat.le_of_ble_eq_true rfl)
  rw [lg_entry_eq]
  generalize (lg_sl ([.ref h0]) ++ List.replicate (1 - (lg_sl ([.ref h0])).length) Slot.unset).toArray = ls at hl ⊢
  have hl : lv_has ls 1 [(0, .ref h0)] := hl
  refine lv_aload_n hx hb dX2_horseRidden_0 rfl (lv_at hl 0 rfl) ?_
  have hf_1 : f h0 = .inr (2, [.int (S 32 i9 0), .int (S 33 i9 0), .ref (ad 37 i9), .ref (ad 36 i9), .int (S 36 i9 0), .int (S 37 i9 0), .int (S 38 i9 0), va_rf (oq ad 0 (S 39 i9 0)), .int (S 40 i9 0), .int (S 41 i9 0)]) := hT.get hk_h0
  obtain ⟨q_2, hq_2⟩ := pl_at (X := []) (f := f) (e := .inr (2, [.int (S 32 i9 0), .int (S 33 i9 0), .ref (ad 37 i9), .ref (ad 36 i9), .int (S 36 i9 0), .int (S 37 i9 0), .int (S 38 i9 0), va_rf (oq ad 0 (S 39 i9 0)), .int (S 40 i9 0), .int (S 41 i9 0)])) hk_h0.1 hf_1
  refine va_get (D := (dC, dI)) (ci := 2) (v := .int (S 36 i9 0)) (C := RX2) (T := TX2) (N := 10) hx hb hts hin2 hown hK hP q_2 hq_2 rfl 4 (by decide) (hts (.fieldLink RX2 15 "YamRiders$Rider" "state" "I") (by decide +kernel)) (fun _ h9 => h9) rfl dX2_horseRidden_1 ?_
  refine lv_iconst (v := 1) hx hb dX2_horseRidden_4 (by decide) ?_
  refine lv_icmp_ne (tgt := 25) hx hb dX2_horseRidden_5 (by decide) (fun c_3 => ?_) (fun c_3 => ?_)
  · refine lv_iconst (v := (-1)) hx hb dX2_horseRidden_25 (by decide) ?_
    exact W.iret (v := (-1)) hx hb hr (fun t9 ht hW => ⟨_, rfl, (by unfold hrS; rw [if_neg c_3]), ht⟩) (fun q h => nomatch h) dX2_horseRidden_26
  · refine lv_aload_n hx hb dX2_horseRidden_8 rfl (lv_at hl 0 rfl) ?_
    obtain ⟨q_4, hq_4⟩ := pl_at (X := []) (f := f) (e := .inr (2, [.int (S 32 i9 0), .int (S 33 i9 0), .ref (ad 37 i9), .ref (ad 36 i9), .int (S 36 i9 0), .int (S 37 i9 0), .int (S 38 i9 0), va_rf (oq ad 0 (S 39 i9 0)), .int (S 40 i9 0), .int (S 41 i9 0)])) hk_h0.1 hf_1
    refine va_get (D := (dC, dI)) (ci := 2) (v := va_rf (oq ad 0 (S 39 i9 0))) (C := RX2) (T := TX2) (N := 10) hx hb hts hin2 hown hK hP q_4 hq_4 rfl 7 (by decide) (hts (.fieldLink RX2 45 "YamRiders$Rider" "horse" "LYamRiders$Horse;") (by decide +kernel)) (fun _ h9 => h9) rfl dX2_horseRidden_9 ?_
    by_cases c_5 : S 39 i9 0 = -1
    · rw [show (oq ad 0 (S 39 i9 0)) = none from oq_n c_5]
      refine W.eq (g2 := F0 m 12 ls [.null]) rfl ?_
      refine lv_ifnullN (tgt := 25) hx hb dX2_horseRidden_12 (by decide) ?_
      refine lv_iconst (v := (-1)) hx hb dX2_horseRidden_25 (by decide) ?_
      exact W.iret (v := (-1)) hx hb hr (fun t9 ht hW => ⟨_, rfl, (by unfold hrS; rw [if_pos c_3, c_5]), ht⟩) (fun q h => nomatch h) dX2_horseRidden_26
    · obtain ⟨u_6, hu_6, eu_6⟩ := hT.ho (r := i9) (by omega) c_5
      have hn9 := hT.b0
      rw [show (oq ad 0 (S 39 i9 0)) = some (ad 0 u_6) from by rw [eu_6]; exact oq_s (by omega)]
      refine W.eq (g2 := F0 m 12 ls [.ref (ad 0 u_6)]) rfl ?_
      refine lv_ifnull hx hb dX2_horseRidden_12 ?_
      refine lv_aload_n hx hb dX2_horseRidden_15 rfl (lv_at hl 0 rfl) ?_
      obtain ⟨q_7, hq_7⟩ := pl_at (X := []) (f := f) (e := .inr (2, [.int (S 32 i9 0), .int (S 33 i9 0), .ref (ad 37 i9), .ref (ad 36 i9), .int (S 36 i9 0), .int (S 37 i9 0), .int (S 38 i9 0), va_rf (oq ad 0 (S 39 i9 0)), .int (S 40 i9 0), .int (S 41 i9 0)])) hk_h0.1 hf_1
      refine va_get (D := (dC, dI)) (ci := 2) (v := va_rf (oq ad 0 (S 39 i9 0))) (C := RX2) (T := TX2) (N := 10) hx hb hts hin2 hown hK hP q_7 hq_7 rfl 7 (by decide) (hts (.fieldLink RX2 45 "YamRiders$Rider" "horse" "LYamRiders$Horse;") (by decide +kernel)) (fun _ h9 => h9) rfl dX2_horseRidden_16 ?_
      have hn9 := hT.b0
      rw [show (oq ad 0 (S 39 i9 0)) = some (ad 0 u_6) from by rw [eu_6]; exact oq_s (by omega)]
      refine W.eq (g2 := F0 m 19 ls [.ref (ad 0 u_6)]) rfl ?_
      have hf_8 : f (ad 0 u_6) = .inr (0, [.int (nI u_6), .int (S 1 u_6 0), .int (S 2 u_6 0)]) := hT.get (hT.k0 (i := u_6) (by omega))
      obtain ⟨q_9, hq_9⟩ := pl_at (X := []) (f := f) (e := .inr (0, [.int (nI u_6), .int (S 1 u_6 0), .int (S 2 u_6 0)])) (hT.k0 (i := u_6) (by omega)).1 hf_8
      refine va_getN (D := (dC, dI)) (ci := 0) (v := .int (nI u_6)) (C := RX0) (T := TX0) (N := 3) hx hb hts hin0 hown hK hP q_9 hq_9 rfl 0 (by decide) (hN.nx (.fieldLinkNest RX2 49 "YamRiders$Horse" "number" "I" "YamRiders") (by decide +kernel)) (fun _ h9 => h9) rfl dX2_horseRidden_19 ?_
      refine lv_goto (tgt := 26) hx hb dX2_horseRidden_22 (by decide) ?_
      exact W.iret (v := nI u_6) hx hb hr (fun t9 ht hW => ⟨_, rfl, (by unfold hrS; rw [if_pos c_3, eu_6]), ht⟩) (fun q h => nomatch h) dX2_horseRidden_26

set_option maxHeartbeats 4000000 in
set_option maxRecDepth 100000 in
theorem e_X2_leaveOn (l : Launch) (dC : Nat → ClassId) (dI : Nat → Nat → Nat) (cs : Nat → ClassId) (L : List Nat) (ka : Nat → Nat) (ix : Nat → Nat) (ad : Nat → Nat → Nat) (n0 : Nat) (n6 : Nat) (n2 : Nat) (S : Nat → Nat → Nat → Int32) (f : Nat → va_E) (i9 : Nat) (i8 : Nat) (h0 : Nat) (e2 : Nat) (p1 : Int32) (p2 : Int32) (sz : Nat) (hT : tB L ka ix ad cs n0 n6 n2 S f) (hk_h0 : tpx L ka ix 2 i9 h0) (hk_e2 : tpx L ka ix 0 i8 e2) (hlt_i9 : i9 < n2) (hlt_i8 : i8 < n0) : Met l yX2_leaveOn wsX2_leaveOn ({ frames := 0, cells := 0, slots := 0, locals := 0 }) (va_Pc [.ref h0, .ref e2, .int p1, .int p2] (cP dC dI ([] ++ va_pl L f) (tyC cs) sz)) (va_Qv (fun (_ : Unit) => True) (fun (_ : Unit) t9 => ∃ (S2 : Nat → Nat → Nat → Int32) (f2 : Nat → va_E), (tB L ka ix ad cs n0 n6 n2 S2 f2) ∧ (FR S S2) ∧ (S2 = lvS S i9 i8 p1 p2) ∧ cQ dC dI ([] ++ va_pl L f2) [] (va_A ([] ++ va_pl L f) sz) t9) (va_A ([] ++ va_pl L f) sz)) 0 0 (va_A ([] ++ va_pl L f) sz) := by
  refine Met.ofW (cc := cX2_leaveOn) (maxL := 4) (ret := none) (by decide) rfl ?_
  intro p e s m args below meth c s₁ B hml hv
  obtain ⟨rfl, hsz, hP, hK, hD0, hN⟩ := hv
  have hx := B.exec
  have hb := B.bytes
  have hr := B.returns
  have hts := atoms_spec (ws := wsX2_leaveOn) B.pre
  have hown : s.vm.findClass RX2 = some m.cls := findClass_of_methodNamed B.named
  have hlocks := B.notSynchronized
  subst hsz
  have hin2 : ∀ w ∈ u_ws RX2 TX2 10, w ∈ wsX2_leaveOn := by decide +kernel
  have hD := hD0.self (sz := s.heap.size)
  generalize hAe : va_A ([] ++ va_pl L f) s.heap.size = A at hD ⊢
  have hA : ∀ q : Nat, s.heap.size ≤ q → A q := fun q h => by rw [← hAe]; exact Or.inr h
  have hS : va_S A s.heap s.heap [] := va_S.rf
  have hP : va_P (dC, dI) vwCl ([] ++ va_pl L f) s.heap := hP
  have hl := lv_entry ([.ref h0, .ref e2, .int p1, .int p2]) (n := 4) (Nat.le_of_ble_eq_true rfl)
  rw [lg_entry_eq]
  generalize (lg_sl ([.ref h0, .ref e2, .int p1, .int p2]) ++ List.replicate (4 - (lg_sl ([.ref h0, .ref e2, .int p1, .int p2])).length) Slot.unset).toArray = ls at hl ⊢
  have hl : lv_has ls 4 [(0, .ref h0), (1, .ref e2), (2, .int p1), (3, .int p2)] := hl
  refine lv_aload_n hx hb dX2_leaveOn_0 rfl (lv_at hl 0 rfl) ?_
  refine lv_aload_n hx hb dX2_leaveOn_1 rfl (lv_at hl 1 rfl) ?_
  have hf_1 : f h0 = .inr (2, [.int (S 32 i9 0), .int (S 33 i9 0), .ref (ad 37 i9), .ref (ad 36 i9), .int (S 36 i9 0), .int (S 37 i9 0), .int (S 38 i9 0), va_rf (oq ad 0 (S 39 i9 0)), .int (S 40 i9 0), .int (S 41 i9 0)]) := hT.get hk_h0
  obtain ⟨q_2, hq_2⟩ := pl_at (X := []) (f := f) (e := .inr (2, [.int (S 32 i9 0), .int (S 33 i9 0), .ref (ad 37 i9), .ref (ad 36 i9), .int (S 36 i9 0), .int (S 37 i9 0), .int (S 38 i9 0), va_rf (oq ad 0 (S 39 i9 0)), .int (S 40 i9 0), .int (S 41 i9 0)])) hk_h0.1 hf_1
  refine va_put (D := (dC, dI)) (ci := 2) (v := .ref e2) (ty := (tyX2 7)) (C := RX2) (T := TX2) (N := 10) hx hb hts hin2 tyX2 tyX2_ok nmX2 hown hK hP hD hS q_2 hq_2 rfl 7 (by decide) (hts (.fieldLink RX2 45 "YamRiders$Rider" "horse" "LYamRiders$Horse;") (by decide +kernel)) (fun _ h9 => h9) rfl (by decide +kernel) rfl rfl (Nat.le_of_ble_eq_true rfl) dX2_leaveOn_2 (fun H locs hP9 hD9 hS => ?_)
  have hn9 := hT.b0
  have hs_3 := pl_st (.inr (2, [.int (S 32 i9 0), .int (S 33 i9 0), .ref (ad 37 i9), .ref (ad 36 i9), .int (S 36 i9 0), .int (S 37 i9 0), .int (S 38 i9 0), .ref e2, .int (S 40 i9 0), .int (S 41 i9 0)])) hD hk_h0.1 hf_1 hq_2
  have hP9 : va_P (dC, dI) vwCl ((([] : va_W) ++ va_pl L f).set q_2 (h0, .inr (2, [.int (S 32 i9 0), .int (S 33 i9 0), .ref (ad 37 i9), .ref (ad 36 i9), .int (S 36 i9 0), .int (S 37 i9 0), .int (S 38 i9 0), .ref e2, .int (S 40 i9 0), .int (S 41 i9 0)]))) H := hP9
  have hD9 : va_D A ((([] : va_W) ++ va_pl L f).set q_2 (h0, .inr (2, [.int (S 32 i9 0), .int (S 33 i9 0), .ref (ad 37 i9), .ref (ad 36 i9), .int (S 36 i9 0), .int (S 37 i9 0), .int (S 38 i9 0), .ref e2, .int (S 40 i9 0), .int (S 41 i9 0)]))) := hD9
  rw [hs_3] at hP9 hD9
  have hT := hT.up (c := 39) (j := 0) (v := (nI i8)) (e := .inr (2, [.int (S 32 i9 0), .int (S 33 i9 0), .ref (ad 37 i9), .ref (ad 36 i9), .int (S 36 i9 0), .int (S 37 i9 0), .int (S 38 i9 0), .ref e2, .int (S 40 i9 0), .int (S 41 i9 0)])) hk_h0 rfl (hT.2.2.ho (Or.inr ⟨i8, by omega, rfl⟩)) (by have hadr := hT.adr hk_e2; first | (simp [EN, up3, oq_s (show i8 < 2 ^ 31 by omega), va_rf]; done) | (simp [EN, up3, oq_s (show i8 < 2 ^ 31 by omega), va_rf]; exact hadr.symm))
  have hP := hP9
  have hD := hD9
  clear hP9 hD9 hs_3
  obtain ⟨S_5, eS_5⟩ : ∃ S9 : Nat → Nat → Nat → Int32, S9 = up3 S 39 i9 0 (nI i8) := ⟨_, rfl⟩
  rw [← eS_5] at hT
  generalize va_up f h0 (.inr (2, [.int (S 32 i9 0), .int (S 33 i9 0), .ref (ad 37 i9), .ref (ad 36 i9), .int (S 36 i9 0), .int (S 37 i9 0), .int (S 38 i9 0), .ref e2, .int (S 40 i9 0), .int (S 41 i9 0)])) = f_4 at hP hD hT
  have hFr_6 : FR S S_5 := by rw [eS_5]; exact FR.up FR.rf (by decide) (by decide)
  refine lv_aload_n hx hb dX2_leaveOn_5 rfl (lv_at hl 0 rfl) ?_
  refine lv_iload_n hx hb dX2_leaveOn_6 rfl (lv_at hl 2 rfl) ?_
  have hf_7 : f_4 h0 = .inr (2, [.int (S_5 32 i9 0), .int (S_5 33 i9 0), .ref (ad 37 i9), .ref (ad 36 i9), .int (S_5 36 i9 0), .int (S_5 37 i9 0), .int (S_5 38 i9 0), va_rf (oq ad 0 (S_5 39 i9 0)), .int (S_5 40 i9 0), .int (S_5 41 i9 0)]) := hT.get hk_h0
  obtain ⟨q_8, hq_8⟩ := pl_at (X := []) (f := f_4) (e := .inr (2, [.int (S_5 32 i9 0), .int (S_5 33 i9 0), .ref (ad 37 i9), .ref (ad 36 i9), .int (S_5 36 i9 0), .int (S_5 37 i9 0), .int (S_5 38 i9 0), va_rf (oq ad 0 (S_5 39 i9 0)), .int (S_5 40 i9 0), .int (S_5 41 i9 0)])) hk_h0.1 hf_7
  refine va_put (D := (dC, dI)) (ci := 2) (v := .int p1) (ty := (tyX2 8)) (C := RX2) (T := TX2) (N := 10) hx hb hts hin2 tyX2 tyX2_ok nmX2 hown hK hP hD hS q_8 hq_8 rfl 8 (by decide) (hts (.fieldLink RX2 54 "YamRiders$Rider" "left" "I") (by decide +kernel)) (fun _ h9 => h9) rfl (by decide +kernel) rfl rfl (Nat.le_of_ble_eq_true rfl) dX2_leaveOn_7 (fun H locs hP9 hD9 hS => ?_)
  have hs_9 := pl_st (.inr (2, [.int (S_5 32 i9 0), .int (S_5 33 i9 0), .ref (ad 37 i9), .ref (ad 36 i9), .int (S_5 36 i9 0), .int (S_5 37 i9 0), .int (S_5 38 i9 0), va_rf (oq ad 0 (S_5 39 i9 0)), .int p1, .int (S_5 41 i9 0)])) hD hk_h0.1 hf_7 hq_8
  have hP9 : va_P (dC, dI) vwCl ((([] : va_W) ++ va_pl L f_4).set q_8 (h0, .inr (2, [.int (S_5 32 i9 0), .int (S_5 33 i9 0), .ref (ad 37 i9), .ref (ad 36 i9), .int (S_5 36 i9 0), .int (S_5 37 i9 0), .int (S_5 38 i9 0), va_rf (oq ad 0 (S_5 39 i9 0)), .int p1, .int (S_5 41 i9 0)]))) H := hP9
  have hD9 : va_D A ((([] : va_W) ++ va_pl L f_4).set q_8 (h0, .inr (2, [.int (S_5 32 i9 0), .int (S_5 33 i9 0), .ref (ad 37 i9), .ref (ad 36 i9), .int (S_5 36 i9 0), .int (S_5 37 i9 0), .int (S_5 38 i9 0), va_rf (oq ad 0 (S_5 39 i9 0)), .int p1, .int (S_5 41 i9 0)]))) := hD9
  rw [hs_9] at hP9 hD9
  have hT := hT.up (c := 40) (j := 0) (v := p1) (e := .inr (2, [.int (S_5 32 i9 0), .int (S_5 33 i9 0), .ref (ad 37 i9), .ref (ad 36 i9), .int (S_5 36 i9 0), .int (S_5 37 i9 0), .int (S_5 38 i9 0), va_rf (oq ad 0 (S_5 39 i9 0)), .int p1, .int (S_5 41 i9 0)])) hk_h0 rfl (hT.2.2.up (by decide) (by decide) (by decide)) (by simp [EN, up3])
  have hP := hP9
  have hD := hD9
  clear hP9 hD9 hs_9
  obtain ⟨S_11, eS_11⟩ : ∃ S9 : Nat → Nat → Nat → Int32, S9 = up3 S_5 40 i9 0 p1 := ⟨_, rfl⟩
  rw [← eS_11] at hT
  generalize va_up f_4 h0 (.inr (2, [.int (S_5 32 i9 0), .int (S_5 33 i9 0), .ref (ad 37 i9), .ref (ad 36 i9), .int (S_5 36 i9 0), .int (S_5 37 i9 0), .int (S_5 38 i9 0), va_rf (oq ad 0 (S_5 39 i9 0)), .int p1, .int (S_5 41 i9 0)])) = f_10 at hP hD hT
  have hFr_12 : FR S S_11 := by rw [eS_11]; exact FR.up hFr_6 (by decide) (by decide)
  refine lv_aload_n hx hb dX2_leaveOn_10 rfl (lv_at hl 0 rfl) ?_
  refine lv_iload_n hx hb dX2_leaveOn_11 rfl (lv_at hl 3 rfl) ?_
  have hf_13 : f_10 h0 = .inr (2, [.int (S_11 32 i9 0), .int (S_11 33 i9 0), .ref (ad 37 i9), .ref (ad 36 i9), .int (S_11 36 i9 0), .int (S_11 37 i9 0), .int (S_11 38 i9 0), va_rf (oq ad 0 (S_11 39 i9 0)), .int (S_11 40 i9 0), .int (S_11 41 i9 0)]) := hT.get hk_h0
  obtain ⟨q_14, hq_14⟩ := pl_at (X := []) (f := f_10) (e := .inr (2, [.int (S_11 32 i9 0), .int (S_11 33 i9 0), .ref (ad 37 i9), .ref (ad 36 i9), .int (S_11 36 i9 0), .int (S_11 37 i9 0), .int (S_11 38 i9 0), va_rf (oq ad 0 (S_11 39 i9 0)), .int (S_11 40 i9 0), .int (S_11 41 i9 0)])) hk_h0.1 hf_13
  refine va_put (D := (dC, dI)) (ci := 2) (v := .int p2) (ty := (tyX2 9)) (C := RX2) (T := TX2) (N := 10) hx hb hts hin2 tyX2 tyX2_ok nmX2 hown hK hP hD hS q_14 hq_14 rfl 9 (by decide) (hts (.fieldLink RX2 57 "YamRiders$Rider" "time" "I") (by decide +kernel)) (fun _ h9 => h9) rfl (by decide +kernel) rfl rfl (Nat.le_of_ble_eq_true rfl) dX2_leaveOn_12 (fun H locs hP9 hD9 hS => ?_)
  have hs_15 := pl_st (.inr (2, [.int (S_11 32 i9 0), .int (S_11 33 i9 0), .ref (ad 37 i9), .ref (ad 36 i9), .int (S_11 36 i9 0), .int (S_11 37 i9 0), .int (S_11 38 i9 0), va_rf (oq ad 0 (S_11 39 i9 0)), .int (S_11 40 i9 0), .int p2])) hD hk_h0.1 hf_13 hq_14
  have hP9 : va_P (dC, dI) vwCl ((([] : va_W) ++ va_pl L f_10).set q_14 (h0, .inr (2, [.int (S_11 32 i9 0), .int (S_11 33 i9 0), .ref (ad 37 i9), .ref (ad 36 i9), .int (S_11 36 i9 0), .int (S_11 37 i9 0), .int (S_11 38 i9 0), va_rf (oq ad 0 (S_11 39 i9 0)), .int (S_11 40 i9 0), .int p2]))) H := hP9
  have hD9 : va_D A ((([] : va_W) ++ va_pl L f_10).set q_14 (h0, .inr (2, [.int (S_11 32 i9 0), .int (S_11 33 i9 0), .ref (ad 37 i9), .ref (ad 36 i9), .int (S_11 36 i9 0), .int (S_11 37 i9 0), .int (S_11 38 i9 0), va_rf (oq ad 0 (S_11 39 i9 0)), .int (S_11 40 i9 0), .int p2]))) := hD9
  rw [hs_15] at hP9 hD9
  have hT := hT.up (c := 41) (j := 0) (v := p2) (e := .inr (2, [.int (S_11 32 i9 0), .int (S_11 33 i9 0), .ref (ad 37 i9), .ref (ad 36 i9), .int (S_11 36 i9 0), .int (S_11 37 i9 0), .int (S_11 38 i9 0), va_rf (oq ad 0 (S_11 39 i9 0)), .int (S_11 40 i9 0), .int p2])) hk_h0 rfl (hT.2.2.up (by decide) (by decide) (by decide)) (by simp [EN, up3])
  have hP := hP9
  have hD := hD9
  clear hP9 hD9 hs_15
  obtain ⟨S_17, eS_17⟩ : ∃ S9 : Nat → Nat → Nat → Int32, S9 = up3 S_11 41 i9 0 p2 := ⟨_, rfl⟩
  rw [← eS_17] at hT
  generalize va_up f_10 h0 (.inr (2, [.int (S_11 32 i9 0), .int (S_11 33 i9 0), .ref (ad 37 i9), .ref (ad 36 i9), .int (S_11 36 i9 0), .int (S_11 37 i9 0), .int (S_11 38 i9 0), va_rf (oq ad 0 (S_11 39 i9 0)), .int (S_11 40 i9 0), .int p2])) = f_16 at hP hD hT
  have hFr_18 : FR S S_17 := by rw [eS_17]; exact FR.up hFr_12 (by decide) (by decide)
  refine lv_aload_n hx hb dX2_leaveOn_15 rfl (lv_at hl 0 rfl) ?_
  refine lv_iconst (v := 1) hx hb dX2_leaveOn_16 (by decide) ?_
  have hf_19 : f_16 h0 = .inr (2, [.int (S_17 32 i9 0), .int (S_17 33 i9 0), .ref (ad 37 i9), .ref (ad 36 i9), .int (S_17 36 i9 0), .int (S_17 37 i9 0), .int (S_17 38 i9 0), va_rf (oq ad 0 (S_17 39 i9 0)), .int (S_17 40 i9 0), .int (S_17 41 i9 0)]) := hT.get hk_h0
  obtain ⟨q_20, hq_20⟩ := pl_at (X := []) (f := f_16) (e := .inr (2, [.int (S_17 32 i9 0), .int (S_17 33 i9 0), .ref (ad 37 i9), .ref (ad 36 i9), .int (S_17 36 i9 0), .int (S_17 37 i9 0), .int (S_17 38 i9 0), va_rf (oq ad 0 (S_17 39 i9 0)), .int (S_17 40 i9 0), .int (S_17 41 i9 0)])) hk_h0.1 hf_19
  refine va_put (D := (dC, dI)) (ci := 2) (v := .int 1) (ty := (tyX2 4)) (C := RX2) (T := TX2) (N := 10) hx hb hts hin2 tyX2 tyX2_ok nmX2 hown hK hP hD hS q_20 hq_20 rfl 4 (by decide) (hts (.fieldLink RX2 15 "YamRiders$Rider" "state" "I") (by decide +kernel)) (fun _ h9 => h9) rfl (by decide +kernel) rfl rfl (Nat.le_of_ble_eq_true rfl) dX2_leaveOn_17 (fun H locs hP9 hD9 hS => ?_)
  have hs_21 := pl_st (.inr (2, [.int (S_17 32 i9 0), .int (S_17 33 i9 0), .ref (ad 37 i9), .ref (ad 36 i9), .int 1, .int (S_17 37 i9 0), .int (S_17 38 i9 0), va_rf (oq ad 0 (S_17 39 i9 0)), .int (S_17 40 i9 0), .int (S_17 41 i9 0)])) hD hk_h0.1 hf_19 hq_20
  have hP9 : va_P (dC, dI) vwCl ((([] : va_W) ++ va_pl L f_16).set q_20 (h0, .inr (2, [.int (S_17 32 i9 0), .int (S_17 33 i9 0), .ref (ad 37 i9), .ref (ad 36 i9), .int 1, .int (S_17 37 i9 0), .int (S_17 38 i9 0), va_rf (oq ad 0 (S_17 39 i9 0)), .int (S_17 40 i9 0), .int (S_17 41 i9 0)]))) H := hP9
  have hD9 : va_D A ((([] : va_W) ++ va_pl L f_16).set q_20 (h0, .inr (2, [.int (S_17 32 i9 0), .int (S_17 33 i9 0), .ref (ad 37 i9), .ref (ad 36 i9), .int 1, .int (S_17 37 i9 0), .int (S_17 38 i9 0), va_rf (oq ad 0 (S_17 39 i9 0)), .int (S_17 40 i9 0), .int (S_17 41 i9 0)]))) := hD9
  rw [hs_21] at hP9 hD9
  have hT := hT.up (c := 36) (j := 0) (v := 1) (e := .inr (2, [.int (S_17 32 i9 0), .int (S_17 33 i9 0), .ref (ad 37 i9), .ref (ad 36 i9), .int 1, .int (S_17 37 i9 0), .int (S_17 38 i9 0), va_rf (oq ad 0 (S_17 39 i9 0)), .int (S_17 40 i9 0), .int (S_17 41 i9 0)])) hk_h0 rfl (hT.2.2.up (by decide) (by decide) (by decide)) (by simp [EN, up3])
  have hP := hP9
  have hD := hD9
  clear hP9 hD9 hs_21
  obtain ⟨S_23, eS_23⟩ : ∃ S9 : Nat → Nat → Nat → Int32, S9 = up3 S_17 36 i9 0 1 := ⟨_, rfl⟩
  rw [← eS_23] at hT
  generalize va_up f_16 h0 (.inr (2, [.int (S_17 32 i9 0), .int (S_17 33 i9 0), .ref (ad 37 i9), .ref (ad 36 i9), .int 1, .int (S_17 37 i9 0), .int (S_17 38 i9 0), va_rf (oq ad 0 (S_17 39 i9 0)), .int (S_17 40 i9 0), .int (S_17 41 i9 0)])) = f_22 at hP hD hT
  have hFr_24 : FR S S_23 := by rw [eS_23]; exact FR.up hFr_18 (by decide) (by decide)
  have hP9 := hP.part (cx := []) [] rfl
  have hD9 := hD.part (cx := []) [] (by decide) rfl
  have hK9 := hK.sub (tys' := []) [] rfl
  refine W.widen (k := 0) (n := 0) (Nat.le_of_ble_eq_true rfl) (Nat.le_of_ble_eq_true rfl) ?_
  exact W.vret hx hb hr (fun t9 ht hW => ⟨⟨(), rfl, trivial, S_23, f_22, hT, hFr_24, (by rw [eS_23, eS_17, eS_11, eS_5]; rfl), by rw [ht]; exact hP9, va_K.moved hW.alike hK9, hD9⟩, hS.F ht⟩) hS.2.2 dX2_leaveOn_20

set_option maxHeartbeats 4000000 in
set_option maxRecDepth 100000 in
theorem e_X2_comeTo (l : Launch) (dC : Nat → ClassId) (dI : Nat → Nat → Nat) (cs : Nat → ClassId) (L : List Nat) (ka : Nat → Nat) (ix : Nat → Nat) (ad : Nat → Nat → Nat) (n0 : Nat) (n6 : Nat) (n2 : Nat) (S : Nat → Nat → Nat → Int32) (f : Nat → va_E) (i9 : Nat) (h0 : Nat) (p0 : Int32) (sz : Nat) (hT : tB L ka ix ad cs n0 n6 n2 S f) (hk_h0 : tpx L ka ix 2 i9 h0) (hlt_i9 : i9 < n2) : Met l yX2_comeToNextStation wsX2_comeToNextStation ({ frames := 2, cells := 0, slots := 0, locals := 41 }) (va_Pc [.ref h0, .int p0] (cP dC dI ([] ++ va_pl L f) (tyC cs) sz)) (va_Qv (fun (_ : Unit) => True) (fun (_ : Unit) t9 => ∃ (S2 : Nat → Nat → Nat → Int32) (f2 : Nat → va_E), (tB L ka ix ad cs n0 n6 n2 S2 f2) ∧ (FR S S2) ∧ (S2 = cmS S i9 p0) ∧ cQ dC dI ([] ++ va_pl L f2) [] (va_A ([] ++ va_pl L f) sz) t9) (va_A ([] ++ va_pl L f) sz)) 0 0 (va_A ([] ++ va_pl L f) sz) := by
  refine Met.ofW (cc := cX2_comeToNextStation) (maxL := 3) (ret := none) (by decide) rfl ?_
  intro p e s m args below meth c s₁ B hml hv
  obtain ⟨rfl, hsz, hP, hK, hD0, hN⟩ := hv
  have hx := B.exec
  have hb := B.bytes
  have hr := B.returns
  have hts := atoms_spec (ws := wsX2_comeToNextStation) B.pre
  have hown : s.vm.findClass RX2 = some m.cls := findClass_of_methodNamed B.named
  have hlocks := B.notSynchronized
  subst hsz
  have hin2 : ∀ w ∈ u_ws RX2 TX2 10, w ∈ wsX2_comeToNextStation := by decide +kernel
  have hD := hD0.self (sz := s.heap.size)
  generalize hAe : va_A ([] ++ va_pl L f) s.heap.size = A at hD ⊢
  have hA : ∀ q : Nat, s.heap.size ≤ q → A q := fun q h => by rw [← hAe]; exact Or.inr h
  have hS : va_S A s.heap s.heap [] := va_S.rf
  have hP : va_P (dC, dI) vwCl ([] ++ va_pl L f) s.heap := hP
  have hl := lv_entry ([.ref h0, .int p0]) (n := 3) (Nat.le_of_ble_eq_true rfl)
  rw [lg_entry_eq]
  generalize (lg_sl ([.ref h0, .int p0]) ++ List.replicate (3 - (lg_sl ([.ref h0, .int p0])).length) Slot.unset).toArray = ls at hl ⊢
  have hl : lv_has ls 3 [(0, .ref h0), (1, .int p0)] := hl
  refine lv_aload_n hx hb dX2_comeToNextStation_0 rfl (lv_at hl 0 rfl) ?_
  have hPc := hP.part (cx := []) [] rfl
  have hDc := hD.part (cx := []) [] (by decide) rfl
  have hKc := hK
  have hf_1 : f h0 = .inr (2, [.int (S 32 i9 0), .int (S 33 i9 0), .ref (ad 37 i9), .ref (ad 36 i9), .int (S 36 i9 0), .int (S 37 i9 0), .int (S 38 i9 0), va_rf (oq ad 0 (S 39 i9 0)), .int (S 40 i9 0), .int (S 41 i9 0)]) := hT.get hk_h0
  obtain ⟨q_2, hq_2⟩ := pl_at (X := []) (f := f) (e := .inr (2, [.int (S 32 i9 0), .int (S 33 i9 0), .ref (ad 37 i9), .ref (ad 36 i9), .int (S 36 i9 0), .int (S 37 i9 0), .int (S 38 i9 0), va_rf (oq ad 0 (S 39 i9 0)), .int (S 40 i9 0), .int (S 41 i9 0)])) hk_h0.1 hf_1
  refine cs_i (va_runV (As := []) (rest := []) ⟨hx, hb, hml, hown, hts⟩ (e_X2_nextStation l dC dI cs L ka ix ad n0 n6 n2 S f i9 h0 s.heap.size hT hk_h0 (by omega)) (cwV 0 hts gX2_comeToNextStation_X2_nextStation rfl rfl rfl (by decide +kernel) ⟨Nat.le_of_ble_eq_true rfl, Nat.le_of_ble_eq_true rfl⟩) ⟨c_blind, va_recv hKc hPc (ci := 2) (q0 := q_2) rfl hq_2, c_pre hPc hKc hDc hN⟩ rfl rfl hl.1 rfl (lv_room (Nat.le_of_ble_eq_true rfl)) dX2_comeToNextStation_1 ⟨Nat.le_of_ble_eq_true rfl, Nat.le_of_ble_eq_true rfl⟩) (fun r_3 hr_3 => ?_)
  subst hr_3
  refine lv_istore_n (lv' := [(2, .int (sSW S i9 (S 37 i9 0))), (0, .ref h0), (1, .int p0)]) hx hb dX2_comeToNextStation_4 rfl hl (by decide) rfl (fun ls hl => ?_)
  refine lv_iload_n hx hb dX2_comeToNextStation_5 rfl (lv_at hl 0 rfl) ?_
  have hPc := hP.sub (ws' := []) [] rfl
  have hDc := hD.sub (ws' := []) [] (by decide) rfl
  have hKc := hK.sub (tys' := []) [] rfl
  refine cs_i (va_runSN (As := [.int (sSW S i9 (S 37 i9 0))]) (rest := []) ⟨hx, hb, hml, hown, hts⟩ (c_X8_isStation l dC dI (sSW S i9 (S 37 i9 0)) s.heap.size) ⟨va_cnB 1 hts ggX2_comeToNextStation_X8_isStation rfl rfl rfl (hN.1 (.methodLinkNest RX2 41 yX8_isStation "YamRiders") (by decide +kernel)) (hts (.initialized RX8) (by decide +kernel)) (by decide +kernel) ⟨Nat.le_of_ble_eq_true rfl, Nat.le_of_ble_eq_true rfl⟩, hts (.static yX8_isStation) (by decide +kernel), trivial⟩ ⟨c_blind, c_pre hPc hKc hDc hN⟩ rfl rfl hl.1 rfl (lv_room (Nat.le_of_ble_eq_true rfl)) dX2_comeToNextStation_6 ⟨Nat.le_of_ble_eq_true rfl, Nat.le_of_ble_eq_true rfl⟩) (fun r_4 hr_4 => ?_)
  subst hr_4
  refine lv_if_ne (tgt := 13) hx hb dX2_comeToNextStation_9 (by decide) (fun c_5 => ?_) (fun c_5 => ?_)
  · refine lv_aload_n hx hb dX2_comeToNextStation_13 rfl (lv_at hl 1 rfl) ?_
    obtain ⟨q_6, hq_6⟩ := pl_at (X := []) (f := f) (e := .inr (2, [.int (S 32 i9 0), .int (S 33 i9 0), .ref (ad 37 i9), .ref (ad 36 i9), .int (S 36 i9 0), .int (S 37 i9 0), .int (S 38 i9 0), va_rf (oq ad 0 (S 39 i9 0)), .int (S 40 i9 0), .int (S 41 i9 0)])) hk_h0.1 hf_1
    refine va_get (D := (dC, dI)) (ci := 2) (v := .ref (ad 36 i9)) (C := RX2) (T := TX2) (N := 10) hx hb hts hin2 hown hK hP q_6 hq_6 rfl 3 (by decide) (hts (.fieldLink RX2 9 "YamRiders$Rider" "newsSince" "[I") (by decide +kernel)) (fun _ h9 => h9) rfl dX2_comeToNextStation_14 ?_
    refine lv_iload_n hx hb dX2_comeToNextStation_17 rfl (lv_at hl 0 rfl) ?_
    refine lv_iload_n hx hb dX2_comeToNextStation_18 rfl (lv_at hl 2 rfl) ?_
    obtain ⟨u_7, hu_7, eu_7⟩ := st_of c_5
    have hf_8 : f (ad 36 i9) = .inl (cs 0, 12, .inl (S 576 i9)) := hT.get (hT.k36 (i := i9) (by omega))
    obtain ⟨q_9, hq_9⟩ := pl_at (X := []) (f := f) (e := .inl (cs 0, 12, .inl (S 576 i9))) (hT.k36 (i := i9) (by omega)).1 hf_8
    refine va_iast hx hb hK hP hD hS q_9 0 hq_9 rfl (by rw [eu_7]; exact vp_in_nI (by omega) (by omega)) dX2_comeToNextStation_19 (fun H locs hP9 hD9 hS => ?_)
    have hs_10 := pl_st (.inl (cs 0, 12, .inl (upd (S 576 i9) (sSW S i9 (S 37 i9 0)).toNatClampNeg p0))) hD (hT.k36 (i := i9) (by omega)).1 hf_8 hq_9
    have hP9 : va_P (dC, dI) vwCl ((([] : va_W) ++ va_pl L f).set q_9 ((ad 36 i9), .inl (cs 0, 12, .inl (upd (S 576 i9) (sSW S i9 (S 37 i9 0)).toNatClampNeg p0)))) H := hP9
    have hD9 : va_D A ((([] : va_W) ++ va_pl L f).set q_9 ((ad 36 i9), .inl (cs 0, 12, .inl (upd (S 576 i9) (sSW S i9 (S 37 i9 0)).toNatClampNeg p0)))) := hD9
    rw [hs_10] at hP9 hD9
    have hT := hT.up (c := 576) (j := u_7) (v := p0) (e := .inl (cs 0, 12, .inl (upd (S 576 i9) (sSW S i9 (S 37 i9 0)).toNatClampNeg p0))) (hT.k36 (i := i9) (by omega)) rfl (hT.2.2.up (by decide) (by decide) (by decide)) (by simp only [EN]; rw [up3_a, (show (sSW S i9 (S 37 i9 0)).toNatClampNeg = u_7 from by rw [eu_7]; exact nI_clamp (by omega))])
    have hP := hP9
    have hD := hD9
    clear hP9 hD9 hs_10
    obtain ⟨S_12, eS_12⟩ : ∃ S9 : Nat → Nat → Nat → Int32, S9 = up3 S 576 i9 u_7 p0 := ⟨_, rfl⟩
    rw [← eS_12] at hT
    generalize va_up f (ad 36 i9) (.inl (cs 0, 12, .inl (upd (S 576 i9) (sSW S i9 (S 37 i9 0)).toNatClampNeg p0))) = f_11 at hP hD hT
    have hFr_13 : FR S S_12 := by rw [eS_12]; exact FR.up FR.rf (by decide) (by decide)
    refine lv_aload_n hx hb dX2_comeToNextStation_20 rfl (lv_at hl 1 rfl) ?_
    refine lv_iload_n hx hb dX2_comeToNextStation_21 rfl (lv_at hl 2 rfl) ?_
    have hf_14 : f_11 h0 = .inr (2, [.int (S_12 32 i9 0), .int (S_12 33 i9 0), .ref (ad 37 i9), .ref (ad 36 i9), .int (S_12 36 i9 0), .int (S_12 37 i9 0), .int (S_12 38 i9 0), va_rf (oq ad 0 (S_12 39 i9 0)), .int (S_12 40 i9 0), .int (S_12 41 i9 0)]) := hT.get hk_h0
    obtain ⟨q_15, hq_15⟩ := pl_at (X := []) (f := f_11) (e := .inr (2, [.int (S_12 32 i9 0), .int (S_12 33 i9 0), .ref (ad 37 i9), .ref (ad 36 i9), .int (S_12 36 i9 0), .int (S_12 37 i9 0), .int (S_12 38 i9 0), va_rf (oq ad 0 (S_12 39 i9 0)), .int (S_12 40 i9 0), .int (S_12 41 i9 0)])) hk_h0.1 hf_14
    refine va_put (D := (dC, dI)) (ci := 2) (v := .int p0) (ty := (tyX2 6)) (C := RX2) (T := TX2) (N := 10) hx hb hts hin2 tyX2 tyX2_ok nmX2 hown hK hP hD hS q_15 hq_15 rfl 6 (by decide) (hts (.fieldLink RX2 64 "YamRiders$Rider" "came" "I") (by decide +kernel)) (fun _ h9 => h9) rfl (by decide +kernel) rfl rfl (Nat.le_of_ble_eq_true rfl) dX2_comeToNextStation_22 (fun H locs hP9 hD9 hS => ?_)
    have hs_16 := pl_st (.inr (2, [.int (S_12 32 i9 0), .int (S_12 33 i9 0), .ref (ad 37 i9), .ref (ad 36 i9), .int (S_12 36 i9 0), .int (S_12 37 i9 0), .int p0, va_rf (oq ad 0 (S_12 39 i9 0)), .int (S_12 40 i9 0), .int (S_12 41 i9 0)])) hD hk_h0.1 hf_14 hq_15
    have hP9 : va_P (dC, dI) vwCl ((([] : va_W) ++ va_pl L f_11).set q_15 (h0, .inr (2, [.int (S_12 32 i9 0), .int (S_12 33 i9 0), .ref (ad 37 i9), .ref (ad 36 i9), .int (S_12 36 i9 0), .int (S_12 37 i9 0), .int p0, va_rf (oq ad 0 (S_12 39 i9 0)), .int (S_12 40 i9 0), .int (S_12 41 i9 0)]))) H := hP9
    have hD9 : va_D A ((([] : va_W) ++ va_pl L f_11).set q_15 (h0, .inr (2, [.int (S_12 32 i9 0), .int (S_12 33 i9 0), .ref (ad 37 i9), .ref (ad 36 i9), .int (S_12 36 i9 0), .int (S_12 37 i9 0), .int p0, va_rf (oq ad 0 (S_12 39 i9 0)), .int (S_12 40 i9 0), .int (S_12 41 i9 0)]))) := hD9
    rw [hs_16] at hP9 hD9
    have hT := hT.up (c := 38) (j := 0) (v := p0) (e := .inr (2, [.int (S_12 32 i9 0), .int (S_12 33 i9 0), .ref (ad 37 i9), .ref (ad 36 i9), .int (S_12 36 i9 0), .int (S_12 37 i9 0), .int p0, va_rf (oq ad 0 (S_12 39 i9 0)), .int (S_12 40 i9 0), .int (S_12 41 i9 0)])) hk_h0 rfl (hT.2.2.up (by decide) (by decide) (by decide)) (by simp [EN, up3])
    have hP := hP9
    have hD := hD9
    clear hP9 hD9 hs_16
    obtain ⟨S_18, eS_18⟩ : ∃ S9 : Nat → Nat → Nat → Int32, S9 = up3 S_12 38 i9 0 p0 := ⟨_, rfl⟩
    rw [← eS_18] at hT
    generalize va_up f_11 h0 (.inr (2, [.int (S_12 32 i9 0), .int (S_12 33 i9 0), .ref (ad 37 i9), .ref (ad 36 i9), .int (S_12 36 i9 0), .int (S_12 37 i9 0), .int p0, va_rf (oq ad 0 (S_12 39 i9 0)), .int (S_12 40 i9 0), .int (S_12 41 i9 0)])) = f_17 at hP hD hT
    have hFr_19 : FR S S_18 := by rw [eS_18]; exact FR.up hFr_13 (by decide) (by decide)
    refine lv_aload_n hx hb dX2_comeToNextStation_25 rfl (lv_at hl 1 rfl) ?_
    refine lv_dup hx hb dX2_comeToNextStation_26 rfl ?_
    have hf_20 : f_17 h0 = .inr (2, [.int (S_18 32 i9 0), .int (S_18 33 i9 0), .ref (ad 37 i9), .ref (ad 36 i9), .int (S_18 36 i9 0), .int (S_18 37 i9 0), .int (S_18 38 i9 0), va_rf (oq ad 0 (S_18 39 i9 0)), .int (S_18 40 i9 0), .int (S_18 41 i9 0)]) := hT.get hk_h0
    obtain ⟨q_21, hq_21⟩ := pl_at (X := []) (f := f_17) (e := .inr (2, [.int (S_18 32 i9 0), .int (S_18 33 i9 0), .ref (ad 37 i9), .ref (ad 36 i9), .int (S_18 36 i9 0), .int (S_18 37 i9 0), .int (S_18 38 i9 0), va_rf (oq ad 0 (S_18 39 i9 0)), .int (S_18 40 i9 0), .int (S_18 41 i9 0)])) hk_h0.1 hf_20
    refine va_get (D := (dC, dI)) (ci := 2) (v := .int (S_18 37 i9 0)) (C := RX2) (T := TX2) (N := 10) hx hb hts hin2 hown hK hP q_21 hq_21 rfl 5 (by decide) (hts (.fieldLink RX2 34 "YamRiders$Rider" "reached" "I") (by decide +kernel)) (fun _ h9 => h9) rfl dX2_comeToNextStation_27 ?_
    refine lv_iconst (v := 1) hx hb dX2_comeToNextStation_30 (by decide) ?_
    refine lv_iadd hx hb dX2_comeToNextStation_31 ?_
    obtain ⟨q_22, hq_22⟩ := pl_at (X := []) (f := f_17) (e := .inr (2, [.int (S_18 32 i9 0), .int (S_18 33 i9 0), .ref (ad 37 i9), .ref (ad 36 i9), .int (S_18 36 i9 0), .int (S_18 37 i9 0), .int (S_18 38 i9 0), va_rf (oq ad 0 (S_18 39 i9 0)), .int (S_18 40 i9 0), .int (S_18 41 i9 0)])) hk_h0.1 hf_20
    refine va_put (D := (dC, dI)) (ci := 2) (v := .int ((S_18 37 i9 0) + 1)) (ty := (tyX2 5)) (C := RX2) (T := TX2) (N := 10) hx hb hts hin2 tyX2 tyX2_ok nmX2 hown hK hP hD hS q_22 hq_22 rfl 5 (by decide) (hts (.fieldLink RX2 34 "YamRiders$Rider" "reached" "I") (by decide +kernel)) (fun _ h9 => h9) rfl (by decide +kernel) rfl rfl (Nat.le_of_ble_eq_true rfl) dX2_comeToNextStation_32 (fun H locs hP9 hD9 hS => ?_)
    have hs_23 := pl_st (.inr (2, [.int (S_18 32 i9 0), .int (S_18 33 i9 0), .ref (ad 37 i9), .ref (ad 36 i9), .int (S_18 36 i9 0), .int ((S_18 37 i9 0) + 1), .int (S_18 38 i9 0), va_rf (oq ad 0 (S_18 39 i9 0)), .int (S_18 40 i9 0), .int (S_18 41 i9 0)])) hD hk_h0.1 hf_20 hq_22
    have hP9 : va_P (dC, dI) vwCl ((([] : va_W) ++ va_pl L f_17).set q_22 (h0, .inr (2, [.int (S_18 32 i9 0), .int (S_18 33 i9 0), .ref (ad 37 i9), .ref (ad 36 i9), .int (S_18 36 i9 0), .int ((S_18 37 i9 0) + 1), .int (S_18 38 i9 0), va_rf (oq ad 0 (S_18 39 i9 0)), .int (S_18 40 i9 0), .int (S_18 41 i9 0)]))) H := hP9
    have hD9 : va_D A ((([] : va_W) ++ va_pl L f_17).set q_22 (h0, .inr (2, [.int (S_18 32 i9 0), .int (S_18 33 i9 0), .ref (ad 37 i9), .ref (ad 36 i9), .int (S_18 36 i9 0), .int ((S_18 37 i9 0) + 1), .int (S_18 38 i9 0), va_rf (oq ad 0 (S_18 39 i9 0)), .int (S_18 40 i9 0), .int (S_18 41 i9 0)]))) := hD9
    rw [hs_23] at hP9 hD9
    have hT := hT.up (c := 37) (j := 0) (v := ((S_18 37 i9 0) + 1)) (e := .inr (2, [.int (S_18 32 i9 0), .int (S_18 33 i9 0), .ref (ad 37 i9), .ref (ad 36 i9), .int (S_18 36 i9 0), .int ((S_18 37 i9 0) + 1), .int (S_18 38 i9 0), va_rf (oq ad 0 (S_18 39 i9 0)), .int (S_18 40 i9 0), .int (S_18 41 i9 0)])) hk_h0 rfl (hT.2.2.up (by decide) (by decide) (by decide)) (by simp [EN, up3])
    have hP := hP9
    have hD := hD9
    clear hP9 hD9 hs_23
    obtain ⟨S_25, eS_25⟩ : ∃ S9 : Nat → Nat → Nat → Int32, S9 = up3 S_18 37 i9 0 ((S_18 37 i9 0) + 1) := ⟨_, rfl⟩
    rw [← eS_25] at hT
    generalize va_up f_17 h0 (.inr (2, [.int (S_18 32 i9 0), .int (S_18 33 i9 0), .ref (ad 37 i9), .ref (ad 36 i9), .int (S_18 36 i9 0), .int ((S_18 37 i9 0) + 1), .int (S_18 38 i9 0), va_rf (oq ad 0 (S_18 39 i9 0)), .int (S_18 40 i9 0), .int (S_18 41 i9 0)])) = f_24 at hP hD hT
    have hFr_26 : FR S S_25 := by rw [eS_25]; exact FR.up hFr_19 (by decide) (by decide)
    refine lv_aload_n hx hb dX2_comeToNextStation_35 rfl (lv_at hl 1 rfl) ?_
    refine lv_aload_n hx hb dX2_comeToNextStation_36 rfl (lv_at hl 1 rfl) ?_
    have hf_27 : f_24 h0 = .inr (2, [.int (S_25 32 i9 0), .int (S_25 33 i9 0), .ref (ad 37 i9), .ref (ad 36 i9), .int (S_25 36 i9 0), .int (S_25 37 i9 0), .int (S_25 38 i9 0), va_rf (oq ad 0 (S_25 39 i9 0)), .int (S_25 40 i9 0), .int (S_25 41 i9 0)]) := hT.get hk_h0
    obtain ⟨q_28, hq_28⟩ := pl_at (X := []) (f := f_24) (e := .inr (2, [.int (S_25 32 i9 0), .int (S_25 33 i9 0), .ref (ad 37 i9), .ref (ad 36 i9), .int (S_25 36 i9 0), .int (S_25 37 i9 0), .int (S_25 38 i9 0), va_rf (oq ad 0 (S_25 39 i9 0)), .int (S_25 40 i9 0), .int (S_25 41 i9 0)])) hk_h0.1 hf_27
    refine va_get (D := (dC, dI)) (ci := 2) (v := .int (S_25 37 i9 0)) (C := RX2) (T := TX2) (N := 10) hx hb hts hin2 hown hK hP q_28 hq_28 rfl 5 (by decide) (hts (.fieldLink RX2 34 "YamRiders$Rider" "reached" "I") (by decide +kernel)) (fun _ h9 => h9) rfl dX2_comeToNextStation_37 ?_
    refine lv_aload_n hx hb dX2_comeToNextStation_40 rfl (lv_at hl 1 rfl) ?_
    obtain ⟨q_29, hq_29⟩ := pl_at (X := []) (f := f_24) (e := .inr (2, [.int (S_25 32 i9 0), .int (S_25 33 i9 0), .ref (ad 37 i9), .ref (ad 36 i9), .int (S_25 36 i9 0), .int (S_25 37 i9 0), .int (S_25 38 i9 0), va_rf (oq ad 0 (S_25 39 i9 0)), .int (S_25 40 i9 0), .int (S_25 41 i9 0)])) hk_h0.1 hf_27
    refine va_get (D := (dC, dI)) (ci := 2) (v := .ref (ad 37 i9)) (C := RX2) (T := TX2) (N := 10) hx hb hts hin2 hown hK hP q_29 hq_29 rfl 2 (by decide) (hts (.fieldLink RX2 25 "YamRiders$Rider" "stations" "[I") (by decide +kernel)) (fun _ h9 => h9) rfl dX2_comeToNextStation_41 ?_
    obtain ⟨w_31, hw_31, ew_31⟩ := hT.wl (r := i9) (by omega)
    have hf_30 : f_24 (ad 37 i9) = .inl (cs 0, w_31, .inl (S_25 592 i9)) := (hT.get (hT.k37 (i := i9) (by omega))).trans (by simp only [EN]; rw [ew_31, nI_clamp (by omega)])
    obtain ⟨q_32, hq_32⟩ := pl_at (X := []) (f := f_24) (e := .inl (cs 0, w_31, .inl (S_25 592 i9))) (hT.k37 (i := i9) (by omega)).1 hf_30
    refine va_alen (v := nI w_31) hx hb hK hP q_32 0 hq_32 rfl rfl dX2_comeToNextStation_44 ?_
    refine lv_icmp_ge (tgt := 52) hx hb dX2_comeToNextStation_45 (by decide) (fun c_33 => ?_) (fun c_33 => ?_)
    · refine lv_iconst (v := 2) hx hb dX2_comeToNextStation_52 (by decide) ?_
      obtain ⟨q_34, hq_34⟩ := pl_at (X := []) (f := f_24) (e := .inr (2, [.int (S_25 32 i9 0), .int (S_25 33 i9 0), .ref (ad 37 i9), .ref (ad 36 i9), .int (S_25 36 i9 0), .int (S_25 37 i9 0), .int (S_25 38 i9 0), va_rf (oq ad 0 (S_25 39 i9 0)), .int (S_25 40 i9 0), .int (S_25 41 i9 0)])) hk_h0.1 hf_27
      refine va_put (D := (dC, dI)) (ci := 2) (v := .int 2) (ty := (tyX2 4)) (C := RX2) (T := TX2) (N := 10) hx hb hts hin2 tyX2 tyX2_ok nmX2 hown hK hP hD hS q_34 hq_34 rfl 4 (by decide) (hts (.fieldLink RX2 15 "YamRiders$Rider" "state" "I") (by decide +kernel)) (fun _ h9 => h9) rfl (by decide +kernel) rfl rfl (Nat.le_of_ble_eq_true rfl) dX2_comeToNextStation_53 (fun H locs hP9 hD9 hS => ?_)
      have hs_35 := pl_st (.inr (2, [.int (S_25 32 i9 0), .int (S_25 33 i9 0), .ref (ad 37 i9), .ref (ad 36 i9), .int 2, .int (S_25 37 i9 0), .int (S_25 38 i9 0), va_rf (oq ad 0 (S_25 39 i9 0)), .int (S_25 40 i9 0), .int (S_25 41 i9 0)])) hD hk_h0.1 hf_27 hq_34
      have hP9 : va_P (dC, dI) vwCl ((([] : va_W) ++ va_pl L f_24).set q_34 (h0, .inr (2, [.int (S_25 32 i9 0), .int (S_25 33 i9 0), .ref (ad 37 i9), .ref (ad 36 i9), .int 2, .int (S_25 37 i9 0), .int (S_25 38 i9 0), va_rf (oq ad 0 (S_25 39 i9 0)), .int (S_25 40 i9 0), .int (S_25 41 i9 0)]))) H := hP9
      have hD9 : va_D A ((([] : va_W) ++ va_pl L f_24).set q_34 (h0, .inr (2, [.int (S_25 32 i9 0), .int (S_25 33 i9 0), .ref (ad 37 i9), .ref (ad 36 i9), .int 2, .int (S_25 37 i9 0), .int (S_25 38 i9 0), va_rf (oq ad 0 (S_25 39 i9 0)), .int (S_25 40 i9 0), .int (S_25 41 i9 0)]))) := hD9
      rw [hs_35] at hP9 hD9
      have hT := hT.up (c := 36) (j := 0) (v := 2) (e := .inr (2, [.int (S_25 32 i9 0), .int (S_25 33 i9 0), .ref (ad 37 i9), .ref (ad 36 i9), .int 2, .int (S_25 37 i9 0), .int (S_25 38 i9 0), va_rf (oq ad 0 (S_25 39 i9 0)), .int (S_25 40 i9 0), .int (S_25 41 i9 0)])) hk_h0 rfl (hT.2.2.up (by decide) (by decide) (by decide)) (by simp [EN, up3])
      have hP := hP9
      have hD := hD9
      clear hP9 hD9 hs_35
      obtain ⟨S_37, eS_37⟩ : ∃ S9 : Nat → Nat → Nat → Int32, S9 = up3 S_25 36 i9 0 2 := ⟨_, rfl⟩
      rw [← eS_37] at hT
      generalize va_up f_24 h0 (.inr (2, [.int (S_25 32 i9 0), .int (S_25 33 i9 0), .ref (ad 37 i9), .ref (ad 36 i9), .int 2, .int (S_25 37 i9 0), .int (S_25 38 i9 0), va_rf (oq ad 0 (S_25 39 i9 0)), .int (S_25 40 i9 0), .int (S_25 41 i9 0)])) = f_36 at hP hD hT
      have hFr_38 : FR S S_37 := by rw [eS_37]; exact FR.up hFr_26 (by decide) (by decide)
      have hP9 := hP.part (cx := []) [] rfl
      have hD9 := hD.part (cx := []) [] (by decide) rfl
      have hK9 := hK.sub (tys' := []) [] rfl
      refine W.widen (k := 0) (n := 0) (Nat.le_of_ble_eq_true rfl) (Nat.le_of_ble_eq_true rfl) ?_
      exact W.vret hx hb hr (fun t9 ht hW => ⟨⟨(), rfl, trivial, S_37, f_36, hT, hFr_38, (by have c9 := c_33; rw [← ew_31, eS_25, eS_18, eS_12] at c9; rw [eS_37, eS_25, eS_18, eS_12]; unfold cmS; rw [if_neg c_5, eu_7, nI_clamp (by omega)]; unfold cmT cmU; rw [if_pos c9]), by rw [ht]; exact hP9, va_K.moved hW.alike hK9, hD9⟩, hS.F ht⟩) hS.2.2 dX2_comeToNextStation_56
    · refine lv_iconst (v := 0) hx hb dX2_comeToNextStation_48 (by decide) ?_
      refine lv_goto (tgt := 53) hx hb dX2_comeToNextStation_49 (by decide) ?_
      obtain ⟨q_39, hq_39⟩ := pl_at (X := []) (f := f_24) (e := .inr (2, [.int (S_25 32 i9 0), .int (S_25 33 i9 0), .ref (ad 37 i9), .ref (ad 36 i9), .int (S_25 36 i9 0), .int (S_25 37 i9 0), .int (S_25 38 i9 0), va_rf (oq ad 0 (S_25 39 i9 0)), .int (S_25 40 i9 0), .int (S_25 41 i9 0)])) hk_h0.1 hf_27
      refine va_put (D := (dC, dI)) (ci := 2) (v := .int 0) (ty := (tyX2 4)) (C := RX2) (T := TX2) (N := 10) hx hb hts hin2 tyX2 tyX2_ok nmX2 hown hK hP hD hS q_39 hq_39 rfl 4 (by decide) (hts (.fieldLink RX2 15 "YamRiders$Rider" "state" "I") (by decide +kernel)) (fun _ h9 => h9) rfl (by decide +kernel) rfl rfl (Nat.le_of_ble_eq_true rfl) dX2_comeToNextStation_53 (fun H locs hP9 hD9 hS => ?_)
      have hs_40 := pl_st (.inr (2, [.int (S_25 32 i9 0), .int (S_25 33 i9 0), .ref (ad 37 i9), .ref (ad 36 i9), .int 0, .int (S_25 37 i9 0), .int (S_25 38 i9 0), va_rf (oq ad 0 (S_25 39 i9 0)), .int (S_25 40 i9 0), .int (S_25 41 i9 0)])) hD hk_h0.1 hf_27 hq_39
      have hP9 : va_P (dC, dI) vwCl ((([] : va_W) ++ va_pl L f_24).set q_39 (h0, .inr (2, [.int (S_25 32 i9 0), .int (S_25 33 i9 0), .ref (ad 37 i9), .ref (ad 36 i9), .int 0, .int (S_25 37 i9 0), .int (S_25 38 i9 0), va_rf (oq ad 0 (S_25 39 i9 0)), .int (S_25 40 i9 0), .int (S_25 41 i9 0)]))) H := hP9
      have hD9 : va_D A ((([] : va_W) ++ va_pl L f_24).set q_39 (h0, .inr (2, [.int (S_25 32 i9 0), .int (S_25 33 i9 0), .ref (ad 37 i9), .ref (ad 36 i9), .int 0, .int (S_25 37 i9 0), .int (S_25 38 i9 0), va_rf (oq ad 0 (S_25 39 i9 0)), .int (S_25 40 i9 0), .int (S_25 41 i9 0)]))) := hD9
      rw [hs_40] at hP9 hD9
      have hT := hT.up (c := 36) (j := 0) (v := 0) (e := .inr (2, [.int (S_25 32 i9 0), .int (S_25 33 i9 0), .ref (ad 37 i9), .ref (ad 36 i9), .int 0, .int (S_25 37 i9 0), .int (S_25 38 i9 0), va_rf (oq ad 0 (S_25 39 i9 0)), .int (S_25 40 i9 0), .int (S_25 41 i9 0)])) hk_h0 rfl (hT.2.2.up (by decide) (by decide) (by decide)) (by simp [EN, up3])
      have hP := hP9
      have hD := hD9
      clear hP9 hD9 hs_40
      obtain ⟨S_42, eS_42⟩ : ∃ S9 : Nat → Nat → Nat → Int32, S9 = up3 S_25 36 i9 0 0 := ⟨_, rfl⟩
      rw [← eS_42] at hT
      generalize va_up f_24 h0 (.inr (2, [.int (S_25 32 i9 0), .int (S_25 33 i9 0), .ref (ad 37 i9), .ref (ad 36 i9), .int 0, .int (S_25 37 i9 0), .int (S_25 38 i9 0), va_rf (oq ad 0 (S_25 39 i9 0)), .int (S_25 40 i9 0), .int (S_25 41 i9 0)])) = f_41 at hP hD hT
      have hFr_43 : FR S S_42 := by rw [eS_42]; exact FR.up hFr_26 (by decide) (by decide)
      have hP9 := hP.part (cx := []) [] rfl
      have hD9 := hD.part (cx := []) [] (by decide) rfl
      have hK9 := hK.sub (tys' := []) [] rfl
      refine W.widen (k := 0) (n := 0) (Nat.le_of_ble_eq_true rfl) (Nat.le_of_ble_eq_true rfl) ?_
      exact W.vret hx hb hr (fun t9 ht hW => ⟨⟨(), rfl, trivial, S_42, f_41, hT, hFr_43, (by have c9 := c_33; rw [← ew_31, eS_25, eS_18, eS_12] at c9; rw [eS_42, eS_25, eS_18, eS_12]; unfold cmS; rw [if_neg c_5, eu_7, nI_clamp (by omega)]; unfold cmT cmU; rw [if_neg c9]), by rw [ht]; exact hP9, va_K.moved hW.alike hK9, hD9⟩, hS.F ht⟩) hS.2.2 dX2_comeToNextStation_56
  · have hP9 := hP.part (cx := []) [] rfl
    have hD9 := hD.part (cx := []) [] (by decide) rfl
    have hK9 := hK.sub (tys' := []) [] rfl
    refine W.widen (k := 0) (n := 0) (Nat.le_of_ble_eq_true rfl) (Nat.le_of_ble_eq_true rfl) ?_
    exact W.vret hx hb hr (fun t9 ht hW => ⟨⟨(), rfl, trivial, S, f, hT, FR.rf, (by unfold cmS; rw [if_pos c_5]), by rw [ht]; exact hP9, va_K.moved hW.alike hK9, hD9⟩, hS.F ht⟩) hS.2.2 dX2_comeToNextStation_12

set_option maxHeartbeats 4000000 in
set_option maxRecDepth 100000 in
theorem e_X0_weaken (l : Launch) (dC : Nat → ClassId) (dI : Nat → Nat → Nat) (cs : Nat → ClassId) (L : List Nat) (ka : Nat → Nat) (ix : Nat → Nat) (ad : Nat → Nat → Nat) (n0 : Nat) (n6 : Nat) (n2 : Nat) (S : Nat → Nat → Nat → Int32) (f : Nat → va_E) (i9 : Nat) (h0 : Nat) (p0 : Int32) (sz : Nat) (hT : tB L ka ix ad cs n0 n6 n2 S f) (hk_h0 : tpx L ka ix 0 i9 h0) (hlt_i9 : i9 < n0) : Met l yX0_weaken wsX0_weaken ({ frames := 1, cells := 0, slots := 0, locals := 24 }) (va_Pc [.ref h0, .int p0] (cP dC dI ([] ++ va_pl L f) (tyC cs) sz)) (va_Qv (fun (_ : Unit) => True) (fun (_ : Unit) t9 => ∃ (S2 : Nat → Nat → Nat → Int32) (f2 : Nat → va_E), (tB L ka ix ad cs n0 n6 n2 S2 f2) ∧ (FR S S2) ∧ (S2 = wkS S i9 p0) ∧ cQ dC dI ([] ++ va_pl L f2) [] (va_A ([] ++ va_pl L f) sz) t9) (va_A ([] ++ va_pl L f) sz)) 0 0 (va_A ([] ++ va_pl L f) sz) := by
  refine Met.ofW (cc := cX0_weaken) (maxL := 2) (ret := none) (by decide) rfl ?_
  intro p e s m args below meth c s₁ B hml hv
  obtain ⟨rfl, hsz, hP, hK, hD0, hN⟩ := hv
  have hx := B.exec
  have hb := B.bytes
  have hr := B.returns
  have hts := atoms_spec (ws := wsX0_weaken) B.pre
  have hown : s.vm.findClass RX0 = some m.cls := findClass_of_methodNamed B.named
  have hlocks := B.notSynchronized
  subst hsz
  have hin0 : ∀ w ∈ u_ws RX0 TX0 3, w ∈ wsX0_weaken := by decide +kernel
  have hD := hD0.self (sz := s.heap.size)
  generalize hAe : va_A ([] ++ va_pl L f) s.heap.size = A at hD ⊢
  have hA : ∀ q : Nat, s.heap.size ≤ q → A q := fun q h => by rw [← hAe]; exact Or.inr h
  have hS : va_S A s.heap s.heap [] := va_S.rf
  have hP : va_P (dC, dI) vwCl ([] ++ va_pl L f) s.heap := hP
  have hl := lv_entry ([.ref h0, .int p0]) (n := 2) (Nat.le_of_ble_eq_true rfl)
  rw [lg_entry_eq]
  generalize (lg_sl ([.ref h0, .int p0]) ++ List.replicate (2 - (lg_sl ([.ref h0, .int p0])).length) Slot.unset).toArray = ls at hl ⊢
  have hl : lv_has ls 2 [(0, .ref h0), (1, .int p0)] := hl
  refine lv_aload_n hx hb dX0_weaken_0 rfl (lv_at hl 0 rfl) ?_
  refine lv_iconst (v := 0) hx hb dX0_weaken_1 (by decide) ?_
  refine lv_aload_n hx hb dX0_weaken_2 rfl (lv_at hl 0 rfl) ?_
  have hf_1 : f h0 = .inr (0, [.int (nI i9), .int (S 1 i9 0), .int (S 2 i9 0)]) := hT.get hk_h0
  obtain ⟨q_2, hq_2⟩ := pl_at (X := []) (f := f) (e := .inr (0, [.int (nI i9), .int (S 1 i9 0), .int (S 2 i9 0)])) hk_h0.1 hf_1
  refine va_get (D := (dC, dI)) (ci := 0) (v := .int (S 2 i9 0)) (C := RX0) (T := TX0) (N := 3) hx hb hts hin0 hown hK hP q_2 hq_2 rfl 2 (by decide) (hts (.fieldLink RX0 16 "YamRiders$Horse" "strength" "I") (by decide +kernel)) (fun _ h9 => h9) rfl dX0_weaken_3 ?_
  refine lv_iload_n hx hb dX0_weaken_6 rfl (lv_at hl 1 rfl) ?_
  refine lv_isub hx hb dX0_weaken_7 ?_
  refine va_mmax (x := 0) (y := (S 2 i9 0) - p0) hx hb (by rw [hml]; exact hl.1.symm) hown (hts (.methodLink RX0 19 Lib.Math.max.name) (by decide +kernel)) (hts (.static Lib.Math.max.name) (by decide +kernel)) (hts (.initialized "java/lang/Math") (by decide +kernel)) (hts (.code Lib.Math.max.name Lib.Math.max.code 2 (some .int)) (by decide +kernel)) (Nat.le_of_ble_eq_true rfl) (Nat.le_of_ble_eq_true rfl) (Nat.le_of_ble_eq_true rfl) (Nat.le_of_ble_eq_true rfl) dX0_weaken_8 ?_
  refine lv_topi (fun v_3 ev_3 => ?_)
  obtain ⟨q_4, hq_4⟩ := pl_at (X := []) (f := f) (e := .inr (0, [.int (nI i9), .int (S 1 i9 0), .int (S 2 i9 0)])) hk_h0.1 hf_1
  refine va_put (D := (dC, dI)) (ci := 0) (v := .int v_3) (ty := (tyX0 2)) (C := RX0) (T := TX0) (N := 3) hx hb hts hin0 tyX0 tyX0_ok nmX0 hown hK hP hD hS q_4 hq_4 rfl 2 (by decide) (hts (.fieldLink RX0 16 "YamRiders$Horse" "strength" "I") (by decide +kernel)) (fun _ h9 => h9) rfl (by decide +kernel) rfl rfl (Nat.le_of_ble_eq_true rfl) dX0_weaken_11 (fun H locs hP9 hD9 hS => ?_)
  have hs_5 := pl_st (.inr (0, [.int (nI i9), .int (S 1 i9 0), .int v_3])) hD hk_h0.1 hf_1 hq_4
  have hP9 : va_P (dC, dI) vwCl ((([] : va_W) ++ va_pl L f).set q_4 (h0, .inr (0, [.int (nI i9), .int (S 1 i9 0), .int v_3]))) H := hP9
  have hD9 : va_D A ((([] : va_W) ++ va_pl L f).set q_4 (h0, .inr (0, [.int (nI i9), .int (S 1 i9 0), .int v_3]))) := hD9
  rw [hs_5] at hP9 hD9
  have hT := hT.up (c := 2) (j := 0) (v := v_3) (e := .inr (0, [.int (nI i9), .int (S 1 i9 0), .int v_3])) hk_h0 rfl (hT.2.2.up (by decide) (by decide) (by decide)) (by simp [EN, up3])
  have hP := hP9
  have hD := hD9
  clear hP9 hD9 hs_5
  obtain ⟨S_7, eS_7⟩ : ∃ S9 : Nat → Nat → Nat → Int32, S9 = up3 S 2 i9 0 v_3 := ⟨_, rfl⟩
  rw [← eS_7] at hT
  generalize va_up f h0 (.inr (0, [.int (nI i9), .int (S 1 i9 0), .int v_3])) = f_6 at hP hD hT
  have hFr_8 : FR S S_7 := by rw [eS_7]; exact FR.up FR.rf (by decide) (by decide)
  have hP9 := hP.part (cx := []) [] rfl
  have hD9 := hD.part (cx := []) [] (by decide) rfl
  have hK9 := hK.sub (tys' := []) [] rfl
  refine W.widen (k := 0) (n := 0) (Nat.le_of_ble_eq_true rfl) (Nat.le_of_ble_eq_true rfl) ?_
  exact W.vret hx hb hr (fun t9 ht hW => ⟨⟨(), rfl, trivial, S_7, f_6, hT, hFr_8, (by rw [eS_7, ev_3]; rfl), by rw [ht]; exact hP9, va_K.moved hW.alike hK9, hD9⟩, hS.F ht⟩) hS.2.2 dX0_weaken_14

set_option maxHeartbeats 4000000 in
set_option maxRecDepth 100000 in
theorem e_X6_voidSince (l : Launch) (dC : Nat → ClassId) (dI : Nat → Nat → Nat) (cs : Nat → ClassId) (L : List Nat) (ka : Nat → Nat) (ix : Nat → Nat) (ad : Nat → Nat → Nat) (n0 : Nat) (n6 : Nat) (n2 : Nat) (S : Nat → Nat → Nat → Int32) (f : Nat → va_E) (i9 : Nat) (h0 : Nat) (p0 : Int32) (sz : Nat) (hT : tB L ka ix ad cs n0 n6 n2 S f) (hk_h0 : tpx L ka ix 6 i9 h0) (hlt_i9 : i9 < n6) : Met l yX6_voidSince wsX6_voidSince ({ frames := 1, cells := 0, slots := 0, locals := 20 }) (va_Pc [.ref h0, .int p0] (cP dC dI ([] ++ va_pl L f) (tyC cs) sz)) (vp_Si (fun r => r = vdS S i9 p0)) 0 0 (fun _ => False) := by
  refine Met.ofW (cc := cX6_voidSince) (maxL := 2) (ret := (some .int)) (by decide) rfl ?_
  intro p e s m args below meth c s₁ B hml hv
  obtain ⟨rfl, hsz, hP, hK, hD0, hN⟩ := hv
  have hx := B.exec
  have hb := B.bytes
  have hr := B.returns
  have hts := atoms_spec (ws := wsX6_voidSince) B.pre
  have hown : s.vm.findClass RX6 = some m.cls := findClass_of_methodNamed B.named
  have hlocks := B.notSynchronized
  subst hsz
  have hin6 : ∀ w ∈ u_ws RX6 TX6 2, w ∈ wsX6_voidSince := by decide +kernel
  have hD := hD0
  have hP : va_P (dC, dI) vwCl ([] ++ va_pl L f) s.heap := hP
  have hl := lv_entry ([.ref h0, .int p0]) (n := 2) (Nat.le_of_ble_eq_true rfl)
  rw [lg_entry_eq]
  generalize (lg_sl ([.ref h0, .int p0]) ++ List.replicate (2 - (lg_sl ([.ref h0, .int p0])).length) Slot.unset).toArray = ls at hl ⊢
  have hl : lv_has ls 2 [(0, .ref h0), (1, .int p0)] := hl
  refine lv_iload_n hx hb dX6_voidSince_0 rfl (lv_at hl 1 rfl) ?_
  have hPc := hP.sub (ws' := []) [] rfl
  have hDc := hD.sub (ws' := []) [] (by decide) rfl
  have hKc := hK.sub (tys' := []) [] rfl
  refine cs_i (va_runSN (As := [.int p0]) (rest := []) ⟨hx, hb, hml, hown, hts⟩ (c_X8_isStation l dC dI p0 s.heap.size) ⟨va_cnB 1 hts ggX6_voidSince_X8_isStation rfl rfl rfl (hN.1 (.methodLinkNest RX6 25 yX8_isStation "YamRiders") (by decide +kernel)) (hts (.initialized RX8) (by decide +kernel)) (by decide +kernel) ⟨Nat.le_of_ble_eq_true rfl, Nat.le_of_ble_eq_true rfl⟩, hts (.static yX8_isStation) (by decide +kernel), trivial⟩ ⟨c_blind, c_pre hPc hKc hDc hN⟩ rfl rfl hl.1 rfl (lv_room (Nat.le_of_ble_eq_true rfl)) dX6_voidSince_1 ⟨Nat.le_of_ble_eq_true rfl, Nat.le_of_ble_eq_true rfl⟩) (fun r_1 hr_1 => ?_)
  subst hr_1
  refine lv_if_eq (tgt := 16) hx hb dX6_voidSince_4 (by decide) (fun c_2 => ?_) (fun c_2 => ?_)
  · refine lv_iconst (v := (-1)) hx hb dX6_voidSince_16 (by decide) ?_
    exact W.iret (v := (-1)) hx hb hr (fun t9 ht hW => ⟨_, rfl, (by unfold vdS; rw [if_pos c_2]), ht⟩) (fun q h => nomatch h) dX6_voidSince_17
  · refine lv_aload_n hx hb dX6_voidSince_7 rfl (lv_at hl 0 rfl) ?_
    have hf_3 : f h0 = .inr (6, [.int (S 96 i9 0), .ref (ad 35 i9)]) := hT.get hk_h0
    obtain ⟨q_4, hq_4⟩ := pl_at (X := []) (f := f) (e := .inr (6, [.int (S 96 i9 0), .ref (ad 35 i9)])) hk_h0.1 hf_3
    refine va_get (D := (dC, dI)) (ci := 6) (v := .ref (ad 35 i9)) (C := RX6) (T := TX6) (N := 2) hx hb hts hin6 hown hK hP q_4 hq_4 rfl 1 (by decide) (hts (.fieldLink RX6 9 "YamRiders$Tablet" "since" "[I") (by decide +kernel)) (fun _ h9 => h9) rfl dX6_voidSince_8 ?_
    refine lv_iload_n hx hb dX6_voidSince_11 rfl (lv_at hl 1 rfl) ?_
    obtain ⟨u_5, hu_5, rfl⟩ := st_of c_2
    have hf_6 : f (ad 35 i9) = .inl (cs 0, 12, .inl (S 560 i9)) := hT.get (hT.k35 (i := i9) (by omega))
    obtain ⟨q_7, hq_7⟩ := pl_at (X := []) (f := f) (e := .inl (cs 0, 12, .inl (S 560 i9))) (hT.k35 (i := i9) (by omega)).1 hf_6
    refine va_iald hx hb hK hP q_7 0 hq_7 rfl (vp_in_nI (by omega) (by omega)) dX6_voidSince_12 ?_
    refine lv_topi (fun v_8 ev_8 => ?_)
    obtain rfl : v_8 = S 560 i9 u_5 := ev_8.trans (by rw [(nI_clamp (by omega))])
    refine lv_goto (tgt := 17) hx hb dX6_voidSince_13 (by decide) ?_
    exact W.iret (v := S 560 i9 u_5) hx hb hr (fun t9 ht hW => ⟨_, rfl, (by unfold vdS; rw [if_neg c_2]; rw [nI_clamp (by omega)]), ht⟩) (fun q h => nomatch h) dX6_voidSince_17

set_option maxHeartbeats 4000000 in
set_option maxRecDepth 100000 in
theorem e_X6_wasVoid (l : Launch) (dC : Nat → ClassId) (dI : Nat → Nat → Nat) (cs : Nat → ClassId) (L : List Nat) (ka : Nat → Nat) (ix : Nat → Nat) (ad : Nat → Nat → Nat) (n0 : Nat) (n6 : Nat) (n2 : Nat) (S : Nat → Nat → Nat → Int32) (f : Nat → va_E) (i9 : Nat) (h0 : Nat) (p0 : Int32) (p1 : Int32) (sz : Nat) (hT : tB L ka ix ad cs n0 n6 n2 S f) (hk_h0 : tpx L ka ix 6 i9 h0) (hlt_i9 : i9 < n6) : Met l yX6_wasVoid wsX6_wasVoid ({ frames := 2, cells := 0, slots := 0, locals := 41 }) (va_Pc [.ref h0, .int p0, .int p1] (cP dC dI ([] ++ va_pl L f) (tyC cs) sz)) (vp_Si (fun r => r = wvS S i9 p0 p1)) 0 0 (fun _ => False) := by
  refine Met.ofW (cc := cX6_wasVoid) (maxL := 4) (ret := (some .boolean)) (by decide) rfl ?_
  intro p e s m args below meth c s₁ B hml hv
  obtain ⟨rfl, hsz, hP, hK, hD0, hN⟩ := hv
  have hx := B.exec
  have hb := B.bytes
  have hr := B.returns
  have hts := atoms_spec (ws := wsX6_wasVoid) B.pre
  have hown : s.vm.findClass RX6 = some m.cls := findClass_of_methodNamed B.named
  have hlocks := B.notSynchronized
  subst hsz
  have hD := hD0
  have hP : va_P (dC, dI) vwCl ([] ++ va_pl L f) s.heap := hP
  have hl := lv_entry ([.ref h0, .int p0, .int p1]) (n := 4) (Nat.le_of_ble_eq_true rfl)
  rw [lg_entry_eq]
  generalize (lg_sl ([.ref h0, .int p0, .int p1]) ++ List.replicate (4 - (lg_sl ([.ref h0, .int p0, .int p1])).length) Slot.unset).toArray = ls at hl ⊢
  have hl : lv_has ls 4 [(0, .ref h0), (1, .int p0), (2, .int p1)] := hl
  refine lv_aload_n hx hb dX6_wasVoid_0 rfl (lv_at hl 0 rfl) ?_
  refine lv_iload_n hx hb dX6_wasVoid_1 rfl (lv_at hl 1 rfl) ?_
  have hPc := hP.part (cx := []) [] rfl
  have hDc := hD.part (cx := []) [] (by decide) rfl
  have hKc := hK
  have hf_1 : f h0 = .inr (6, [.int (S 96 i9 0), .ref (ad 35 i9)]) := hT.get hk_h0
  obtain ⟨q_2, hq_2⟩ := pl_at (X := []) (f := f) (e := .inr (6, [.int (S 96 i9 0), .ref (ad 35 i9)])) hk_h0.1 hf_1
  refine cs_i (va_runV (As := [.int p0]) (rest := []) ⟨hx, hb, hml, hown, hts⟩ (e_X6_voidSince l dC dI cs L ka ix ad n0 n6 n2 S f i9 h0 p0 s.heap.size hT hk_h0 (by omega)) (cwV 1 hts gX6_wasVoid_X6_voidSince rfl rfl rfl (by decide +kernel) ⟨Nat.le_of_ble_eq_true rfl, Nat.le_of_ble_eq_true rfl⟩) ⟨c_blind, va_recv hKc hPc (ci := 6) (q0 := q_2) rfl hq_2, c_pre hPc hKc hDc hN⟩ rfl rfl hl.1 rfl (lv_room (Nat.le_of_ble_eq_true rfl)) dX6_wasVoid_2 ⟨Nat.le_of_ble_eq_true rfl, Nat.le_of_ble_eq_true rfl⟩) (fun r_3 hr_3 => ?_)
  subst hr_3
  refine lv_istore_n (lv' := [(3, .int (vdS S i9 p0)), (0, .ref h0), (1, .int p0), (2, .int p1)]) hx hb dX6_wasVoid_5 rfl hl (by decide) rfl (fun ls hl => ?_)
  refine lv_iload_n hx hb dX6_wasVoid_6 rfl (lv_at hl 0 rfl) ?_
  refine lv_iconst (v := (-1)) hx hb dX6_wasVoid_7 (by decide) ?_
  refine lv_icmp_eq (tgt := 20) hx hb dX6_wasVoid_8 (by decide) (fun c_4 => ?_) (fun c_4 => ?_)
  · refine lv_iconst (v := 0) hx hb dX6_wasVoid_20 (by decide) ?_
    exact W.zret (v := 0) hx hb hr rfl (fun t9 ht hW => ⟨_, rfl, (by unfold wvS; rw [if_pos c_4]), ht⟩) (fun q h => nomatch h) dX6_wasVoid_21
  · refine lv_iload_n hx hb dX6_wasVoid_11 rfl (lv_at hl 0 rfl) ?_
    refine lv_iload_n hx hb dX6_wasVoid_12 rfl (lv_at hl 3 rfl) ?_
    refine lv_icmp_gt (tgt := 20) hx hb dX6_wasVoid_13 (by decide) (fun c_5 => ?_) (fun c_5 => ?_)
    · refine lv_iconst (v := 0) hx hb dX6_wasVoid_20 (by decide) ?_
      exact W.zret (v := 0) hx hb hr rfl (fun t9 ht hW => ⟨_, rfl, (by unfold wvS; rw [if_neg c_4, if_pos c_5]), ht⟩) (fun q h => nomatch h) dX6_wasVoid_21
    · refine lv_iconst (v := 1) hx hb dX6_wasVoid_16 (by decide) ?_
      refine lv_goto (tgt := 21) hx hb dX6_wasVoid_17 (by decide) ?_
      exact W.zret (v := 1) hx hb hr rfl (fun t9 ht hW => ⟨_, rfl, (by unfold wvS; rw [if_neg c_4, if_neg c_5]), ht⟩) (fun q h => nomatch h) dX6_wasVoid_21

set_option maxHeartbeats 4000000 in
set_option maxRecDepth 100000 in
theorem e_X6_tellVoid (l : Launch) (dC : Nat → ClassId) (dI : Nat → Nat → Nat) (cs : Nat → ClassId) (L : List Nat) (ka : Nat → Nat) (ix : Nat → Nat) (ad : Nat → Nat → Nat) (n0 : Nat) (n6 : Nat) (n2 : Nat) (S : Nat → Nat → Nat → Int32) (f : Nat → va_E) (i9 : Nat) (h0 : Nat) (p0 : Int32) (p1 : Int32) (sz : Nat) (hT : tB L ka ix ad cs n0 n6 n2 S f) (hk_h0 : tpx L ka ix 6 i9 h0) (hlt_i9 : i9 < n6) : Met l yX6_tellVoid wsX6_tellVoid ({ frames := 1, cells := 0, slots := 0, locals := 20 }) (va_Pc [.ref h0, .int p0, .int p1] (cP dC dI ([] ++ va_pl L f) (tyC cs) sz)) (va_Qi (fun (r rv : Int32) => r = rv) (fun (rv : Int32) t9 => ∃ (S2 : Nat → Nat → Nat → Int32) (f2 : Nat → va_E), (tB L ka ix ad cs n0 n6 n2 S2 f2) ∧ (FR S S2) ∧ (S2 = tvS S i9 p0 p1 ∧ rv = tvR S i9 p0) ∧ cQ dC dI ([] ++ va_pl L f2) [] (va_A ([] ++ va_pl L f) sz) t9) (va_A ([] ++ va_pl L f) sz)) 0 0 (va_A ([] ++ va_pl L f) sz) := by
  refine Met.ofW (cc := cX6_tellVoid) (maxL := 3) (ret := (some .boolean)) (by decide) rfl ?_
  intro p e s m args below meth c s₁ B hml hv
  obtain ⟨rfl, hsz, hP, hK, hD0, hN⟩ := hv
  have hx := B.exec
  have hb := B.bytes
  have hr := B.returns
  have hts := atoms_spec (ws := wsX6_tellVoid) B.pre
  have hown : s.vm.findClass RX6 = some m.cls := findClass_of_methodNamed B.named
  have hlocks := B.notSynchronized
  subst hsz
  have hin6 : ∀ w ∈ u_ws RX6 TX6 2, w ∈ wsX6_tellVoid := by decide +kernel
  have hD := hD0.self (sz := s.heap.size)
  generalize hAe : va_A ([] ++ va_pl L f) s.heap.size = A at hD ⊢
  have hA : ∀ q : Nat, s.heap.size ≤ q → A q := fun q h => by rw [← hAe]; exact Or.inr h
  have hS : va_S A s.heap s.heap [] := va_S.rf
  have hP : va_P (dC, dI) vwCl ([] ++ va_pl L f) s.heap := hP
  have hl := lv_entry ([.ref h0, .int p0, .int p1]) (n := 3) (Nat.le_of_ble_eq_true rfl)
  rw [lg_entry_eq]
  generalize (lg_sl ([.ref h0, .int p0, .int p1]) ++ List.replicate (3 - (lg_sl ([.ref h0, .int p0, .int p1])).length) Slot.unset).toArray = ls at hl ⊢
  have hl : lv_has ls 3 [(0, .ref h0), (1, .int p0), (2, .int p1)] := hl
  refine lv_iload_n hx hb dX6_tellVoid_0 rfl (lv_at hl 1 rfl) ?_
  have hPc := hP.sub (ws' := []) [] rfl
  have hDc := hD.sub (ws' := []) [] (by decide) rfl
  have hKc := hK.sub (tys' := []) [] rfl
  refine cs_i (va_runSN (As := [.int p0]) (rest := []) ⟨hx, hb, hml, hown, hts⟩ (c_X8_isStation l dC dI p0 s.heap.size) ⟨va_cnB 1 hts ggX6_tellVoid_X8_isStation rfl rfl rfl (hN.1 (.methodLinkNest RX6 25 yX8_isStation "YamRiders") (by decide +kernel)) (hts (.initialized RX8) (by decide +kernel)) (by decide +kernel) ⟨Nat.le_of_ble_eq_true rfl, Nat.le_of_ble_eq_true rfl⟩, hts (.static yX8_isStation) (by decide +kernel), trivial⟩ ⟨c_blind, c_pre hPc hKc hDc hN⟩ rfl rfl hl.1 rfl (lv_room (Nat.le_of_ble_eq_true rfl)) dX6_tellVoid_1 ⟨Nat.le_of_ble_eq_true rfl, Nat.le_of_ble_eq_true rfl⟩) (fun r_1 hr_1 => ?_)
  subst hr_1
  refine lv_if_eq (tgt := 17) hx hb dX6_tellVoid_4 (by decide) (fun c_2 => ?_) (fun c_2 => ?_)
  · refine lv_iconst (v := 0) hx hb dX6_tellVoid_17 (by decide) ?_
    have hP9 := hP.part (cx := []) [] rfl
    have hD9 := hD.part (cx := []) [] (by decide) rfl
    have hK9 := hK.sub (tys' := []) [] rfl
    refine W.widen (k := 0) (n := 0) (Nat.le_of_ble_eq_true rfl) (Nat.le_of_ble_eq_true rfl) ?_
    exact W.zret (v := 0) hx hb hr rfl (fun t9 ht hW => ⟨⟨_, 0, rfl, rfl, S, f, hT, FR.rf, ⟨by unfold tvS; rw [if_pos c_2], by unfold tvR; rw [if_pos c_2]⟩, by rw [ht]; exact hP9, va_K.moved hW.alike hK9, hD9⟩, hS.F ht⟩) hS.2.2 dX6_tellVoid_18
  · refine lv_aload_n hx hb dX6_tellVoid_7 rfl (lv_at hl 0 rfl) ?_
    have hf_3 : f h0 = .inr (6, [.int (S 96 i9 0), .ref (ad 35 i9)]) := hT.get hk_h0
    obtain ⟨q_4, hq_4⟩ := pl_at (X := []) (f := f) (e := .inr (6, [.int (S 96 i9 0), .ref (ad 35 i9)])) hk_h0.1 hf_3
    refine va_get (D := (dC, dI)) (ci := 6) (v := .ref (ad 35 i9)) (C := RX6) (T := TX6) (N := 2) hx hb hts hin6 hown hK hP q_4 hq_4 rfl 1 (by decide) (hts (.fieldLink RX6 9 "YamRiders$Tablet" "since" "[I") (by decide +kernel)) (fun _ h9 => h9) rfl dX6_tellVoid_8 ?_
    refine lv_iload_n hx hb dX6_tellVoid_11 rfl (lv_at hl 1 rfl) ?_
    obtain ⟨u_5, hu_5, rfl⟩ := st_of c_2
    have hf_6 : f (ad 35 i9) = .inl (cs 0, 12, .inl (S 560 i9)) := hT.get (hT.k35 (i := i9) (by omega))
    obtain ⟨q_7, hq_7⟩ := pl_at (X := []) (f := f) (e := .inl (cs 0, 12, .inl (S 560 i9))) (hT.k35 (i := i9) (by omega)).1 hf_6
    refine va_iald hx hb hK hP q_7 0 hq_7 rfl (vp_in_nI (by omega) (by omega)) dX6_tellVoid_12 ?_
    refine lv_topi (fun v_8 ev_8 => ?_)
    obtain rfl : v_8 = S 560 i9 u_5 := ev_8.trans (by rw [(nI_clamp (by omega))])
    refine lv_iconst (v := (-1)) hx hb dX6_tellVoid_13 (by decide) ?_
    refine lv_icmp_eq (tgt := 19) hx hb dX6_tellVoid_14 (by decide) (fun c_9 => ?_) (fun c_9 => ?_)
    · refine lv_aload_n hx hb dX6_tellVoid_19 rfl (lv_at hl 0 rfl) ?_
      have hf_10 : f h0 = .inr (6, [.int (S 96 i9 0), .ref (ad 35 i9)]) := hT.get hk_h0
      obtain ⟨q_11, hq_11⟩ := pl_at (X := []) (f := f) (e := .inr (6, [.int (S 96 i9 0), .ref (ad 35 i9)])) hk_h0.1 hf_10
      refine va_get (D := (dC, dI)) (ci := 6) (v := .ref (ad 35 i9)) (C := RX6) (T := TX6) (N := 2) hx hb hts hin6 hown hK hP q_11 hq_11 rfl 1 (by decide) (hts (.fieldLink RX6 9 "YamRiders$Tablet" "since" "[I") (by decide +kernel)) (fun _ h9 => h9) rfl dX6_tellVoid_20 ?_
      refine lv_iload_n hx hb dX6_tellVoid_23 rfl (lv_at hl 1 rfl) ?_
      refine lv_iload_n hx hb dX6_tellVoid_24 rfl (lv_at hl 2 rfl) ?_
      obtain ⟨q_12, hq_12⟩ := pl_at (X := []) (f := f) (e := .inl (cs 0, 12, .inl (S 560 i9))) (hT.k35 (i := i9) (by omega)).1 hf_6
      refine va_iast hx hb hK hP hD hS q_12 0 hq_12 rfl (vp_in_nI (by omega) (by omega)) dX6_tellVoid_25 (fun H locs hP9 hD9 hS => ?_)
      have hs_13 := pl_st (.inl (cs 0, 12, .inl (upd (S 560 i9) (nI u_5).toNatClampNeg p1))) hD (hT.k35 (i := i9) (by omega)).1 hf_6 hq_12
      have hP9 : va_P (dC, dI) vwCl ((([] : va_W) ++ va_pl L f).set q_12 ((ad 35 i9), .inl (cs 0, 12, .inl (upd (S 560 i9) (nI u_5).toNatClampNeg p1)))) H := hP9
      have hD9 : va_D A ((([] : va_W) ++ va_pl L f).set q_12 ((ad 35 i9), .inl (cs 0, 12, .inl (upd (S 560 i9) (nI u_5).toNatClampNeg p1)))) := hD9
      rw [hs_13] at hP9 hD9
      have hT := hT.up (c := 560) (j := u_5) (v := p1) (e := .inl (cs 0, 12, .inl (upd (S 560 i9) (nI u_5).toNatClampNeg p1))) (hT.k35 (i := i9) (by omega)) rfl (hT.2.2.up (by decide) (by decide) (by decide)) (by simp only [EN]; rw [up3_a, (nI_clamp (by omega))])
      have hP := hP9
      have hD := hD9
      clear hP9 hD9 hs_13
      obtain ⟨S_15, eS_15⟩ : ∃ S9 : Nat → Nat → Nat → Int32, S9 = up3 S 560 i9 u_5 p1 := ⟨_, rfl⟩
      rw [← eS_15] at hT
      generalize va_up f (ad 35 i9) (.inl (cs 0, 12, .inl (upd (S 560 i9) (nI u_5).toNatClampNeg p1))) = f_14 at hP hD hT
      have hFr_16 : FR S S_15 := by rw [eS_15]; exact FR.up FR.rf (by decide) (by decide)
      refine lv_iconst (v := 1) hx hb dX6_tellVoid_26 (by decide) ?_
      have hP9 := hP.part (cx := []) [] rfl
      have hD9 := hD.part (cx := []) [] (by decide) rfl
      have hK9 := hK.sub (tys' := []) [] rfl
      refine W.widen (k := 0) (n := 0) (Nat.le_of_ble_eq_true rfl) (Nat.le_of_ble_eq_true rfl) ?_
      exact W.zret (v := 1) hx hb hr rfl (fun t9 ht hW => ⟨⟨_, 1, rfl, rfl, S_15, f_14, hT, hFr_16, ⟨by rw [eS_15]; unfold tvS; rw [if_neg c_2, nI_clamp (by omega), if_pos c_9], by unfold tvR; rw [if_neg c_2, nI_clamp (by omega), if_pos c_9]⟩, by rw [ht]; exact hP9, va_K.moved hW.alike hK9, hD9⟩, hS.F ht⟩) hS.2.2 dX6_tellVoid_27
    · refine lv_iconst (v := 0) hx hb dX6_tellVoid_17 (by decide) ?_
      have hP9 := hP.part (cx := []) [] rfl
      have hD9 := hD.part (cx := []) [] (by decide) rfl
      have hK9 := hK.sub (tys' := []) [] rfl
      refine W.widen (k := 0) (n := 0) (Nat.le_of_ble_eq_true rfl) (Nat.le_of_ble_eq_true rfl) ?_
      exact W.zret (v := 0) hx hb hr rfl (fun t9 ht hW => ⟨⟨_, 0, rfl, rfl, S, f, hT, FR.rf, ⟨by unfold tvS; rw [if_neg c_2, nI_clamp (by omega), if_neg c_9], by unfold tvR; rw [if_neg c_2, nI_clamp (by omega), if_neg c_9]⟩, by rw [ht]; exact hP9, va_K.moved hW.alike hK9, hD9⟩, hS.F ht⟩) hS.2.2 dX6_tellVoid_18

set_option maxHeartbeats 4000000 in
set_option maxRecDepth 100000 in
theorem e_X5_tire (l : Launch) (dC : Nat → ClassId) (dI : Nat → Nat → Nat) (cs : Nat → ClassId) (L : List Nat) (ka : Nat → Nat) (ix : Nat → Nat) (ad : Nat → Nat → Nat) (n0 : Nat) (n6 : Nat) (n2 : Nat) (S : Nat → Nat → Nat → Int32) (f : Nat → va_E) (gq : Nat) (h0 : Nat) (sz : Nat) (hT : tB L ka ix ad cs n0 n6 n2 S f) (hk14_gq : tpx L ka ix 14 gq (ad 14 gq)) (hk_h0 : tpx L ka ix 5 gq h0) : Met l yX5_tire wsX5_tire ({ frames := 0, cells := 0, slots := 0, locals := 0 }) (va_Pc [.ref h0] (cP dC dI ([] ++ va_pl L f) (tyC cs) sz)) (vp_Si (fun r => r = S 224 gq 0)) 0 0 (fun _ => False) := by
  refine Met.ofW (cc := cX5_tire) (maxL := 1) (ret := (some .int)) (by decide) rfl ?_
  intro p e s m args below meth c s₁ B hml hv
  obtain ⟨rfl, hsz, hP, hK, hD0, hN⟩ := hv
  have hx := B.exec
  have hb := B.bytes
  have hr := B.returns
  have hts := atoms_spec (ws := wsX5_tire) B.pre
  have hown : s.vm.findClass RX5 = some m.cls := findClass_of_methodNamed B.named
  have hlocks := B.notSynchronized
  subst hsz
  have hin5 : ∀ w ∈ u_ws RX5 TX5 1, w ∈ wsX5_tire := by decide +kernel
  have hD := hD0
  have hP : va_P (dC, dI) vwCl ([] ++ va_pl L f) s.heap := hP
  have hl := lv_entry ([.ref h0]) (n := 1) (Nat.le_of_ble_eq_true rfl)
  rw [lg_entry_eq]
  generalize (lg_sl ([.ref h0]) ++ List.replicate (1 - (lg_sl ([.ref h0])).length) Slot.unset).toArray = ls at hl ⊢
  have hl : lv_has ls 1 [(0, .ref h0)] := hl
  refine lv_aload_n hx hb dX5_tire_0 rfl (lv_at hl 0 rfl) ?_
  have hf_1 : f h0 = .inr (5, [.ref (ad 14 gq)]) := hT.get hk_h0
  obtain ⟨q_2, hq_2⟩ := pl_at (X := []) (f := f) (e := .inr (5, [.ref (ad 14 gq)])) hk_h0.1 hf_1
  refine va_get (D := (dC, dI)) (ci := 5) (v := .ref (ad 14 gq)) (C := RX5) (T := TX5) (N := 1) hx hb hts hin5 hown hK hP q_2 hq_2 rfl 0 (by decide) (hts (.fieldLink RX5 11 "YamRiders$Statutes" "numbers" "[I") (by decide +kernel)) (fun _ h9 => h9) rfl dX5_tire_1 ?_
  refine lv_iconst (v := 0) hx hb dX5_tire_4 (by decide) ?_
  have hf_3 : f (ad 14 gq) = .inl (cs 0, 6, .inl (S 224 gq)) := hT.get hk14_gq
  obtain ⟨q_4, hq_4⟩ := pl_at (X := []) (f := f) (e := .inl (cs 0, 6, .inl (S 224 gq))) hk14_gq.1 hf_3
  refine va_iald hx hb hK hP q_4 0 hq_4 rfl (by unfold vp_in; decide) dX5_tire_5 ?_
  refine lv_topi (fun v_5 ev_5 => ?_)
  obtain rfl : v_5 = S 224 gq 0 := ev_5.trans rfl
  exact W.iret (v := S 224 gq 0) hx hb hr (fun t9 ht hW => ⟨_, rfl, rfl, ht⟩) (fun q h => nomatch h) dX5_tire_6

set_option maxHeartbeats 4000000 in
set_option maxRecDepth 100000 in
theorem e_X5_rest (l : Launch) (dC : Nat → ClassId) (dI : Nat → Nat → Nat) (cs : Nat → ClassId) (L : List Nat) (ka : Nat → Nat) (ix : Nat → Nat) (ad : Nat → Nat → Nat) (n0 : Nat) (n6 : Nat) (n2 : Nat) (S : Nat → Nat → Nat → Int32) (f : Nat → va_E) (gq : Nat) (h0 : Nat) (sz : Nat) (hT : tB L ka ix ad cs n0 n6 n2 S f) (hk14_gq : tpx L ka ix 14 gq (ad 14 gq)) (hk_h0 : tpx L ka ix 5 gq h0) : Met l yX5_rest wsX5_rest ({ frames := 0, cells := 0, slots := 0, locals := 0 }) (va_Pc [.ref h0] (cP dC dI ([] ++ va_pl L f) (tyC cs) sz)) (vp_Si (fun r => r = S 224 gq 1)) 0 0 (fun _ => False) := by
  refine Met.ofW (cc := cX5_rest) (maxL := 1) (ret := (some .int)) (by decide) rfl ?_
  intro p e s m args below meth c s₁ B hml hv
  obtain ⟨rfl, hsz, hP, hK, hD0, hN⟩ := hv
  have hx := B.exec
  have hb := B.bytes
  have hr := B.returns
  have hts := atoms_spec (ws := wsX5_rest) B.pre
  have hown : s.vm.findClass RX5 = some m.cls := findClass_of_methodNamed B.named
  have hlocks := B.notSynchronized
  subst hsz
  have hin5 : ∀ w ∈ u_ws RX5 TX5 1, w ∈ wsX5_rest := by decide +kernel
  have hD := hD0
  have hP : va_P (dC, dI) vwCl ([] ++ va_pl L f) s.heap := hP
  have hl := lv_entry ([.ref h0]) (n := 1) (Nat.le_of_ble_eq_true rfl)
  rw [lg_entry_eq]
  generalize (lg_sl ([.ref h0]) ++ List.replicate (1 - (lg_sl ([.ref h0])).length) Slot.unset).toArray = ls at hl ⊢
  have hl : lv_has ls 1 [(0, .ref h0)] := hl
  refine lv_aload_n hx hb dX5_rest_0 rfl (lv_at hl 0 rfl) ?_
  have hf_1 : f h0 = .inr (5, [.ref (ad 14 gq)]) := hT.get hk_h0
  obtain ⟨q_2, hq_2⟩ := pl_at (X := []) (f := f) (e := .inr (5, [.ref (ad 14 gq)])) hk_h0.1 hf_1
  refine va_get (D := (dC, dI)) (ci := 5) (v := .ref (ad 14 gq)) (C := RX5) (T := TX5) (N := 1) hx hb hts hin5 hown hK hP q_2 hq_2 rfl 0 (by decide) (hts (.fieldLink RX5 11 "YamRiders$Statutes" "numbers" "[I") (by decide +kernel)) (fun _ h9 => h9) rfl dX5_rest_1 ?_
  refine lv_iconst (v := 1) hx hb dX5_rest_4 (by decide) ?_
  have hf_3 : f (ad 14 gq) = .inl (cs 0, 6, .inl (S 224 gq)) := hT.get hk14_gq
  obtain ⟨q_4, hq_4⟩ := pl_at (X := []) (f := f) (e := .inl (cs 0, 6, .inl (S 224 gq))) hk14_gq.1 hf_3
  refine va_iald hx hb hK hP q_4 0 hq_4 rfl (by unfold vp_in; decide) dX5_rest_5 ?_
  refine lv_topi (fun v_5 ev_5 => ?_)
  obtain rfl : v_5 = S 224 gq 1 := ev_5.trans rfl
  exact W.iret (v := S 224 gq 1) hx hb hr (fun t9 ht hW => ⟨_, rfl, rfl, ht⟩) (fun q h => nomatch h) dX5_rest_6

set_option maxHeartbeats 4000000 in
set_option maxRecDepth 100000 in
theorem e_X5_hunger (l : Launch) (dC : Nat → ClassId) (dI : Nat → Nat → Nat) (cs : Nat → ClassId) (L : List Nat) (ka : Nat → Nat) (ix : Nat → Nat) (ad : Nat → Nat → Nat) (n0 : Nat) (n6 : Nat) (n2 : Nat) (S : Nat → Nat → Nat → Int32) (f : Nat → va_E) (gq : Nat) (h0 : Nat) (sz : Nat) (hT : tB L ka ix ad cs n0 n6 n2 S f) (hk14_gq : tpx L ka ix 14 gq (ad 14 gq)) (hk_h0 : tpx L ka ix 5 gq h0) : Met l yX5_hunger wsX5_hunger ({ frames := 0, cells := 0, slots := 0, locals := 0 }) (va_Pc [.ref h0] (cP dC dI ([] ++ va_pl L f) (tyC cs) sz)) (vp_Si (fun r => r = S 224 gq 2)) 0 0 (fun _ => False) := by
  refine Met.ofW (cc := cX5_hunger) (maxL := 1) (ret := (some .int)) (by decide) rfl ?_
  intro p e s m args below meth c s₁ B hml hv
  obtain ⟨rfl, hsz, hP, hK, hD0, hN⟩ := hv
  have hx := B.exec
  have hb := B.bytes
  have hr := B.returns
  have hts := atoms_spec (ws := wsX5_hunger) B.pre
  have hown : s.vm.findClass RX5 = some m.cls := findClass_of_methodNamed B.named
  have hlocks := B.notSynchronized
  subst hsz
  have hin5 : ∀ w ∈ u_ws RX5 TX5 1, w ∈ wsX5_hunger := by decide +kernel
  have hD := hD0
  have hP : va_P (dC, dI) vwCl ([] ++ va_pl L f) s.heap := hP
  have hl := lv_entry ([.ref h0]) (n := 1) (Nat.le_of_ble_eq_true rfl)
  rw [lg_entry_eq]
  generalize (lg_sl ([.ref h0]) ++ List.replicate (1 - (lg_sl ([.ref h0])).length) Slot.unset).toArray = ls at hl ⊢
  have hl : lv_has ls 1 [(0, .ref h0)] := hl
  refine lv_aload_n hx hb dX5_hunger_0 rfl (lv_at hl 0 rfl) ?_
  have hf_1 : f h0 = .inr (5, [.ref (ad 14 gq)]) := hT.get hk_h0
  obtain ⟨q_2, hq_2⟩ := pl_at (X := []) (f := f) (e := .inr (5, [.ref (ad 14 gq)])) hk_h0.1 hf_1
  refine va_get (D := (dC, dI)) (ci := 5) (v := .ref (ad 14 gq)) (C := RX5) (T := TX5) (N := 1) hx hb hts hin5 hown hK hP q_2 hq_2 rfl 0 (by decide) (hts (.fieldLink RX5 11 "YamRiders$Statutes" "numbers" "[I") (by decide +kernel)) (fun _ h9 => h9) rfl dX5_hunger_1 ?_
  refine lv_iconst (v := 2) hx hb dX5_hunger_4 (by decide) ?_
  have hf_3 : f (ad 14 gq) = .inl (cs 0, 6, .inl (S 224 gq)) := hT.get hk14_gq
  obtain ⟨q_4, hq_4⟩ := pl_at (X := []) (f := f) (e := .inl (cs 0, 6, .inl (S 224 gq))) hk14_gq.1 hf_3
  refine va_iald hx hb hK hP q_4 0 hq_4 rfl (by unfold vp_in; decide) dX5_hunger_5 ?_
  refine lv_topi (fun v_5 ev_5 => ?_)
  obtain rfl : v_5 = S 224 gq 2 := ev_5.trans rfl
  exact W.iret (v := S 224 gq 2) hx hb hr (fun t9 ht hW => ⟨_, rfl, rfl, ht⟩) (fun q h => nomatch h) dX5_hunger_6

set_option maxHeartbeats 4000000 in
set_option maxRecDepth 100000 in
theorem e_X5_keepFor (l : Launch) (dC : Nat → ClassId) (dI : Nat → Nat → Nat) (cs : Nat → ClassId) (L : List Nat) (ka : Nat → Nat) (ix : Nat → Nat) (ad : Nat → Nat → Nat) (n0 : Nat) (n6 : Nat) (n2 : Nat) (S : Nat → Nat → Nat → Int32) (f : Nat → va_E) (gq : Nat) (h0 : Nat) (p0 : Int32) (sz : Nat) (hT : tB L ka ix ad cs n0 n6 n2 S f) (hk14_gq : tpx L ka ix 14 gq (ad 14 gq)) (hk_h0 : tpx L ka ix 5 gq h0) : Met l yX5_keepFor wsX5_keepFor ({ frames := 0, cells := 0, slots := 0, locals := 0 }) (va_Pc [.ref h0, .int p0] (cP dC dI ([] ++ va_pl L f) (tyC cs) sz)) (vp_Si (fun r => r = kpS S gq p0)) 0 0 (fun _ => False) := by
  refine Met.ofW (cc := cX5_keepFor) (maxL := 2) (ret := (some .int)) (by decide) rfl ?_
  intro p e s m args below meth c s₁ B hml hv
  obtain ⟨rfl, hsz, hP, hK, hD0, hN⟩ := hv
  have hx := B.exec
  have hb := B.bytes
  have hr := B.returns
  have hts := atoms_spec (ws := wsX5_keepFor) B.pre
  have hown : s.vm.findClass RX5 = some m.cls := findClass_of_methodNamed B.named
  have hlocks := B.notSynchronized
  subst hsz
  have hin5 : ∀ w ∈ u_ws RX5 TX5 1, w ∈ wsX5_keepFor := by decide +kernel
  have hD := hD0
  have hP : va_P (dC, dI) vwCl ([] ++ va_pl L f) s.heap := hP
  have hl := lv_entry ([.ref h0, .int p0]) (n := 2) (Nat.le_of_ble_eq_true rfl)
  rw [lg_entry_eq]
  generalize (lg_sl ([.ref h0, .int p0]) ++ List.replicate (2 - (lg_sl ([.ref h0, .int p0])).length) Slot.unset).toArray = ls at hl ⊢
  have hl : lv_has ls 2 [(0, .ref h0), (1, .int p0)] := hl
  refine lv_iload_n hx hb dX5_keepFor_0 rfl (lv_at hl 1 rfl) ?_
  refine lv_iconst (v := 1) hx hb dX5_keepFor_1 (by decide) ?_
  refine lv_icmp_lt (tgt := 23) hx hb dX5_keepFor_2 (by decide) (fun c_1 => ?_) (fun c_1 => ?_)
  · refine lv_iconst (v := 0) hx hb dX5_keepFor_23 (by decide) ?_
    exact W.iret (v := 0) hx hb hr (fun t9 ht hW => ⟨_, rfl, (by unfold kpS; rw [if_pos c_1]), ht⟩) (fun q h => nomatch h) dX5_keepFor_24
  · refine lv_iload_n hx hb dX5_keepFor_5 rfl (lv_at hl 1 rfl) ?_
    refine lv_iconst (v := 3) hx hb dX5_keepFor_6 (by decide) ?_
    refine lv_icmp_gt (tgt := 23) hx hb dX5_keepFor_7 (by decide) (fun c_2 => ?_) (fun c_2 => ?_)
    · refine lv_iconst (v := 0) hx hb dX5_keepFor_23 (by decide) ?_
      exact W.iret (v := 0) hx hb hr (fun t9 ht hW => ⟨_, rfl, (by unfold kpS; rw [if_neg c_1, if_pos c_2]), ht⟩) (fun q h => nomatch h) dX5_keepFor_24
    · refine lv_aload_n hx hb dX5_keepFor_10 rfl (lv_at hl 0 rfl) ?_
      have hf_3 : f h0 = .inr (5, [.ref (ad 14 gq)]) := hT.get hk_h0
      obtain ⟨q_4, hq_4⟩ := pl_at (X := []) (f := f) (e := .inr (5, [.ref (ad 14 gq)])) hk_h0.1 hf_3
      refine va_get (D := (dC, dI)) (ci := 5) (v := .ref (ad 14 gq)) (C := RX5) (T := TX5) (N := 1) hx hb hts hin5 hown hK hP q_4 hq_4 rfl 0 (by decide) (hts (.fieldLink RX5 11 "YamRiders$Statutes" "numbers" "[I") (by decide +kernel)) (fun _ h9 => h9) rfl dX5_keepFor_11 ?_
      refine lv_iconst (v := 3) hx hb dX5_keepFor_14 (by decide) ?_
      refine lv_iload_n hx hb dX5_keepFor_15 rfl (lv_at hl 1 rfl) ?_
      refine lv_iadd hx hb dX5_keepFor_16 ?_
      refine lv_iconst (v := 1) hx hb dX5_keepFor_17 (by decide) ?_
      refine lv_isub hx hb dX5_keepFor_18 ?_
      obtain ⟨u_5, hu_5, eu_5⟩ := vin_n (kf_in9 c_1 (Int32.not_lt.mp c_2))
      have hf_6 : f (ad 14 gq) = .inl (cs 0, 6, .inl (S 224 gq)) := hT.get hk14_gq
      obtain ⟨q_7, hq_7⟩ := pl_at (X := []) (f := f) (e := .inl (cs 0, 6, .inl (S 224 gq))) hk14_gq.1 hf_6
      refine va_iald hx hb hK hP q_7 0 hq_7 rfl (by rw [eu_5]; exact vp_in_nI (by omega) (by omega)) dX5_keepFor_19 ?_
      refine lv_topi (fun v_8 ev_8 => ?_)
      obtain rfl : v_8 = S 224 gq u_5 := ev_8.trans (by rw [(show ((3 + p0) - 1).toNatClampNeg = u_5 from by rw [eu_5]; exact nI_clamp (by omega))])
      refine lv_goto (tgt := 24) hx hb dX5_keepFor_20 (by decide) ?_
      exact W.iret (v := S 224 gq u_5) hx hb hr (fun t9 ht hW => ⟨_, rfl, (by unfold kpS; rw [if_neg c_1, if_neg c_2]; rw [eu_5, nI_clamp (by omega)]), ht⟩) (fun q h => nomatch h) dX5_keepFor_24
