def tmN (S : Nat → Nat → Nat → Int32) (u v : Nat) : Int32 := if S 416 u v = 0 then -1 else S 416 u v + S 432 u v

set_option maxHeartbeats 4000000 in
set_option maxRecDepth 100000 in
theorem e_X3_timeN (l : Launch) (dC : Nat → ClassId) (dI : Nat → Nat → Nat) (cs : Nat → ClassId) (L : List Nat) (ka : Nat → Nat) (ix : Nat → Nat) (ad : Nat → Nat → Nat) (n0 : Nat) (n6 : Nat) (n2 : Nat) (S : Nat → Nat → Nat → Int32) (f : Nat → va_E) (h0 : Nat) (u9 : Nat) (v9 : Nat) (sz : Nat) (hT : tB L ka ix ad cs n0 n6 n2 S f) (hk_h0 : tpx L ka ix 3 0 h0) (hu9 : u9 < 12) (hv9 : v9 < 12) : Met l yX3_timeBetween wsX3_timeBetween ({ frames := 1, cells := 0, slots := 0, locals := 20 }) (va_Pc [.ref h0, .int (nI u9), .int (nI v9)] (cP dC dI ([] ++ va_pl L f) (tyC cs) sz)) (vp_Si (fun r => r = tmN S u9 v9)) 0 0 (fun _ => False) := by
  refine Met.ofW (cc := cX3_timeBetween) (maxL := 3) (ret := (some .int)) (by decide) rfl ?_
  intro p e s m args below meth c s₁ B hml hv
  obtain ⟨rfl, hsz, hP, hK, hD0, hN⟩ := hv
  have hx := B.exec
  have hb := B.bytes
  have hr := B.returns
  have hts := atoms_spec (ws := wsX3_timeBetween) B.pre
  have hown : s.vm.findClass RX3 = some m.cls := findClass_of_methodNamed B.named
  have hlocks := B.notSynchronized
  subst hsz
  have hin3 : ∀ w ∈ u_ws RX3 TX3 5, w ∈ wsX3_timeBetween := by decide +kernel
  have hD := hD0
  have hP : va_P (dC, dI) vwCl ([] ++ va_pl L f) s.heap := hP
  have hl := lv_entry ([.ref h0, .int (nI u9), .int (nI v9)]) (n := 3) (Nat.le_of_ble_eq_true rfl)
  rw [lg_entry_eq]
  generalize (lg_sl ([.ref h0, .int (nI u9), .int (nI v9)]) ++ List.replicate (3 - (lg_sl ([.ref h0, .int (nI u9), .int (nI v9)])).length) Slot.unset).toArray = ls at hl ⊢
  have hl : lv_has ls 3 [(0, .ref h0), (1, .int (nI u9)), (2, .int (nI v9))] := hl
  refine lv_iload_n hx hb dX3_timeBetween_0 rfl (lv_at hl 1 rfl) ?_
  have hPc := hP.sub (ws' := []) [] rfl
  have hDc := hD.sub (ws' := []) [] (by decide) rfl
  have hKc := hK.sub (tys' := []) [] rfl
  refine cs_i (va_runSN (As := [.int (nI u9)]) (rest := []) ⟨hx, hb, hml, hown, hts⟩ (c_X8_isStation l dC dI (nI u9) s.heap.size) ⟨va_cnB 1 hts ggX3_timeBetween_X8_isStation rfl rfl rfl (hN.1 (.methodLinkNest RX3 30 yX8_isStation "YamRiders") (by decide +kernel)) (hts (.initialized RX8) (by decide +kernel)) (by decide +kernel) ⟨Nat.le_of_ble_eq_true rfl, Nat.le_of_ble_eq_true rfl⟩, hts (.static yX8_isStation) (by decide +kernel), trivial⟩ ⟨c_blind, c_pre hPc hKc hDc hN⟩ rfl rfl hl.1 rfl (lv_room (Nat.le_of_ble_eq_true rfl)) dX3_timeBetween_1 ⟨Nat.le_of_ble_eq_true rfl, Nat.le_of_ble_eq_true rfl⟩) (fun r_1 hr_1 => ?_)
  subst hr_1
  refine lv_if_eq (tgt := 25) hx hb dX3_timeBetween_4 (by decide) (fun c_2 => by first | exact absurd c_2 (st_nz (by omega)) | exact absurd (st_nz (by omega)) c_2) (fun _ => ?_)
  refine lv_iload_n hx hb dX3_timeBetween_7 rfl (lv_at hl 2 rfl) ?_
  have hPc := hP.sub (ws' := []) [] rfl
  have hDc := hD.sub (ws' := []) [] (by decide) rfl
  have hKc := hK.sub (tys' := []) [] rfl
  refine cs_i (va_runSN (As := [.int (nI v9)]) (rest := []) ⟨hx, hb, hml, hown, hts⟩ (c_X8_isStation l dC dI (nI v9) s.heap.size) ⟨va_cnB 1 hts ggX3_timeBetween_X8_isStation rfl rfl rfl (hN.1 (.methodLinkNest RX3 30 yX8_isStation "YamRiders") (by decide +kernel)) (hts (.initialized RX8) (by decide +kernel)) (by decide +kernel) ⟨Nat.le_of_ble_eq_true rfl, Nat.le_of_ble_eq_true rfl⟩, hts (.static yX8_isStation) (by decide +kernel), trivial⟩ ⟨c_blind, c_pre hPc hKc hDc hN⟩ rfl rfl hl.1 rfl (lv_room (Nat.le_of_ble_eq_true rfl)) dX3_timeBetween_8 ⟨Nat.le_of_ble_eq_true rfl, Nat.le_of_ble_eq_true rfl⟩) (fun r_3 hr_3 => ?_)
  subst hr_3
  refine lv_if_eq (tgt := 25) hx hb dX3_timeBetween_11 (by decide) (fun c_4 => by first | exact absurd c_4 (st_nz (by omega)) | exact absurd (st_nz (by omega)) c_4) (fun _ => ?_)
  refine lv_aload_n hx hb dX3_timeBetween_14 rfl (lv_at hl 0 rfl) ?_
  have hf_5 : f h0 = .inr (3, [.ref (ad 24 0), .ref (ad 25 0), .ref (ad 31 0), .ref (ad 32 0), .ref (ad 33 0)]) := hT.get hk_h0
  obtain ⟨q_6, hq_6⟩ := pl_at (X := []) (f := f) (e := .inr (3, [.ref (ad 24 0), .ref (ad 25 0), .ref (ad 31 0), .ref (ad 32 0), .ref (ad 33 0)])) hk_h0.1 hf_5
  refine va_get (D := (dC, dI)) (ci := 3) (v := .ref (ad 24 0)) (C := RX3) (T := TX3) (N := 5) hx hb hts hin3 hown hK hP q_6 hq_6 rfl 0 (by decide) (hts (.fieldLink RX3 11 "YamRiders$Roads" "hoursOf" "[[I") (by decide +kernel)) (fun _ h9 => h9) rfl dX3_timeBetween_15 ?_
  refine lv_iload_n hx hb dX3_timeBetween_18 rfl (lv_at hl 1 rfl) ?_
  have hf_7 : f (ad 24 0) = .inl (cs 2, 12, .inr (.inr (.inr (.inr (gl ad 26 12))))) := hT.get (hT.kf (k := 24) (by decide))
  obtain ⟨q_8, hq_8⟩ := pl_at (X := []) (f := f) (e := .inl (cs 2, 12, .inr (.inr (.inr (.inr (gl ad 26 12)))))) (hT.kf (k := 24) (by decide)).1 hf_7
  refine va_aldg hx hb hK hP q_8 2 hq_8 rfl (vp_in_nI (by omega) (by omega)) (show gl ad 26 12 (nI u9).toNatClampNeg = some (ad 26 u9) from by rw [(nI_clamp (by omega))]; exact gl_p (by omega)) dX3_timeBetween_19 ?_
  refine lv_iload_n hx hb dX3_timeBetween_20 rfl (lv_at hl 2 rfl) ?_
  have hf_9 : f (ad 26 u9) = .inl (cs 0, 12, .inl (S 416 u9)) := hT.get (hT.k26 (i := u9) (by omega))
  obtain ⟨q_10, hq_10⟩ := pl_at (X := []) (f := f) (e := .inl (cs 0, 12, .inl (S 416 u9))) (hT.k26 (i := u9) (by omega)).1 hf_9
  refine va_iald hx hb hK hP q_10 0 hq_10 rfl (vp_in_nI (by omega) (by omega)) dX3_timeBetween_21 ?_
  refine lv_topi (fun v_11 ev_11 => ?_)
  obtain rfl : v_11 = S 416 u9 v9 := ev_11.trans (by rw [(nI_clamp (by omega))])
  refine lv_if_ne (tgt := 27) hx hb dX3_timeBetween_22 (by decide) (fun c_12 => ?_) (fun c_12 => ?_)
  · refine lv_aload_n hx hb dX3_timeBetween_27 rfl (lv_at hl 0 rfl) ?_
    obtain ⟨q_13, hq_13⟩ := pl_at (X := []) (f := f) (e := .inr (3, [.ref (ad 24 0), .ref (ad 25 0), .ref (ad 31 0), .ref (ad 32 0), .ref (ad 33 0)])) hk_h0.1 hf_5
    refine va_get (D := (dC, dI)) (ci := 3) (v := .ref (ad 24 0)) (C := RX3) (T := TX3) (N := 5) hx hb hts hin3 hown hK hP q_13 hq_13 rfl 0 (by decide) (hts (.fieldLink RX3 11 "YamRiders$Roads" "hoursOf" "[[I") (by decide +kernel)) (fun _ h9 => h9) rfl dX3_timeBetween_28 ?_
    refine lv_iload_n hx hb dX3_timeBetween_31 rfl (lv_at hl 1 rfl) ?_
    obtain ⟨q_14, hq_14⟩ := pl_at (X := []) (f := f) (e := .inl (cs 2, 12, .inr (.inr (.inr (.inr (gl ad 26 12)))))) (hT.kf (k := 24) (by decide)).1 hf_7
    refine va_aldg hx hb hK hP q_14 2 hq_14 rfl (vp_in_nI (by omega) (by omega)) (show gl ad 26 12 (nI u9).toNatClampNeg = some (ad 26 u9) from by rw [(nI_clamp (by omega))]; exact gl_p (by omega)) dX3_timeBetween_32 ?_
    refine lv_iload_n hx hb dX3_timeBetween_33 rfl (lv_at hl 2 rfl) ?_
    obtain ⟨q_15, hq_15⟩ := pl_at (X := []) (f := f) (e := .inl (cs 0, 12, .inl (S 416 u9))) (hT.k26 (i := u9) (by omega)).1 hf_9
    refine va_iald hx hb hK hP q_15 0 hq_15 rfl (vp_in_nI (by omega) (by omega)) dX3_timeBetween_34 ?_
    refine lv_topi (fun v_16 ev_16 => ?_)
    obtain rfl : v_16 = S 416 u9 v9 := ev_16.trans (by rw [(nI_clamp (by omega))])
    refine lv_aload_n hx hb dX3_timeBetween_35 rfl (lv_at hl 0 rfl) ?_
    obtain ⟨q_17, hq_17⟩ := pl_at (X := []) (f := f) (e := .inr (3, [.ref (ad 24 0), .ref (ad 25 0), .ref (ad 31 0), .ref (ad 32 0), .ref (ad 33 0)])) hk_h0.1 hf_5
    refine va_get (D := (dC, dI)) (ci := 3) (v := .ref (ad 25 0)) (C := RX3) (T := TX3) (N := 5) hx hb hts hin3 hown hK hP q_17 hq_17 rfl 1 (by decide) (hts (.fieldLink RX3 16 "YamRiders$Roads" "snowOn" "[[I") (by decide +kernel)) (fun _ h9 => h9) rfl dX3_timeBetween_36 ?_
    refine lv_iload_n hx hb dX3_timeBetween_39 rfl (lv_at hl 1 rfl) ?_
    have hf_18 : f (ad 25 0) = .inl (cs 2, 12, .inr (.inr (.inr (.inr (gl ad 27 12))))) := hT.get (hT.kf (k := 25) (by decide))
    obtain ⟨q_19, hq_19⟩ := pl_at (X := []) (f := f) (e := .inl (cs 2, 12, .inr (.inr (.inr (.inr (gl ad 27 12)))))) (hT.kf (k := 25) (by decide)).1 hf_18
    refine va_aldg hx hb hK hP q_19 2 hq_19 rfl (vp_in_nI (by omega) (by omega)) (show gl ad 27 12 (nI u9).toNatClampNeg = some (ad 27 u9) from by rw [(nI_clamp (by omega))]; exact gl_p (by omega)) dX3_timeBetween_40 ?_
    refine lv_iload_n hx hb dX3_timeBetween_41 rfl (lv_at hl 2 rfl) ?_
    have hf_20 : f (ad 27 u9) = .inl (cs 0, 12, .inl (S 432 u9)) := hT.get (hT.k27 (i := u9) (by omega))
    obtain ⟨q_21, hq_21⟩ := pl_at (X := []) (f := f) (e := .inl (cs 0, 12, .inl (S 432 u9))) (hT.k27 (i := u9) (by omega)).1 hf_20
    refine va_iald hx hb hK hP q_21 0 hq_21 rfl (vp_in_nI (by omega) (by omega)) dX3_timeBetween_42 ?_
    refine lv_topi (fun v_22 ev_22 => ?_)
    obtain rfl : v_22 = S 432 u9 v9 := ev_22.trans (by rw [(nI_clamp (by omega))])
    refine lv_iadd hx hb dX3_timeBetween_43 ?_
    exact W.iret (v := (S 416 u9 v9) + (S 432 u9 v9)) hx hb hr (fun t9 ht hW => ⟨_, rfl, (by unfold tmN; rw [if_neg c_12]), ht⟩) (fun q h => nomatch h) dX3_timeBetween_44
  · refine lv_iconst (v := (-1)) hx hb dX3_timeBetween_25 (by decide) ?_
    exact W.iret (v := (-1)) hx hb hr (fun t9 ht hW => ⟨_, rfl, (by unfold tmN; rw [if_pos c_12]), ht⟩) (fun q h => nomatch h) dX3_timeBetween_26

def tmG (S : Nat → Nat → Nat → Int32) (p0 p1 : Int32) : Int32 := if sp_st p0 = 0 then -1 else if sp_st p1 = 0 then -1 else tmN S p0.toNatClampNeg p1.toNatClampNeg
theorem tmG_o {S : Nat → Nat → Nat → Int32} {p0 p1 : Int32} (c : ¬ tmG S p0 p1 = -1) : ∃ u v : Nat, u < 12 ∧ v < 12 ∧ p0 = nI u ∧ p1 = nI v ∧ ¬ S 416 u v = 0 := by
  unfold tmG at c
  by_cases h0 : sp_st p0 = 0
  · rw [if_pos h0] at c; exact absurd rfl c
  · rw [if_neg h0] at c
    by_cases h1 : sp_st p1 = 0
    · rw [if_pos h1] at c; exact absurd rfl c
    · rw [if_neg h1] at c
      obtain ⟨u, hu, rfl⟩ := st_of h0
      obtain ⟨v, hv, rfl⟩ := st_of h1
      rw [nI_clamp (by omega), nI_clamp (by omega)] at c
      refine ⟨u, v, hu, hv, rfl, rfl, fun q => c ?_⟩
      unfold tmN; rw [if_pos q]

set_option maxHeartbeats 4000000 in
set_option maxRecDepth 100000 in
theorem e_X3_time (l : Launch) (dC : Nat → ClassId) (dI : Nat → Nat → Nat) (cs : Nat → ClassId) (L : List Nat) (ka : Nat → Nat) (ix : Nat → Nat) (ad : Nat → Nat → Nat) (n0 : Nat) (n6 : Nat) (n2 : Nat) (S : Nat → Nat → Nat → Int32) (f : Nat → va_E) (h0 : Nat) (p0 : Int32) (p1 : Int32) (sz : Nat) (hT : tB L ka ix ad cs n0 n6 n2 S f) (hk_h0 : tpx L ka ix 3 0 h0) : Met l yX3_timeBetween wsX3_timeBetween ({ frames := 1, cells := 0, slots := 0, locals := 20 }) (va_Pc [.ref h0, .int p0, .int p1] (cP dC dI ([] ++ va_pl L f) (tyC cs) sz)) (vp_Si (fun r => r = tmG S p0 p1)) 0 0 (fun _ => False) := by
  refine Met.ofW (cc := cX3_timeBetween) (maxL := 3) (ret := (some .int)) (by decide) rfl ?_
  intro p e s m args below meth c s₁ B hml hv
  obtain ⟨rfl, hsz, hP, hK, hD0, hN⟩ := hv
  have hx := B.exec
  have hb := B.bytes
  have hr := B.returns
  have hts := atoms_spec (ws := wsX3_timeBetween) B.pre
  have hown : s.vm.findClass RX3 = some m.cls := findClass_of_methodNamed B.named
  have hlocks := B.notSynchronized
  subst hsz
  have hin3 : ∀ w ∈ u_ws RX3 TX3 5, w ∈ wsX3_timeBetween := by decide +kernel
  have hD := hD0
  have hP : va_P (dC, dI) vwCl ([] ++ va_pl L f) s.heap := hP
  have hl := lv_entry ([.ref h0, .int p0, .int p1]) (n := 3) (Nat.le_of_ble_eq_true rfl)
  rw [lg_entry_eq]
  generalize (lg_sl ([.ref h0, .int p0, .int p1]) ++ List.replicate (3 - (lg_sl ([.ref h0, .int p0, .int p1])).length) Slot.unset).toArray = ls at hl ⊢
  have hl : lv_has ls 3 [(0, .ref h0), (1, .int p0), (2, .int p1)] := hl
  refine lv_iload_n hx hb dX3_timeBetween_0 rfl (lv_at hl 1 rfl) ?_
  have hPc := hP.sub (ws' := []) [] rfl
  have hDc := hD.sub (ws' := []) [] (by decide) rfl
  have hKc := hK.sub (tys' := []) [] rfl
  refine cs_i (va_runSN (As := [.int p0]) (rest := []) ⟨hx, hb, hml, hown, hts⟩ (c_X8_isStation l dC dI p0 s.heap.size) ⟨va_cnB 1 hts ggX3_timeBetween_X8_isStation rfl rfl rfl (hN.1 (.methodLinkNest RX3 30 yX8_isStation "YamRiders") (by decide +kernel)) (hts (.initialized RX8) (by decide +kernel)) (by decide +kernel) ⟨Nat.le_of_ble_eq_true rfl, Nat.le_of_ble_eq_true rfl⟩, hts (.static yX8_isStation) (by decide +kernel), trivial⟩ ⟨c_blind, c_pre hPc hKc hDc hN⟩ rfl rfl hl.1 rfl (lv_room (Nat.le_of_ble_eq_true rfl)) dX3_timeBetween_1 ⟨Nat.le_of_ble_eq_true rfl, Nat.le_of_ble_eq_true rfl⟩) (fun r_1 hr_1 => ?_)
  subst hr_1
  refine lv_if_eq (tgt := 25) hx hb dX3_timeBetween_4 (by decide) (fun c_2 => ?_) (fun c_2 => ?_)
  · refine lv_iconst (v := (-1)) hx hb dX3_timeBetween_25 (by decide) ?_
    exact W.iret (v := (-1)) hx hb hr (fun t9 ht hW => ⟨_, rfl, (by unfold tmG; rw [if_pos c_2]), ht⟩) (fun q h => nomatch h) dX3_timeBetween_26
  · refine lv_iload_n hx hb dX3_timeBetween_7 rfl (lv_at hl 2 rfl) ?_
    have hPc := hP.sub (ws' := []) [] rfl
    have hDc := hD.sub (ws' := []) [] (by decide) rfl
    have hKc := hK.sub (tys' := []) [] rfl
    refine cs_i (va_runSN (As := [.int p1]) (rest := []) ⟨hx, hb, hml, hown, hts⟩ (c_X8_isStation l dC dI p1 s.heap.size) ⟨va_cnB 1 hts ggX3_timeBetween_X8_isStation rfl rfl rfl (hN.1 (.methodLinkNest RX3 30 yX8_isStation "YamRiders") (by decide +kernel)) (hts (.initialized RX8) (by decide +kernel)) (by decide +kernel) ⟨Nat.le_of_ble_eq_true rfl, Nat.le_of_ble_eq_true rfl⟩, hts (.static yX8_isStation) (by decide +kernel), trivial⟩ ⟨c_blind, c_pre hPc hKc hDc hN⟩ rfl rfl hl.1 rfl (lv_room (Nat.le_of_ble_eq_true rfl)) dX3_timeBetween_8 ⟨Nat.le_of_ble_eq_true rfl, Nat.le_of_ble_eq_true rfl⟩) (fun r_3 hr_3 => ?_)
    subst hr_3
    refine lv_if_eq (tgt := 25) hx hb dX3_timeBetween_11 (by decide) (fun c_4 => ?_) (fun c_4 => ?_)
    · refine lv_iconst (v := (-1)) hx hb dX3_timeBetween_25 (by decide) ?_
      exact W.iret (v := (-1)) hx hb hr (fun t9 ht hW => ⟨_, rfl, (by unfold tmG; rw [if_neg c_2, if_pos c_4]), ht⟩) (fun q h => nomatch h) dX3_timeBetween_26
    · refine lv_aload_n hx hb dX3_timeBetween_14 rfl (lv_at hl 0 rfl) ?_
      have hf_5 : f h0 = .inr (3, [.ref (ad 24 0), .ref (ad 25 0), .ref (ad 31 0), .ref (ad 32 0), .ref (ad 33 0)]) := hT.get hk_h0
      obtain ⟨q_6, hq_6⟩ := pl_at (X := []) (f := f) (e := .inr (3, [.ref (ad 24 0), .ref (ad 25 0), .ref (ad 31 0), .ref (ad 32 0), .ref (ad 33 0)])) hk_h0.1 hf_5
      refine va_get (D := (dC, dI)) (ci := 3) (v := .ref (ad 24 0)) (C := RX3) (T := TX3) (N := 5) hx hb hts hin3 hown hK hP q_6 hq_6 rfl 0 (by decide) (hts (.fieldLink RX3 11 "YamRiders$Roads" "hoursOf" "[[I") (by decide +kernel)) (fun _ h9 => h9) rfl dX3_timeBetween_15 ?_
      refine lv_iload_n hx hb dX3_timeBetween_18 rfl (lv_at hl 1 rfl) ?_
      obtain ⟨u_7, hu_7, rfl⟩ := st_of c_2
      have hf_8 : f (ad 24 0) = .inl (cs 2, 12, .inr (.inr (.inr (.inr (gl ad 26 12))))) := hT.get (hT.kf (k := 24) (by decide))
      obtain ⟨q_9, hq_9⟩ := pl_at (X := []) (f := f) (e := .inl (cs 2, 12, .inr (.inr (.inr (.inr (gl ad 26 12)))))) (hT.kf (k := 24) (by decide)).1 hf_8
      refine va_aldg hx hb hK hP q_9 2 hq_9 rfl (vp_in_nI (by omega) (by omega)) (show gl ad 26 12 (nI u_7).toNatClampNeg = some (ad 26 u_7) from by rw [(nI_clamp (by omega))]; exact gl_p (by omega)) dX3_timeBetween_19 ?_
      refine lv_iload_n hx hb dX3_timeBetween_20 rfl (lv_at hl 2 rfl) ?_
      obtain ⟨u_10, hu_10, rfl⟩ := st_of c_4
      have hf_11 : f (ad 26 u_7) = .inl (cs 0, 12, .inl (S 416 u_7)) := hT.get (hT.k26 (i := u_7) (by omega))
      obtain ⟨q_12, hq_12⟩ := pl_at (X := []) (f := f) (e := .inl (cs 0, 12, .inl (S 416 u_7))) (hT.k26 (i := u_7) (by omega)).1 hf_11
      refine va_iald hx hb hK hP q_12 0 hq_12 rfl (vp_in_nI (by omega) (by omega)) dX3_timeBetween_21 ?_
      refine lv_topi (fun v_13 ev_13 => ?_)
      obtain rfl : v_13 = S 416 u_7 u_10 := ev_13.trans (by rw [(nI_clamp (by omega))])
      refine lv_if_ne (tgt := 27) hx hb dX3_timeBetween_22 (by decide) (fun c_14 => ?_) (fun c_14 => ?_)
      · refine lv_aload_n hx hb dX3_timeBetween_27 rfl (lv_at hl 0 rfl) ?_
        have hf_15 : f h0 = .inr (3, [.ref (ad 24 0), .ref (ad 25 0), .ref (ad 31 0), .ref (ad 32 0), .ref (ad 33 0)]) := hT.get hk_h0
        obtain ⟨q_16, hq_16⟩ := pl_at (X := []) (f := f) (e := .inr (3, [.ref (ad 24 0), .ref (ad 25 0), .ref (ad 31 0), .ref (ad 32 0), .ref (ad 33 0)])) hk_h0.1 hf_15
        refine va_get (D := (dC, dI)) (ci := 3) (v := .ref (ad 24 0)) (C := RX3) (T := TX3) (N := 5) hx hb hts hin3 hown hK hP q_16 hq_16 rfl 0 (by decide) (hts (.fieldLink RX3 11 "YamRiders$Roads" "hoursOf" "[[I") (by decide +kernel)) (fun _ h9 => h9) rfl dX3_timeBetween_28 ?_
        refine lv_iload_n hx hb dX3_timeBetween_31 rfl (lv_at hl 1 rfl) ?_
        have hf_17 : f (ad 24 0) = .inl (cs 2, 12, .inr (.inr (.inr (.inr (gl ad 26 12))))) := hT.get (hT.kf (k := 24) (by decide))
        obtain ⟨q_18, hq_18⟩ := pl_at (X := []) (f := f) (e := .inl (cs 2, 12, .inr (.inr (.inr (.inr (gl ad 26 12)))))) (hT.kf (k := 24) (by decide)).1 hf_17
        refine va_aldg hx hb hK hP q_18 2 hq_18 rfl (vp_in_nI (by omega) (by omega)) (show gl ad 26 12 (nI u_7).toNatClampNeg = some (ad 26 u_7) from by rw [(nI_clamp (by omega))]; exact gl_p (by omega)) dX3_timeBetween_32 ?_
        refine lv_iload_n hx hb dX3_timeBetween_33 rfl (lv_at hl 2 rfl) ?_
        obtain ⟨q_19, hq_19⟩ := pl_at (X := []) (f := f) (e := .inl (cs 0, 12, .inl (S 416 u_7))) (hT.k26 (i := u_7) (by omega)).1 hf_11
        refine va_iald hx hb hK hP q_19 0 hq_19 rfl (vp_in_nI (by omega) (by omega)) dX3_timeBetween_34 ?_
        refine lv_topi (fun v_20 ev_20 => ?_)
        obtain rfl : v_20 = S 416 u_7 u_10 := ev_20.trans (by rw [(nI_clamp (by omega))])
        refine lv_aload_n hx hb dX3_timeBetween_35 rfl (lv_at hl 0 rfl) ?_
        obtain ⟨q_21, hq_21⟩ := pl_at (X := []) (f := f) (e := .inr (3, [.ref (ad 24 0), .ref (ad 25 0), .ref (ad 31 0), .ref (ad 32 0), .ref (ad 33 0)])) hk_h0.1 hf_15
        refine va_get (D := (dC, dI)) (ci := 3) (v := .ref (ad 25 0)) (C := RX3) (T := TX3) (N := 5) hx hb hts hin3 hown hK hP q_21 hq_21 rfl 1 (by decide) (hts (.fieldLink RX3 16 "YamRiders$Roads" "snowOn" "[[I") (by decide +kernel)) (fun _ h9 => h9) rfl dX3_timeBetween_36 ?_
        refine lv_iload_n hx hb dX3_timeBetween_39 rfl (lv_at hl 1 rfl) ?_
        have hf_22 : f (ad 25 0) = .inl (cs 2, 12, .inr (.inr (.inr (.inr (gl ad 27 12))))) := hT.get (hT.kf (k := 25) (by decide))
        obtain ⟨q_23, hq_23⟩ := pl_at (X := []) (f := f) (e := .inl (cs 2, 12, .inr (.inr (.inr (.inr (gl ad 27 12)))))) (hT.kf (k := 25) (by decide)).1 hf_22
        refine va_aldg hx hb hK hP q_23 2 hq_23 rfl (vp_in_nI (by omega) (by omega)) (show gl ad 27 12 (nI u_7).toNatClampNeg = some (ad 27 u_7) from by rw [(nI_clamp (by omega))]; exact gl_p (by omega)) dX3_timeBetween_40 ?_
        refine lv_iload_n hx hb dX3_timeBetween_41 rfl (lv_at hl 2 rfl) ?_
        have hf_24 : f (ad 27 u_7) = .inl (cs 0, 12, .inl (S 432 u_7)) := hT.get (hT.k27 (i := u_7) (by omega))
        obtain ⟨q_25, hq_25⟩ := pl_at (X := []) (f := f) (e := .inl (cs 0, 12, .inl (S 432 u_7))) (hT.k27 (i := u_7) (by omega)).1 hf_24
        refine va_iald hx hb hK hP q_25 0 hq_25 rfl (vp_in_nI (by omega) (by omega)) dX3_timeBetween_42 ?_
        refine lv_topi (fun v_26 ev_26 => ?_)
        obtain rfl : v_26 = S 432 u_7 u_10 := ev_26.trans (by rw [(nI_clamp (by omega))])
        refine lv_iadd hx hb dX3_timeBetween_43 ?_
        exact W.iret (v := (S 416 u_7 u_10) + (S 432 u_7 u_10)) hx hb hr (fun t9 ht hW => ⟨_, rfl, (by unfold tmG; rw [if_neg c_2, if_neg c_4]; rw [nI_clamp (by omega), nI_clamp (by omega)]; unfold tmN; rw [if_neg c_14]), ht⟩) (fun q h => nomatch h) dX3_timeBetween_44
      · refine lv_iconst (v := (-1)) hx hb dX3_timeBetween_25 (by decide) ?_
        exact W.iret (v := (-1)) hx hb hr (fun t9 ht hW => ⟨_, rfl, (by unfold tmG; rw [if_neg c_2, if_neg c_4]; rw [nI_clamp (by omega), nI_clamp (by omega)]; unfold tmN; rw [if_pos c_14]), ht⟩) (fun q h => nomatch h) dX3_timeBetween_26

set_option maxHeartbeats 4000000 in
set_option maxRecDepth 100000 in
theorem e_X3_setSnow (l : Launch) (dC : Nat → ClassId) (dI : Nat → Nat → Nat) (cs : Nat → ClassId) (L : List Nat) (ka : Nat → Nat) (ix : Nat → Nat) (ad : Nat → Nat → Nat) (n0 : Nat) (n6 : Nat) (n2 : Nat) (S : Nat → Nat → Nat → Int32) (f : Nat → va_E) (h0 : Nat) (u9 : Nat) (v9 : Nat) (p2 : Int32) (sz : Nat) (hT : tB L ka ix ad cs n0 n6 n2 S f) (hk_h0 : tpx L ka ix 3 0 h0) (hu9 : u9 < 12) (hv9 : v9 < 12) : Met l yX3_setSnow wsX3_setSnow ({ frames := 1, cells := 0, slots := 0, locals := 20 }) (va_Pc [.ref h0, .int (nI u9), .int (nI v9), .int p2] (cP dC dI ([] ++ va_pl L f) (tyC cs) sz)) (va_Qv (fun (_ : Unit) => True) (fun (_ : Unit) t9 => ∃ (S2 : Nat → Nat → Nat → Int32) (f2 : Nat → va_E), (tB L ka ix ad cs n0 n6 n2 S2 f2) ∧ (S2 = up3 (up3 S 432 u9 v9 p2) 432 v9 u9 p2) ∧ cQ dC dI ([] ++ va_pl L f2) [] (va_A ([] ++ va_pl L f) sz) t9) (va_A ([] ++ va_pl L f) sz)) 0 0 (va_A ([] ++ va_pl L f) sz) := by
  refine Met.ofW (cc := cX3_setSnow) (maxL := 4) (ret := none) (by decide) rfl ?_
  intro p e s m args below meth c s₁ B hml hv
  obtain ⟨rfl, hsz, hP, hK, hD0, hN⟩ := hv
  have hx := B.exec
  have hb := B.bytes
  have hr := B.returns
  have hts := atoms_spec (ws := wsX3_setSnow) B.pre
  have hown : s.vm.findClass RX3 = some m.cls := findClass_of_methodNamed B.named
  have hlocks := B.notSynchronized
  subst hsz
  have hin3 : ∀ w ∈ u_ws RX3 TX3 5, w ∈ wsX3_setSnow := by decide +kernel
  have hD := hD0.self (sz := s.heap.size)
  generalize hAe : va_A ([] ++ va_pl L f) s.heap.size = A at hD ⊢
  have hA : ∀ q : Nat, s.heap.size ≤ q → A q := fun q h => by rw [← hAe]; exact Or.inr h
  have hS : va_S A s.heap s.heap [] := va_S.rf
  have hP : va_P (dC, dI) vwCl ([] ++ va_pl L f) s.heap := hP
  have hl := lv_entry ([.ref h0, .int (nI u9), .int (nI v9), .int p2]) (n := 4) (Nat.le_of_ble_eq_true rfl)
  rw [lg_entry_eq]
  generalize (lg_sl ([.ref h0, .int (nI u9), .int (nI v9), .int p2]) ++ List.replicate (4 - (lg_sl ([.ref h0, .int (nI u9), .int (nI v9), .int p2])).length) Slot.unset).toArray = ls at hl ⊢
  have hl : lv_has ls 4 [(0, .ref h0), (1, .int (nI u9)), (2, .int (nI v9)), (3, .int p2)] := hl
  refine lv_iload_n hx hb dX3_setSnow_0 rfl (lv_at hl 1 rfl) ?_
  have hPc := hP.sub (ws' := []) [] rfl
  have hDc := hD.sub (ws' := []) [] (by decide) rfl
  have hKc := hK.sub (tys' := []) [] rfl
  refine cs_i (va_runSN (As := [.int (nI u9)]) (rest := []) ⟨hx, hb, hml, hown, hts⟩ (c_X8_isStation l dC dI (nI u9) s.heap.size) ⟨va_cnB 1 hts ggX3_setSnow_X8_isStation rfl rfl rfl (hN.1 (.methodLinkNest RX3 30 yX8_isStation "YamRiders") (by decide +kernel)) (hts (.initialized RX8) (by decide +kernel)) (by decide +kernel) ⟨Nat.le_of_ble_eq_true rfl, Nat.le_of_ble_eq_true rfl⟩, hts (.static yX8_isStation) (by decide +kernel), trivial⟩ ⟨c_blind, c_pre hPc hKc hDc hN⟩ rfl rfl hl.1 rfl (lv_room (Nat.le_of_ble_eq_true rfl)) dX3_setSnow_1 ⟨Nat.le_of_ble_eq_true rfl, Nat.le_of_ble_eq_true rfl⟩) (fun r_1 hr_1 => ?_)
  subst hr_1
  refine lv_if_eq (tgt := 32) hx hb dX3_setSnow_4 (by decide) (fun c_2 => by first | exact absurd c_2 (st_nz (by omega)) | exact absurd (st_nz (by omega)) c_2) (fun _ => ?_)
  refine lv_iload_n hx hb dX3_setSnow_7 rfl (lv_at hl 2 rfl) ?_
  have hPc := hP.sub (ws' := []) [] rfl
  have hDc := hD.sub (ws' := []) [] (by decide) rfl
  have hKc := hK.sub (tys' := []) [] rfl
  refine cs_i (va_runSN (As := [.int (nI v9)]) (rest := []) ⟨hx, hb, hml, hown, hts⟩ (c_X8_isStation l dC dI (nI v9) s.heap.size) ⟨va_cnB 1 hts ggX3_setSnow_X8_isStation rfl rfl rfl (hN.1 (.methodLinkNest RX3 30 yX8_isStation "YamRiders") (by decide +kernel)) (hts (.initialized RX8) (by decide +kernel)) (by decide +kernel) ⟨Nat.le_of_ble_eq_true rfl, Nat.le_of_ble_eq_true rfl⟩, hts (.static yX8_isStation) (by decide +kernel), trivial⟩ ⟨c_blind, c_pre hPc hKc hDc hN⟩ rfl rfl hl.1 rfl (lv_room (Nat.le_of_ble_eq_true rfl)) dX3_setSnow_8 ⟨Nat.le_of_ble_eq_true rfl, Nat.le_of_ble_eq_true rfl⟩) (fun r_3 hr_3 => ?_)
  subst hr_3
  refine lv_if_eq (tgt := 32) hx hb dX3_setSnow_11 (by decide) (fun c_4 => by first | exact absurd c_4 (st_nz (by omega)) | exact absurd (st_nz (by omega)) c_4) (fun _ => ?_)
  refine lv_aload_n hx hb dX3_setSnow_14 rfl (lv_at hl 0 rfl) ?_
  have hf_5 : f h0 = .inr (3, [.ref (ad 24 0), .ref (ad 25 0), .ref (ad 31 0), .ref (ad 32 0), .ref (ad 33 0)]) := hT.get hk_h0
  obtain ⟨q_6, hq_6⟩ := pl_at (X := []) (f := f) (e := .inr (3, [.ref (ad 24 0), .ref (ad 25 0), .ref (ad 31 0), .ref (ad 32 0), .ref (ad 33 0)])) hk_h0.1 hf_5
  refine va_get (D := (dC, dI)) (ci := 3) (v := .ref (ad 25 0)) (C := RX3) (T := TX3) (N := 5) hx hb hts hin3 hown hK hP q_6 hq_6 rfl 1 (by decide) (hts (.fieldLink RX3 16 "YamRiders$Roads" "snowOn" "[[I") (by decide +kernel)) (fun _ h9 => h9) rfl dX3_setSnow_15 ?_
  refine lv_iload_n hx hb dX3_setSnow_18 rfl (lv_at hl 1 rfl) ?_
  have hf_7 : f (ad 25 0) = .inl (cs 2, 12, .inr (.inr (.inr (.inr (gl ad 27 12))))) := hT.get (hT.kf (k := 25) (by decide))
  obtain ⟨q_8, hq_8⟩ := pl_at (X := []) (f := f) (e := .inl (cs 2, 12, .inr (.inr (.inr (.inr (gl ad 27 12)))))) (hT.kf (k := 25) (by decide)).1 hf_7
  refine va_aldg hx hb hK hP q_8 2 hq_8 rfl (vp_in_nI (by omega) (by omega)) (show gl ad 27 12 (nI u9).toNatClampNeg = some (ad 27 u9) from by rw [(nI_clamp (by omega))]; exact gl_p (by omega)) dX3_setSnow_19 ?_
  refine lv_iload_n hx hb dX3_setSnow_20 rfl (lv_at hl 2 rfl) ?_
  refine lv_iload_n hx hb dX3_setSnow_21 rfl (lv_at hl 3 rfl) ?_
  have hf_9 : f (ad 27 u9) = .inl (cs 0, 12, .inl (S 432 u9)) := hT.get (hT.k27 (i := u9) (by omega))
  obtain ⟨q_10, hq_10⟩ := pl_at (X := []) (f := f) (e := .inl (cs 0, 12, .inl (S 432 u9))) (hT.k27 (i := u9) (by omega)).1 hf_9
  refine va_iast hx hb hK hP hD hS q_10 0 hq_10 rfl (vp_in_nI (by omega) (by omega)) dX3_setSnow_22 (fun H locs hP9 hD9 hS => ?_)
  have hs_11 := pl_st (.inl (cs 0, 12, .inl (upd (S 432 u9) (nI v9).toNatClampNeg p2))) hD (hT.k27 (i := u9) (by omega)).1 hf_9 hq_10
  have hP9 : va_P (dC, dI) vwCl ((([] : va_W) ++ va_pl L f).set q_10 ((ad 27 u9), .inl (cs 0, 12, .inl (upd (S 432 u9) (nI v9).toNatClampNeg p2)))) H := hP9
  have hD9 : va_D A ((([] : va_W) ++ va_pl L f).set q_10 ((ad 27 u9), .inl (cs 0, 12, .inl (upd (S 432 u9) (nI v9).toNatClampNeg p2)))) := hD9
  rw [hs_11] at hP9 hD9
  have hT := hT.up (c := 432) (j := v9) (v := p2) (e := .inl (cs 0, 12, .inl (upd (S 432 u9) (nI v9).toNatClampNeg p2))) (hT.k27 (i := u9) (by omega)) rfl (hT.2.2.up (by decide) (by decide) (by decide)) (by simp only [EN]; rw [up3_a, (nI_clamp (by omega))])
  have hP := hP9
  have hD := hD9
  clear hP9 hD9 hs_11
  obtain ⟨S_13, eS_13⟩ : ∃ S9 : Nat → Nat → Nat → Int32, S9 = up3 S 432 u9 v9 p2 := ⟨_, rfl⟩
  rw [← eS_13] at hT
  generalize va_up f (ad 27 u9) (.inl (cs 0, 12, .inl (upd (S 432 u9) (nI v9).toNatClampNeg p2))) = f_12 at hP hD hT
  refine lv_aload_n hx hb dX3_setSnow_23 rfl (lv_at hl 0 rfl) ?_
  have hf_14 : f_12 h0 = .inr (3, [.ref (ad 24 0), .ref (ad 25 0), .ref (ad 31 0), .ref (ad 32 0), .ref (ad 33 0)]) := hT.get hk_h0
  obtain ⟨q_15, hq_15⟩ := pl_at (X := []) (f := f_12) (e := .inr (3, [.ref (ad 24 0), .ref (ad 25 0), .ref (ad 31 0), .ref (ad 32 0), .ref (ad 33 0)])) hk_h0.1 hf_14
  refine va_get (D := (dC, dI)) (ci := 3) (v := .ref (ad 25 0)) (C := RX3) (T := TX3) (N := 5) hx hb hts hin3 hown hK hP q_15 hq_15 rfl 1 (by decide) (hts (.fieldLink RX3 16 "YamRiders$Roads" "snowOn" "[[I") (by decide +kernel)) (fun _ h9 => h9) rfl dX3_setSnow_24 ?_
  refine lv_iload_n hx hb dX3_setSnow_27 rfl (lv_at hl 2 rfl) ?_
  have hf_16 : f_12 (ad 25 0) = .inl (cs 2, 12, .inr (.inr (.inr (.inr (gl ad 27 12))))) := hT.get (hT.kf (k := 25) (by decide))
  obtain ⟨q_17, hq_17⟩ := pl_at (X := []) (f := f_12) (e := .inl (cs 2, 12, .inr (.inr (.inr (.inr (gl ad 27 12)))))) (hT.kf (k := 25) (by decide)).1 hf_16
  refine va_aldg hx hb hK hP q_17 2 hq_17 rfl (vp_in_nI (by omega) (by omega)) (show gl ad 27 12 (nI v9).toNatClampNeg = some (ad 27 v9) from by rw [(nI_clamp (by omega))]; exact gl_p (by omega)) dX3_setSnow_28 ?_
  refine lv_iload_n hx hb dX3_setSnow_29 rfl (lv_at hl 1 rfl) ?_
  refine lv_iload_n hx hb dX3_setSnow_30 rfl (lv_at hl 3 rfl) ?_
  have hf_18 : f_12 (ad 27 v9) = .inl (cs 0, 12, .inl (S_13 432 v9)) := hT.get (hT.k27 (i := v9) (by omega))
  obtain ⟨q_19, hq_19⟩ := pl_at (X := []) (f := f_12) (e := .inl (cs 0, 12, .inl (S_13 432 v9))) (hT.k27 (i := v9) (by omega)).1 hf_18
  refine va_iast hx hb hK hP hD hS q_19 0 hq_19 rfl (vp_in_nI (by omega) (by omega)) dX3_setSnow_31 (fun H locs hP9 hD9 hS => ?_)
  have hs_20 := pl_st (.inl (cs 0, 12, .inl (upd (S_13 432 v9) (nI u9).toNatClampNeg p2))) hD (hT.k27 (i := v9) (by omega)).1 hf_18 hq_19
  have hP9 : va_P (dC, dI) vwCl ((([] : va_W) ++ va_pl L f_12).set q_19 ((ad 27 v9), .inl (cs 0, 12, .inl (upd (S_13 432 v9) (nI u9).toNatClampNeg p2)))) H := hP9
  have hD9 : va_D A ((([] : va_W) ++ va_pl L f_12).set q_19 ((ad 27 v9), .inl (cs 0, 12, .inl (upd (S_13 432 v9) (nI u9).toNatClampNeg p2)))) := hD9
  rw [hs_20] at hP9 hD9
  have hT := hT.up (c := 432) (j := u9) (v := p2) (e := .inl (cs 0, 12, .inl (upd (S_13 432 v9) (nI u9).toNatClampNeg p2))) (hT.k27 (i := v9) (by omega)) rfl (hT.2.2.up (by decide) (by decide) (by decide)) (by simp only [EN]; rw [up3_a, (nI_clamp (by omega))])
  have hP := hP9
  have hD := hD9
  clear hP9 hD9 hs_20
  obtain ⟨S_22, eS_22⟩ : ∃ S9 : Nat → Nat → Nat → Int32, S9 = up3 S_13 432 v9 u9 p2 := ⟨_, rfl⟩
  rw [← eS_22] at hT
  generalize va_up f_12 (ad 27 v9) (.inl (cs 0, 12, .inl (upd (S_13 432 v9) (nI u9).toNatClampNeg p2))) = f_21 at hP hD hT
  have hP9 := hP.part (cx := []) [] rfl
  have hD9 := hD.part (cx := []) [] (by decide) rfl
  have hK9 := hK.sub (tys' := []) [] rfl
  refine W.widen (k := 0) (n := 0) (Nat.le_of_ble_eq_true rfl) (Nat.le_of_ble_eq_true rfl) ?_
  exact W.vret hx hb hr (fun t9 ht hW => ⟨⟨(), rfl, trivial, S_22, f_21, hT, (by rw [eS_22, eS_13]), by rw [ht]; exact hP9, va_K.moved hW.alike hK9, hD9⟩, hS.F ht⟩) hS.2.2 dX3_setSnow_32

set_option maxHeartbeats 4000000 in
set_option maxRecDepth 100000 in
theorem e_X3_lay (l : Launch) (dC : Nat → ClassId) (dI : Nat → Nat → Nat) (cs : Nat → ClassId) (L : List Nat) (ka : Nat → Nat) (ix : Nat → Nat) (ad : Nat → Nat → Nat) (n0 : Nat) (n6 : Nat) (n2 : Nat) (S : Nat → Nat → Nat → Int32) (f : Nat → va_E) (h0 : Nat) (u9 : Nat) (v9 : Nat) (p2 : Int32) (sz : Nat) (hT : tB L ka ix ad cs n0 n6 n2 S f) (hk_h0 : tpx L ka ix 3 0 h0) (hu9 : u9 < 12) (hv9 : v9 < 12) : Met l yX3_lay wsX3_lay ({ frames := 2, cells := 0, slots := 0, locals := 43 }) (va_Pc [.ref h0, .int (nI u9), .int (nI v9), .int p2] (cP dC dI ([] ++ va_pl L f) (tyC cs) sz)) (va_Qv (fun (_ : Unit) => True) (fun (_ : Unit) t9 => ∃ (S2 : Nat → Nat → Nat → Int32) (f2 : Nat → va_E), (tB L ka ix ad cs n0 n6 n2 S2 f2) ∧ (S2 = up3 (up3 (up3 (up3 S 416 u9 v9 p2) 416 v9 u9 p2) 432 u9 v9 0) 432 v9 u9 0) ∧ cQ dC dI ([] ++ va_pl L f2) [] (va_A ([] ++ va_pl L f) sz) t9) (va_A ([] ++ va_pl L f) sz)) 0 0 (va_A ([] ++ va_pl L f) sz) := by
  refine Met.ofW (cc := cX3_lay) (maxL := 4) (ret := none) (by decide) rfl ?_
  intro p e s m args below meth c s₁ B hml hv
  obtain ⟨rfl, hsz, hP, hK, hD0, hN⟩ := hv
  have hx := B.exec
  have hb := B.bytes
  have hr := B.returns
  have hts := atoms_spec (ws := wsX3_lay) B.pre
  have hown : s.vm.findClass RX3 = some m.cls := findClass_of_methodNamed B.named
  have hlocks := B.notSynchronized
  subst hsz
  have hin3 : ∀ w ∈ u_ws RX3 TX3 5, w ∈ wsX3_lay := by decide +kernel
  have hD := hD0.self (sz := s.heap.size)
  generalize hAe : va_A ([] ++ va_pl L f) s.heap.size = A at hD ⊢
  have hA : ∀ q : Nat, s.heap.size ≤ q → A q := fun q h => by rw [← hAe]; exact Or.inr h
  have hS : va_S A s.heap s.heap [] := va_S.rf
  have hP : va_P (dC, dI) vwCl ([] ++ va_pl L f) s.heap := hP
  have hl := lv_entry ([.ref h0, .int (nI u9), .int (nI v9), .int p2]) (n := 4) (Nat.le_of_ble_eq_true rfl)
  rw [lg_entry_eq]
  generalize (lg_sl ([.ref h0, .int (nI u9), .int (nI v9), .int p2]) ++ List.replicate (4 - (lg_sl ([.ref h0, .int (nI u9), .int (nI v9), .int p2])).length) Slot.unset).toArray = ls at hl ⊢
  have hl : lv_has ls 4 [(0, .ref h0), (1, .int (nI u9)), (2, .int (nI v9)), (3, .int p2)] := hl
  refine lv_iload_n hx hb dX3_lay_0 rfl (lv_at hl 1 rfl) ?_
  have hPc := hP.sub (ws' := []) [] rfl
  have hDc := hD.sub (ws' := []) [] (by decide) rfl
  have hKc := hK.sub (tys' := []) [] rfl
  refine cs_i (va_runSN (As := [.int (nI u9)]) (rest := []) ⟨hx, hb, hml, hown, hts⟩ (c_X8_isStation l dC dI (nI u9) s.heap.size) ⟨va_cnB 1 hts ggX3_lay_X8_isStation rfl rfl rfl (hN.1 (.methodLinkNest RX3 30 yX8_isStation "YamRiders") (by decide +kernel)) (hts (.initialized RX8) (by decide +kernel)) (by decide +kernel) ⟨Nat.le_of_ble_eq_true rfl, Nat.le_of_ble_eq_true rfl⟩, hts (.static yX8_isStation) (by decide +kernel), trivial⟩ ⟨c_blind, c_pre hPc hKc hDc hN⟩ rfl rfl hl.1 rfl (lv_room (Nat.le_of_ble_eq_true rfl)) dX3_lay_1 ⟨Nat.le_of_ble_eq_true rfl, Nat.le_of_ble_eq_true rfl⟩) (fun r_1 hr_1 => ?_)
  subst hr_1
  refine lv_if_eq (tgt := 39) hx hb dX3_lay_4 (by decide) (fun c_2 => by first | exact absurd c_2 (st_nz (by omega)) | exact absurd (st_nz (by omega)) c_2) (fun _ => ?_)
  refine lv_iload_n hx hb dX3_lay_7 rfl (lv_at hl 2 rfl) ?_
  have hPc := hP.sub (ws' := []) [] rfl
  have hDc := hD.sub (ws' := []) [] (by decide) rfl
  have hKc := hK.sub (tys' := []) [] rfl
  refine cs_i (va_runSN (As := [.int (nI v9)]) (rest := []) ⟨hx, hb, hml, hown, hts⟩ (c_X8_isStation l dC dI (nI v9) s.heap.size) ⟨va_cnB 1 hts ggX3_lay_X8_isStation rfl rfl rfl (hN.1 (.methodLinkNest RX3 30 yX8_isStation "YamRiders") (by decide +kernel)) (hts (.initialized RX8) (by decide +kernel)) (by decide +kernel) ⟨Nat.le_of_ble_eq_true rfl, Nat.le_of_ble_eq_true rfl⟩, hts (.static yX8_isStation) (by decide +kernel), trivial⟩ ⟨c_blind, c_pre hPc hKc hDc hN⟩ rfl rfl hl.1 rfl (lv_room (Nat.le_of_ble_eq_true rfl)) dX3_lay_8 ⟨Nat.le_of_ble_eq_true rfl, Nat.le_of_ble_eq_true rfl⟩) (fun r_3 hr_3 => ?_)
  subst hr_3
  refine lv_if_eq (tgt := 39) hx hb dX3_lay_11 (by decide) (fun c_4 => by first | exact absurd c_4 (st_nz (by omega)) | exact absurd (st_nz (by omega)) c_4) (fun _ => ?_)
  refine lv_aload_n hx hb dX3_lay_14 rfl (lv_at hl 0 rfl) ?_
  have hf_5 : f h0 = .inr (3, [.ref (ad 24 0), .ref (ad 25 0), .ref (ad 31 0), .ref (ad 32 0), .ref (ad 33 0)]) := hT.get hk_h0
  obtain ⟨q_6, hq_6⟩ := pl_at (X := []) (f := f) (e := .inr (3, [.ref (ad 24 0), .ref (ad 25 0), .ref (ad 31 0), .ref (ad 32 0), .ref (ad 33 0)])) hk_h0.1 hf_5
  refine va_get (D := (dC, dI)) (ci := 3) (v := .ref (ad 24 0)) (C := RX3) (T := TX3) (N := 5) hx hb hts hin3 hown hK hP q_6 hq_6 rfl 0 (by decide) (hts (.fieldLink RX3 11 "YamRiders$Roads" "hoursOf" "[[I") (by decide +kernel)) (fun _ h9 => h9) rfl dX3_lay_15 ?_
  refine lv_iload_n hx hb dX3_lay_18 rfl (lv_at hl 1 rfl) ?_
  have hf_7 : f (ad 24 0) = .inl (cs 2, 12, .inr (.inr (.inr (.inr (gl ad 26 12))))) := hT.get (hT.kf (k := 24) (by decide))
  obtain ⟨q_8, hq_8⟩ := pl_at (X := []) (f := f) (e := .inl (cs 2, 12, .inr (.inr (.inr (.inr (gl ad 26 12)))))) (hT.kf (k := 24) (by decide)).1 hf_7
  refine va_aldg hx hb hK hP q_8 2 hq_8 rfl (vp_in_nI (by omega) (by omega)) (show gl ad 26 12 (nI u9).toNatClampNeg = some (ad 26 u9) from by rw [(nI_clamp (by omega))]; exact gl_p (by omega)) dX3_lay_19 ?_
  refine lv_iload_n hx hb dX3_lay_20 rfl (lv_at hl 2 rfl) ?_
  refine lv_iload_n hx hb dX3_lay_21 rfl (lv_at hl 3 rfl) ?_
  have hf_9 : f (ad 26 u9) = .inl (cs 0, 12, .inl (S 416 u9)) := hT.get (hT.k26 (i := u9) (by omega))
  obtain ⟨q_10, hq_10⟩ := pl_at (X := []) (f := f) (e := .inl (cs 0, 12, .inl (S 416 u9))) (hT.k26 (i := u9) (by omega)).1 hf_9
  refine va_iast hx hb hK hP hD hS q_10 0 hq_10 rfl (vp_in_nI (by omega) (by omega)) dX3_lay_22 (fun H locs hP9 hD9 hS => ?_)
  have hs_11 := pl_st (.inl (cs 0, 12, .inl (upd (S 416 u9) (nI v9).toNatClampNeg p2))) hD (hT.k26 (i := u9) (by omega)).1 hf_9 hq_10
  have hP9 : va_P (dC, dI) vwCl ((([] : va_W) ++ va_pl L f).set q_10 ((ad 26 u9), .inl (cs 0, 12, .inl (upd (S 416 u9) (nI v9).toNatClampNeg p2)))) H := hP9
  have hD9 : va_D A ((([] : va_W) ++ va_pl L f).set q_10 ((ad 26 u9), .inl (cs 0, 12, .inl (upd (S 416 u9) (nI v9).toNatClampNeg p2)))) := hD9
  rw [hs_11] at hP9 hD9
  have hT := hT.up (c := 416) (j := v9) (v := p2) (e := .inl (cs 0, 12, .inl (upd (S 416 u9) (nI v9).toNatClampNeg p2))) (hT.k26 (i := u9) (by omega)) rfl (hT.2.2.up (by decide) (by decide) (by decide)) (by simp only [EN]; rw [up3_a, (nI_clamp (by omega))])
  have hP := hP9
  have hD := hD9
  clear hP9 hD9 hs_11
  obtain ⟨S_13, eS_13⟩ : ∃ S9 : Nat → Nat → Nat → Int32, S9 = up3 S 416 u9 v9 p2 := ⟨_, rfl⟩
  rw [← eS_13] at hT
  generalize va_up f (ad 26 u9) (.inl (cs 0, 12, .inl (upd (S 416 u9) (nI v9).toNatClampNeg p2))) = f_12 at hP hD hT
  refine lv_aload_n hx hb dX3_lay_23 rfl (lv_at hl 0 rfl) ?_
  have hf_14 : f_12 h0 = .inr (3, [.ref (ad 24 0), .ref (ad 25 0), .ref (ad 31 0), .ref (ad 32 0), .ref (ad 33 0)]) := hT.get hk_h0
  obtain ⟨q_15, hq_15⟩ := pl_at (X := []) (f := f_12) (e := .inr (3, [.ref (ad 24 0), .ref (ad 25 0), .ref (ad 31 0), .ref (ad 32 0), .ref (ad 33 0)])) hk_h0.1 hf_14
  refine va_get (D := (dC, dI)) (ci := 3) (v := .ref (ad 24 0)) (C := RX3) (T := TX3) (N := 5) hx hb hts hin3 hown hK hP q_15 hq_15 rfl 0 (by decide) (hts (.fieldLink RX3 11 "YamRiders$Roads" "hoursOf" "[[I") (by decide +kernel)) (fun _ h9 => h9) rfl dX3_lay_24 ?_
  refine lv_iload_n hx hb dX3_lay_27 rfl (lv_at hl 2 rfl) ?_
  have hf_16 : f_12 (ad 24 0) = .inl (cs 2, 12, .inr (.inr (.inr (.inr (gl ad 26 12))))) := hT.get (hT.kf (k := 24) (by decide))
  obtain ⟨q_17, hq_17⟩ := pl_at (X := []) (f := f_12) (e := .inl (cs 2, 12, .inr (.inr (.inr (.inr (gl ad 26 12)))))) (hT.kf (k := 24) (by decide)).1 hf_16
  refine va_aldg hx hb hK hP q_17 2 hq_17 rfl (vp_in_nI (by omega) (by omega)) (show gl ad 26 12 (nI v9).toNatClampNeg = some (ad 26 v9) from by rw [(nI_clamp (by omega))]; exact gl_p (by omega)) dX3_lay_28 ?_
  refine lv_iload_n hx hb dX3_lay_29 rfl (lv_at hl 1 rfl) ?_
  refine lv_iload_n hx hb dX3_lay_30 rfl (lv_at hl 3 rfl) ?_
  have hf_18 : f_12 (ad 26 v9) = .inl (cs 0, 12, .inl (S_13 416 v9)) := hT.get (hT.k26 (i := v9) (by omega))
  obtain ⟨q_19, hq_19⟩ := pl_at (X := []) (f := f_12) (e := .inl (cs 0, 12, .inl (S_13 416 v9))) (hT.k26 (i := v9) (by omega)).1 hf_18
  refine va_iast hx hb hK hP hD hS q_19 0 hq_19 rfl (vp_in_nI (by omega) (by omega)) dX3_lay_31 (fun H locs hP9 hD9 hS => ?_)
  have hs_20 := pl_st (.inl (cs 0, 12, .inl (upd (S_13 416 v9) (nI u9).toNatClampNeg p2))) hD (hT.k26 (i := v9) (by omega)).1 hf_18 hq_19
  have hP9 : va_P (dC, dI) vwCl ((([] : va_W) ++ va_pl L f_12).set q_19 ((ad 26 v9), .inl (cs 0, 12, .inl (upd (S_13 416 v9) (nI u9).toNatClampNeg p2)))) H := hP9
  have hD9 : va_D A ((([] : va_W) ++ va_pl L f_12).set q_19 ((ad 26 v9), .inl (cs 0, 12, .inl (upd (S_13 416 v9) (nI u9).toNatClampNeg p2)))) := hD9
  rw [hs_20] at hP9 hD9
  have hT := hT.up (c := 416) (j := u9) (v := p2) (e := .inl (cs 0, 12, .inl (upd (S_13 416 v9) (nI u9).toNatClampNeg p2))) (hT.k26 (i := v9) (by omega)) rfl (hT.2.2.up (by decide) (by decide) (by decide)) (by simp only [EN]; rw [up3_a, (nI_clamp (by omega))])
  have hP := hP9
  have hD := hD9
  clear hP9 hD9 hs_20
  obtain ⟨S_22, eS_22⟩ : ∃ S9 : Nat → Nat → Nat → Int32, S9 = up3 S_13 416 v9 u9 p2 := ⟨_, rfl⟩
  rw [← eS_22] at hT
  generalize va_up f_12 (ad 26 v9) (.inl (cs 0, 12, .inl (upd (S_13 416 v9) (nI u9).toNatClampNeg p2))) = f_21 at hP hD hT
  refine lv_aload_n hx hb dX3_lay_32 rfl (lv_at hl 0 rfl) ?_
  refine lv_iload_n hx hb dX3_lay_33 rfl (lv_at hl 1 rfl) ?_
  refine lv_iload_n hx hb dX3_lay_34 rfl (lv_at hl 2 rfl) ?_
  refine lv_iconst (v := 0) hx hb dX3_lay_35 (by decide) ?_
  have hPc := hP.part (cx := []) [] rfl
  have hDc := hD.part (cx := []) [] (by decide) rfl
  have hKc := hK
  have hFc := va_freeP (cx := []) hD hS hA [] rfl
  have hf_23 : f_21 h0 = .inr (3, [.ref (ad 24 0), .ref (ad 25 0), .ref (ad 31 0), .ref (ad 32 0), .ref (ad 33 0)]) := hT.get hk_h0
  obtain ⟨q_24, hq_24⟩ := pl_at (X := []) (f := f_21) (e := .inr (3, [.ref (ad 24 0), .ref (ad 25 0), .ref (ad 31 0), .ref (ad 32 0), .ref (ad 33 0)])) hk_h0.1 hf_23
  refine va_callv (va_runV (As := [.int (nI u9), .int (nI v9), .int 0]) (rest := []) ⟨hx, hb, hml, hown, hts⟩ (e_X3_setSnow l dC dI cs L ka ix ad n0 n6 n2 S_22 f_21 h0 u9 v9 0 H.size hT hk_h0 (by omega) (by omega)) (cwV 3 hts gX3_lay_X3_setSnow rfl rfl rfl (by decide +kernel) ⟨Nat.le_of_ble_eq_true rfl, Nat.le_of_ble_eq_true rfl⟩) ⟨c_blind, va_recv hKc hPc (ci := 3) (q0 := q_24) rfl hq_24, c_pre hPc hKc hDc hN⟩ rfl rfl hl.1 rfl (lv_room (Nat.le_of_ble_eq_true rfl)) dX3_lay_36 ⟨Nat.le_of_ble_eq_true rfl, Nat.le_of_ble_eq_true rfl⟩) hS (fun q _ h => hFc q h) hFc (fun u9 t9 H1 locs ht hvm hw hB hz1 hk1 hS => ?_)
  obtain ⟨S_26, f_27, hf_x_28, hf_x_29, hP1, hK1, hD1⟩ := hB
  rw [ht] at hP1
  have hK1 := va_K.moved hvm.symm hK1
  obtain ⟨hP, hD⟩ := va_joinP (X := []) (cx := []) (wr := []) (rx := []) (pl := va_pl L f_21) (pl1 := va_pl L f_27) hP hD [] [] rfl rfl (by decide) (by decide) hk1 hFc hP1 hD1
  have hT := hf_x_28
  generalize H1 = H at hP hS ⊢
  have hP : va_P (dC, dI) vwCl ([] ++ va_pl L f_27) H := hP
  have hD : va_D A ([] ++ va_pl L f_27) := hD
  refine W.widen (k := 0) (n := 0) (Nat.le_of_ble_eq_true rfl) (Nat.le_of_ble_eq_true rfl) ?_
  have hP9 := hP.part (cx := []) [] rfl
  have hD9 := hD.part (cx := []) [] (by decide) rfl
  have hK9 := hK.sub (tys' := []) [] rfl
  refine W.widen (k := 0) (n := 0) (Nat.le_of_ble_eq_true rfl) (Nat.le_of_ble_eq_true rfl) ?_
  exact W.vret hx hb hr (fun t9 ht hW => ⟨⟨(), rfl, trivial, S_26, f_27, hT, (by rw [hf_x_29, eS_22, eS_13]), by rw [ht]; exact hP9, va_K.moved hW.alike hK9, hD9⟩, hS.F ht⟩) hS.2.2 dX3_lay_39
