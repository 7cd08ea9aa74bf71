set_option maxHeartbeats 4000000 in
set_option maxRecDepth 100000 in
theorem e_X3_stepFrom (l : Launch) (dC : Nat → ClassId) (dI : Nat → Nat → Nat) (cs : Nat → ClassId) (L : List Nat) (ka : Nat → Nat) (ix : Nat → Nat) (ad : Nat → Nat → Nat) (n0 : Nat) (n6 : Nat) (n2 : Nat) (S : Nat → Nat → Nat → Int32) (f : Nat → va_E) (h0 : Nat) (u9 : Nat) (sz : Nat) (hT : tB L ka ix ad cs n0 n6 n2 S f) (hk_h0 : tpx L ka ix 3 0 h0) (hu9 : u9 < 12) : Met l yX3_stepFrom wsX3_stepFrom ({ frames := 2, cells := 0, slots := 0, locals := 42 }) (va_Pc [.ref h0, .int (nI u9)] (cP dC dI ([] ++ va_pl L f) (tyC cs) sz)) (vp_Si (fun r => STP S u9 r)) 0 0 (fun _ => False) := by
  refine Met.ofW (cc := cX3_stepFrom) (maxL := 4) (ret := (some .int)) (by decide) rfl ?_
  intro p e s m args below meth c s₁ B hml hv
  obtain ⟨rfl, hsz, hP, hK, hD0, hN⟩ := hv
  have hx := B.exec
  have hb := B.bytes
  have hr := B.returns
  have hts := atoms_spec (ws := wsX3_stepFrom) B.pre
  have hown : s.vm.findClass RX3 = some m.cls := findClass_of_methodNamed B.named
  have hlocks := B.notSynchronized
  subst hsz
  have hin3 : ∀ w ∈ u_ws RX3 TX3 5, w ∈ wsX3_stepFrom := by decide +kernel
  have hD := hD0
  have hP : va_P (dC, dI) vwCl ([] ++ va_pl L f) s.heap := hP
  have hl := lv_entry ([.ref h0, .int (nI u9)]) (n := 4) (Nat.le_of_ble_eq_true rfl)
  rw [lg_entry_eq]
  generalize (lg_sl ([.ref h0, .int (nI u9)]) ++ List.replicate (4 - (lg_sl ([.ref h0, .int (nI u9)])).length) Slot.unset).toArray = ls at hl ⊢
  have hl : lv_has ls 4 [(0, .ref h0), (1, .int (nI u9))] := hl
  refine lv_iload_n hx hb dX3_stepFrom_0 rfl (lv_at hl 1 rfl) ?_
  have hPc := hP.sub (ws' := []) [] rfl
  have hDc := hD.sub (ws' := []) [] (by decide) rfl
  have hKc := hK.sub (tys' := []) [] rfl
  refine cs_i (va_runSN (As := [.int (nI u9)]) (rest := []) ⟨hx, hb, hml, hown, hts⟩ (c_X8_isStation l dC dI (nI u9) s.heap.size) ⟨va_cnB 1 hts ggX3_stepFrom_X8_isStation rfl rfl rfl (hN.1 (.methodLinkNest RX3 30 yX8_isStation "YamRiders") (by decide +kernel)) (hts (.initialized RX8) (by decide +kernel)) (by decide +kernel) ⟨Nat.le_of_ble_eq_true rfl, Nat.le_of_ble_eq_true rfl⟩, hts (.static yX8_isStation) (by decide +kernel), trivial⟩ ⟨c_blind, c_pre hPc hKc hDc hN⟩ rfl rfl hl.1 rfl (lv_room (Nat.le_of_ble_eq_true rfl)) dX3_stepFrom_1 ⟨Nat.le_of_ble_eq_true rfl, Nat.le_of_ble_eq_true rfl⟩) (fun r_1 hr_1 => ?_)
  subst hr_1
  refine lv_if_eq (tgt := 52) hx hb dX3_stepFrom_4 (by decide) (fun c_2 => by first | exact absurd c_2 (st_nz (by omega)) | exact absurd (st_nz (by omega)) c_2) (fun _ => ?_)
  refine lv_iconst (v := 0) hx hb dX3_stepFrom_7 (by decide) ?_
  refine lv_istore_n (lv' := [(2, .int 0), (0, .ref h0), (1, .int (nI u9))]) hx hb dX3_stepFrom_8 rfl hl (by decide) rfl (fun ls hl => ?_)
  have HL : ∀ (n k : Nat), k ≤ 12 → 12 + 1 ≤ k + n → (∀ z, z < k → ¬ NC S (S 496 0) u9 z) → ∀ ls : Array Slot, lv_has ls 4 [(0, .ref h0), (1, .int (nI u9)), (2, .int (nI k))] → W p l e (headSpec wsX3_stepFrom ({ frames := 2, cells := 0, slots := 0, locals := 42 })).room s m ([.ref h0, .int (nI u9)]).toArray below meth c s.heap [] 0 0 (MQ below (vp_Si (fun r => STP S u9 r)) ([.ref h0, .int (nI u9)]).toArray s 0 0 (fun _ => False)) (F0 m 9 ls []) := by
    intro n
    induction n with
    | zero => intro k h1 h2; exact absurd h2 (by omega)
    | succ n ih =>
      intro k hk hn hNC ls hl
      refine lv_iload_n hx hb dX3_stepFrom_9 rfl (lv_at hl 2 rfl) ?_
      refine lv_bipush (v := 12) hx hb dX3_stepFrom_10 (by decide) ?_
      refine lv_icmp_ge (tgt := 52) hx hb dX3_stepFrom_12 (by decide) (fun c_3 => ?_) (fun c_3 => ?_)
      · have hke : k = 12 := by
          rcases Nat.lt_or_ge k 12 with q | q
          · exact absurd c_3 (nI_ge q (by decide))
          · omega
        refine lv_iload_n hx hb dX3_stepFrom_52 rfl (lv_at hl 1 rfl) ?_
        exact W.iret (v := nI u9) hx hb hr (fun t9 ht hW => ⟨_, rfl, (Or.inr ⟨rfl, fun v hv => hNC v (by omega)⟩), ht⟩) (fun q h => nomatch h) dX3_stepFrom_53
      · have hlt : k < 12 := by
          rcases Nat.lt_or_ge k 12 with q | q
          · exact q
          · exact absurd (show nI 12 ≤ nI k from nI_le q (by omega)) c_3
        refine lv_aload_n hx hb dX3_stepFrom_15 rfl (lv_at hl 0 rfl) ?_
        refine lv_iload_n hx hb dX3_stepFrom_16 rfl (lv_at hl 1 rfl) ?_
        refine lv_iload_n hx hb dX3_stepFrom_17 rfl (lv_at hl 2 rfl) ?_
        have hPc := hP.part (cx := []) [] rfl
        have hDc := hD.part (cx := []) [] (by decide) rfl
        have hKc := hK
        have hf_4 : f h0 = .inr (3, [.ref (ad 24 0), .ref (ad 25 0), .ref (ad 31 0), .ref (ad 32 0), .ref (ad 33 0)]) := hT.get hk_h0
        obtain ⟨q_5, hq_5⟩ := pl_at (X := []) (f := f) (e := .inr (3, [.ref (ad 24 0), .ref (ad 25 0), .ref (ad 31 0), .ref (ad 32 0), .ref (ad 33 0)])) hk_h0.1 hf_4
        refine cs_i (va_runV (As := [.int (nI u9), .int (nI k)]) (rest := []) ⟨hx, hb, hml, hown, hts⟩ (e_X3_timeN l dC dI cs L ka ix ad n0 n6 n2 S f h0 u9 k s.heap.size hT hk_h0 (by omega) (by omega)) (cwV 2 hts gX3_stepFrom_X3_timeBetween rfl rfl rfl (by decide +kernel) ⟨Nat.le_of_ble_eq_true rfl, Nat.le_of_ble_eq_true rfl⟩) ⟨c_blind, va_recv hKc hPc (ci := 3) (q0 := q_5) rfl hq_5, c_pre hPc hKc hDc hN⟩ rfl rfl hl.1 rfl (lv_room (Nat.le_of_ble_eq_true rfl)) dX3_stepFrom_18 ⟨Nat.le_of_ble_eq_true rfl, Nat.le_of_ble_eq_true rfl⟩) (fun r_6 hr_6 => ?_)
        subst hr_6
        refine lv_istore_n (lv' := [(3, .int (tmN S u9 k)), (0, .ref h0), (1, .int (nI u9)), (2, .int (nI k))]) hx hb dX3_stepFrom_21 rfl hl (by decide) rfl (fun ls hl => ?_)
        refine lv_iload_n hx hb dX3_stepFrom_22 rfl (lv_at hl 0 rfl) ?_
        refine lv_iconst (v := (-1)) hx hb dX3_stepFrom_23 (by decide) ?_
        refine lv_icmp_eq (tgt := 46) hx hb dX3_stepFrom_24 (by decide) (fun c_7 => ?_) (fun c_7 => ?_)
        · refine lv_iinc (v := nI (k + 1)) (lv' := [(2, .int (nI (k + 1))), (3, .int (tmN S u9 k)), (0, .ref h0), (1, .int (nI u9))]) hx hb dX3_stepFrom_46 hl (k := 3) rfl (by exact (nI_1 k)) (by decide) rfl (fun ls hl => ?_)
          refine lv_goto (tgt := 9) hx hb dX3_stepFrom_49 (by decide) ?_
          exact ih (k + 1) (by omega) (by omega) (NC_s hNC (fun w => w.1 c_7)) ls (lv_sub hl [2, 3, 0] rfl)
        · refine lv_aload_n hx hb dX3_stepFrom_27 rfl (lv_at hl 1 rfl) ?_
          obtain ⟨q_8, hq_8⟩ := pl_at (X := []) (f := f) (e := .inr (3, [.ref (ad 24 0), .ref (ad 25 0), .ref (ad 31 0), .ref (ad 32 0), .ref (ad 33 0)])) hk_h0.1 hf_4
          refine va_get (D := (dC, dI)) (ci := 3) (v := .ref (ad 31 0)) (C := RX3) (T := TX3) (N := 5) hx hb hts hin3 hown hK hP q_8 hq_8 rfl 2 (by decide) (hts (.fieldLink RX3 19 "YamRiders$Roads" "toGoal" "[I") (by decide +kernel)) (fun _ h9 => h9) rfl dX3_stepFrom_28 ?_
          refine lv_iload_n hx hb dX3_stepFrom_31 rfl (lv_at hl 3 rfl) ?_
          have hf_9 : f (ad 31 0) = .inl (cs 0, 12, .inl (S 496 0)) := hT.get (hT.kf (k := 31) (by decide))
          obtain ⟨q_10, hq_10⟩ := pl_at (X := []) (f := f) (e := .inl (cs 0, 12, .inl (S 496 0))) (hT.kf (k := 31) (by decide)).1 hf_9
          refine va_iald hx hb hK hP q_10 0 hq_10 rfl (vp_in_nI (by omega) (by omega)) dX3_stepFrom_32 ?_
          refine lv_topi (fun v_11 ev_11 => ?_)
          obtain rfl : v_11 = S 496 0 k := ev_11.trans (by rw [(nI_clamp (by omega))])
          refine lv_iload_n hx hb dX3_stepFrom_33 rfl (lv_at hl 0 rfl) ?_
          refine lv_iadd hx hb dX3_stepFrom_34 ?_
          refine lv_aload_n hx hb dX3_stepFrom_35 rfl (lv_at hl 1 rfl) ?_
          obtain ⟨q_12, hq_12⟩ := pl_at (X := []) (f := f) (e := .inr (3, [.ref (ad 24 0), .ref (ad 25 0), .ref (ad 31 0), .ref (ad 32 0), .ref (ad 33 0)])) hk_h0.1 hf_4
          refine va_get (D := (dC, dI)) (ci := 3) (v := .ref (ad 31 0)) (C := RX3) (T := TX3) (N := 5) hx hb hts hin3 hown hK hP q_12 hq_12 rfl 2 (by decide) (hts (.fieldLink RX3 19 "YamRiders$Roads" "toGoal" "[I") (by decide +kernel)) (fun _ h9 => h9) rfl dX3_stepFrom_36 ?_
          refine lv_iload_n hx hb dX3_stepFrom_39 rfl (lv_at hl 2 rfl) ?_
          obtain ⟨q_13, hq_13⟩ := pl_at (X := []) (f := f) (e := .inl (cs 0, 12, .inl (S 496 0))) (hT.kf (k := 31) (by decide)).1 hf_9
          refine va_iald hx hb hK hP q_13 0 hq_13 rfl (vp_in_nI (by omega) (by omega)) dX3_stepFrom_40 ?_
          refine lv_topi (fun v_14 ev_14 => ?_)
          obtain rfl : v_14 = S 496 0 u9 := ev_14.trans (by rw [(nI_clamp (by omega))])
          refine lv_icmp_ne (tgt := 46) hx hb dX3_stepFrom_41 (by decide) (fun c_15 => ?_) (fun c_15 => ?_)
          · refine lv_iinc (v := nI (k + 1)) (lv' := [(2, .int (nI (k + 1))), (3, .int (tmN S u9 k)), (0, .ref h0), (1, .int (nI u9))]) hx hb dX3_stepFrom_46 hl (k := 3) rfl (by exact (nI_1 k)) (by decide) rfl (fun ls hl => ?_)
            refine lv_goto (tgt := 9) hx hb dX3_stepFrom_49 (by decide) ?_
            exact ih (k + 1) (by omega) (by omega) (NC_s hNC (fun w => c_15 w.2)) ls (lv_sub hl [2, 3, 0] rfl)
          · refine lv_iload_n hx hb dX3_stepFrom_44 rfl (lv_at hl 3 rfl) ?_
            exact W.iret (v := nI k) hx hb hr (fun t9 ht hW => ⟨_, rfl, (Or.inl ⟨k, by omega, rfl, ⟨c_7, c_15⟩, hNC⟩), ht⟩) (fun q h => nomatch h) dX3_stepFrom_45
  exact HL 13 0 (by omega) (by omega) (fun _ w => absurd w (Nat.not_lt_zero _)) ls (lv_sub hl [1, 2, 0] rfl)

set_option maxHeartbeats 4000000 in
set_option maxRecDepth 100000 in
theorem e_X3_nearest (l : Launch) (dC : Nat → ClassId) (dI : Nat → Nat → Nat) (cs : Nat → ClassId) (L : List Nat) (ka : Nat → Nat) (ix : Nat → Nat) (ad : Nat → Nat → Nat) (n0 : Nat) (n6 : Nat) (n2 : Nat) (S : Nat → Nat → Nat → Int32) (f : Nat → va_E) (h0 : Nat) (sz : Nat) (hT : tB L ka ix ad cs n0 n6 n2 S f) (hk_h0 : tpx L ka ix 3 0 h0) : Met l yX3_nearestUnsettled wsX3_nearestUnsettled ({ frames := 0, cells := 0, slots := 0, locals := 0 }) (va_Pc [.ref h0] (cP dC dI ([] ++ va_pl L f) (tyC cs) sz)) (vp_Si (fun r => NUr (S 496 0) (S 512 0) r)) 0 0 (fun _ => False) := by
  refine Met.ofW (cc := cX3_nearestUnsettled) (maxL := 4) (ret := (some .int)) (by decide) rfl ?_
  intro p e s m args below meth c s₁ B hml hv
  obtain ⟨rfl, hsz, hP, hK, hD0, hN⟩ := hv
  have hx := B.exec
  have hb := B.bytes
  have hr := B.returns
  have hts := atoms_spec (ws := wsX3_nearestUnsettled) B.pre
  have hown : s.vm.findClass RX3 = some m.cls := findClass_of_methodNamed B.named
  have hlocks := B.notSynchronized
  subst hsz
  have hin3 : ∀ w ∈ u_ws RX3 TX3 5, w ∈ wsX3_nearestUnsettled := by decide +kernel
  have hD := hD0
  have hP : va_P (dC, dI) vwCl ([] ++ va_pl L f) s.heap := hP
  have hl := lv_entry ([.ref h0]) (n := 4) (Nat.le_of_ble_eq_true rfl)
  rw [lg_entry_eq]
  generalize (lg_sl ([.ref h0]) ++ List.replicate (4 - (lg_sl ([.ref h0])).length) Slot.unset).toArray = ls at hl ⊢
  have hl : lv_has ls 4 [(0, .ref h0)] := hl
  refine lv_iconst (v := (-1)) hx hb dX3_nearestUnsettled_0 (by decide) ?_
  refine lv_istore_n (lv' := [(1, .int (-1)), (0, .ref h0)]) hx hb dX3_nearestUnsettled_1 rfl hl (by decide) rfl (fun ls hl => ?_)
  refine lv_ldc (v := 1000000) hx hb hown (hts (.constant RX3 42 (1000000)) (by decide +kernel)) dX3_nearestUnsettled_2 ?_
  refine lv_istore_n (lv' := [(2, .int 1000000), (1, .int (-1)), (0, .ref h0)]) hx hb dX3_nearestUnsettled_4 rfl hl (by decide) rfl (fun ls hl => ?_)
  refine lv_iconst (v := 0) hx hb dX3_nearestUnsettled_5 (by decide) ?_
  refine lv_istore_n (lv' := [(3, .int 0), (2, .int 1000000), (1, .int (-1)), (0, .ref h0)]) hx hb dX3_nearestUnsettled_6 rfl hl (by decide) rfl (fun ls hl => ?_)
  have HL : ∀ (n k : Nat) (x1 : Int32) (x2 : Int32), k ≤ 12 → 12 + 1 ≤ k + n → (NUk (S 496 0) (S 512 0) k x1 x2) → ∀ ls : Array Slot, lv_has ls 4 [(0, .ref h0), (1, .int x1), (2, .int x2), (3, .int (nI k))] → W p l e (headSpec wsX3_nearestUnsettled ({ frames := 0, cells := 0, slots := 0, locals := 0 })).room s m ([.ref h0]).toArray below meth c s.heap [] 0 0 (MQ below (vp_Si (fun r => NUr (S 496 0) (S 512 0) r)) ([.ref h0]).toArray s 0 0 (fun _ => False)) (F0 m 7 ls []) := by
    intro n
    induction n with
    | zero => intro k x1 x2 h1 h2; exact absurd h2 (by omega)
    | succ n ih =>
      intro k x1 x2 hk hn hNU ls hl
      refine lv_iload_n hx hb dX3_nearestUnsettled_7 rfl (lv_at hl 3 rfl) ?_
      refine lv_bipush (v := 12) hx hb dX3_nearestUnsettled_8 (by decide) ?_
      refine lv_icmp_ge (tgt := 47) hx hb dX3_nearestUnsettled_10 (by decide) (fun c_1 => ?_) (fun c_1 => ?_)
      · have hke : k = 12 := by
          rcases Nat.lt_or_ge k 12 with q | q
          · exact absurd c_1 (nI_ge q (by decide))
          · omega
        refine lv_iload_n hx hb dX3_nearestUnsettled_47 rfl (lv_at hl 1 rfl) ?_
        exact W.iret (v := x1) hx hb hr (fun t9 ht hW => ⟨_, rfl, (NUk_e (hke ▸ hNU)), ht⟩) (fun q h => nomatch h) dX3_nearestUnsettled_48
      · have hlt : k < 12 := by
          rcases Nat.lt_or_ge k 12 with q | q
          · exact q
          · exact absurd (show nI 12 ≤ nI k from nI_le q (by omega)) c_1
        refine lv_aload_n hx hb dX3_nearestUnsettled_13 rfl (lv_at hl 0 rfl) ?_
        have hf_2 : f h0 = .inr (3, [.ref (ad 24 0), .ref (ad 25 0), .ref (ad 31 0), .ref (ad 32 0), .ref (ad 33 0)]) := hT.get hk_h0
        obtain ⟨q_3, hq_3⟩ := pl_at (X := []) (f := f) (e := .inr (3, [.ref (ad 24 0), .ref (ad 25 0), .ref (ad 31 0), .ref (ad 32 0), .ref (ad 33 0)])) hk_h0.1 hf_2
        refine va_get (D := (dC, dI)) (ci := 3) (v := .ref (ad 32 0)) (C := RX3) (T := TX3) (N := 5) hx hb hts hin3 hown hK hP q_3 hq_3 rfl 3 (by decide) (hts (.fieldLink RX3 23 "YamRiders$Roads" "settled" "[Z") (by decide +kernel)) (fun _ h9 => h9) rfl dX3_nearestUnsettled_14 ?_
        refine lv_iload_n hx hb dX3_nearestUnsettled_17 rfl (lv_at hl 3 rfl) ?_
        have hf_4 : f (ad 32 0) = .inl (cs 1, 12, .inl (S 512 0)) := hT.get (hT.kf (k := 32) (by decide))
        obtain ⟨q_5, hq_5⟩ := pl_at (X := []) (f := f) (e := .inl (cs 1, 12, .inl (S 512 0))) (hT.kf (k := 32) (by decide)).1 hf_4
        refine va_zald hx hb hK hP q_5 1 hq_5 rfl (vp_in_nI (by omega) (by omega)) dX3_nearestUnsettled_18 ?_
        refine lv_topi (fun v_6 ev_6 => ?_)
        obtain rfl : v_6 = S 512 0 k := ev_6.trans (by rw [(nI_clamp (by omega))])
        refine lv_if_ne (tgt := 41) hx hb dX3_nearestUnsettled_19 (by decide) (fun c_7 => ?_) (fun c_7 => ?_)
        · refine lv_iinc (v := nI (k + 1)) (lv' := [(3, .int (nI (k + 1))), (0, .ref h0), (1, .int x1), (2, .int x2)]) hx hb dX3_nearestUnsettled_41 hl (k := 3) rfl (by exact (nI_1 k)) (by decide) rfl (fun ls hl => ?_)
          refine lv_goto (tgt := 7) hx hb dX3_nearestUnsettled_44 (by decide) ?_
          exact ih (k + 1) x1 x2 (by omega) (by omega) (NUk_s hNU c_7) ls (lv_sub hl [1, 2, 3, 0] rfl)
        · refine lv_aload_n hx hb dX3_nearestUnsettled_22 rfl (lv_at hl 0 rfl) ?_
          obtain ⟨q_8, hq_8⟩ := pl_at (X := []) (f := f) (e := .inr (3, [.ref (ad 24 0), .ref (ad 25 0), .ref (ad 31 0), .ref (ad 32 0), .ref (ad 33 0)])) hk_h0.1 hf_2
          refine va_get (D := (dC, dI)) (ci := 3) (v := .ref (ad 31 0)) (C := RX3) (T := TX3) (N := 5) hx hb hts hin3 hown hK hP q_8 hq_8 rfl 2 (by decide) (hts (.fieldLink RX3 19 "YamRiders$Roads" "toGoal" "[I") (by decide +kernel)) (fun _ h9 => h9) rfl dX3_nearestUnsettled_23 ?_
          refine lv_iload_n hx hb dX3_nearestUnsettled_26 rfl (lv_at hl 3 rfl) ?_
          have hf_9 : f (ad 31 0) = .inl (cs 0, 12, .inl (S 496 0)) := hT.get (hT.kf (k := 31) (by decide))
          obtain ⟨q_10, hq_10⟩ := pl_at (X := []) (f := f) (e := .inl (cs 0, 12, .inl (S 496 0))) (hT.kf (k := 31) (by decide)).1 hf_9
          refine va_iald hx hb hK hP q_10 0 hq_10 rfl (vp_in_nI (by omega) (by omega)) dX3_nearestUnsettled_27 ?_
          refine lv_topi (fun v_11 ev_11 => ?_)
          obtain rfl : v_11 = S 496 0 k := ev_11.trans (by rw [(nI_clamp (by omega))])
          refine lv_iload_n hx hb dX3_nearestUnsettled_28 rfl (lv_at hl 2 rfl) ?_
          refine lv_icmp_ge (tgt := 41) hx hb dX3_nearestUnsettled_29 (by decide) (fun c_12 => ?_) (fun c_12 => ?_)
          · refine lv_iinc (v := nI (k + 1)) (lv' := [(3, .int (nI (k + 1))), (0, .ref h0), (1, .int x1), (2, .int x2)]) hx hb dX3_nearestUnsettled_41 hl (k := 3) rfl (by exact (nI_1 k)) (by decide) rfl (fun ls hl => ?_)
            refine lv_goto (tgt := 7) hx hb dX3_nearestUnsettled_44 (by decide) ?_
            exact ih (k + 1) x1 x2 (by omega) (by omega) (NUk_n hNU (Int32.not_lt.mpr c_12)) ls (lv_sub hl [1, 2, 3, 0] rfl)
          · refine lv_iload_n hx hb dX3_nearestUnsettled_32 rfl (lv_at hl 3 rfl) ?_
            refine lv_istore_n (lv' := [(1, .int (nI k)), (0, .ref h0), (2, .int x2), (3, .int (nI k))]) hx hb dX3_nearestUnsettled_33 rfl hl (by decide) rfl (fun ls hl => ?_)
            refine lv_aload_n hx hb dX3_nearestUnsettled_34 rfl (lv_at hl 1 rfl) ?_
            obtain ⟨q_13, hq_13⟩ := pl_at (X := []) (f := f) (e := .inr (3, [.ref (ad 24 0), .ref (ad 25 0), .ref (ad 31 0), .ref (ad 32 0), .ref (ad 33 0)])) hk_h0.1 hf_2
            refine va_get (D := (dC, dI)) (ci := 3) (v := .ref (ad 31 0)) (C := RX3) (T := TX3) (N := 5) hx hb hts hin3 hown hK hP q_13 hq_13 rfl 2 (by decide) (hts (.fieldLink RX3 19 "YamRiders$Roads" "toGoal" "[I") (by decide +kernel)) (fun _ h9 => h9) rfl dX3_nearestUnsettled_35 ?_
            refine lv_iload_n hx hb dX3_nearestUnsettled_38 rfl (lv_at hl 3 rfl) ?_
            obtain ⟨q_14, hq_14⟩ := pl_at (X := []) (f := f) (e := .inl (cs 0, 12, .inl (S 496 0))) (hT.kf (k := 31) (by decide)).1 hf_9
            refine va_iald hx hb hK hP q_14 0 hq_14 rfl (vp_in_nI (by omega) (by omega)) dX3_nearestUnsettled_39 ?_
            refine lv_topi (fun v_15 ev_15 => ?_)
            obtain rfl : v_15 = S 496 0 k := ev_15.trans (by rw [(nI_clamp (by omega))])
            refine lv_istore_n (lv' := [(2, .int (S 496 0 k)), (1, .int (nI k)), (0, .ref h0), (3, .int (nI k))]) hx hb dX3_nearestUnsettled_40 rfl hl (by decide) rfl (fun ls hl => ?_)
            refine lv_iinc (v := nI (k + 1)) (lv' := [(3, .int (nI (k + 1))), (2, .int (S 496 0 k)), (1, .int (nI k)), (0, .ref h0)]) hx hb dX3_nearestUnsettled_41 hl (k := 3) rfl (by exact (nI_1 k)) (by decide) rfl (fun ls hl => ?_)
            refine lv_goto (tgt := 7) hx hb dX3_nearestUnsettled_44 (by decide) ?_
            exact ih (k + 1) (nI k) (S 496 0 k) (by omega) (by omega) (NUk_y hNU c_7 (Int32.not_le.mp c_12)) ls (lv_sub hl [3, 2, 1, 0] rfl)
  exact HL 13 0 (-1) 1000000 (by omega) (by omega) NUk_0 ls (lv_sub hl [3, 2, 1, 0] rfl)

set_option maxHeartbeats 4000000 in
set_option maxRecDepth 100000 in
theorem e_X3_settle (l : Launch) (dC : Nat → ClassId) (dI : Nat → Nat → Nat) (cs : Nat → ClassId) (L : List Nat) (ka : Nat → Nat) (ix : Nat → Nat) (ad : Nat → Nat → Nat) (n0 : Nat) (n6 : Nat) (n2 : Nat) (S : Nat → Nat → Nat → Int32) (f : Nat → va_E) (h0 : Nat) (u9 : Nat) (sz : Nat) (hT : tB L ka ix ad cs n0 n6 n2 S f) (hk_h0 : tpx L ka ix 3 0 h0) (hu9 : u9 < 12) (hz9 : S 416 u9 u9 = 0) : Met l yX3_settle wsX3_settle ({ frames := 2, cells := 0, slots := 0, locals := 42 }) (va_Pc [.ref h0, .int (nI u9)] (cP dC dI ([] ++ va_pl L f) (tyC cs) sz)) (va_Qv (fun (_ : Unit) => True) (fun (_ : Unit) t9 => ∃ (S2 : Nat → Nat → Nat → Int32) (f2 : Nat → va_E), (tB L ka ix ad cs n0 n6 n2 S2 f2) ∧ (AG S S2) ∧ (SLk S S2 u9 12) ∧ cQ dC dI ([] ++ va_pl L f2) [] (va_A ([] ++ va_pl L f) sz) t9) (va_A ([] ++ va_pl L f) sz)) 0 0 (va_A ([] ++ va_pl L f) sz) := by
  refine Met.ofW (cc := cX3_settle) (maxL := 4) (ret := none) (by decide) rfl ?_
  intro p e s m args below meth c s₁ B hml hv
  obtain ⟨rfl, hsz, hP, hK, hD0, hN⟩ := hv
  have hx := B.exec
  have hb := B.bytes
  have hr := B.returns
  have hts := atoms_spec (ws := wsX3_settle) B.pre
  have hown : s.vm.findClass RX3 = some m.cls := findClass_of_methodNamed B.named
  have hlocks := B.notSynchronized
  subst hsz
  have hin3 : ∀ w ∈ u_ws RX3 TX3 5, w ∈ wsX3_settle := by decide +kernel
  have hD := hD0.self (sz := s.heap.size)
  generalize hAe : va_A ([] ++ va_pl L f) s.heap.size = A at hD ⊢
  have hA : ∀ q : Nat, s.heap.size ≤ q → A q := fun q h => by rw [← hAe]; exact Or.inr h
  have hS : va_S A s.heap s.heap [] := va_S.rf
  have hP : va_P (dC, dI) vwCl ([] ++ va_pl L f) s.heap := hP
  have hl := lv_entry ([.ref h0, .int (nI u9)]) (n := 4) (Nat.le_of_ble_eq_true rfl)
  rw [lg_entry_eq]
  generalize (lg_sl ([.ref h0, .int (nI u9)]) ++ List.replicate (4 - (lg_sl ([.ref h0, .int (nI u9)])).length) Slot.unset).toArray = ls at hl ⊢
  have hl : lv_has ls 4 [(0, .ref h0), (1, .int (nI u9))] := hl
  refine lv_iload_n hx hb dX3_settle_0 rfl (lv_at hl 1 rfl) ?_
  have hPc := hP.sub (ws' := []) [] rfl
  have hDc := hD.sub (ws' := []) [] (by decide) rfl
  have hKc := hK.sub (tys' := []) [] rfl
  refine cs_i (va_runSN (As := [.int (nI u9)]) (rest := []) ⟨hx, hb, hml, hown, hts⟩ (c_X8_isStation l dC dI (nI u9) s.heap.size) ⟨va_cnB 1 hts ggX3_settle_X8_isStation rfl rfl rfl (hN.1 (.methodLinkNest RX3 30 yX8_isStation "YamRiders") (by decide +kernel)) (hts (.initialized RX8) (by decide +kernel)) (by decide +kernel) ⟨Nat.le_of_ble_eq_true rfl, Nat.le_of_ble_eq_true rfl⟩, hts (.static yX8_isStation) (by decide +kernel), trivial⟩ ⟨c_blind, c_pre hPc hKc hDc hN⟩ rfl rfl hl.1 rfl (lv_room (Nat.le_of_ble_eq_true rfl)) dX3_settle_1 ⟨Nat.le_of_ble_eq_true rfl, Nat.le_of_ble_eq_true rfl⟩) (fun r_1 hr_1 => ?_)
  subst hr_1
  refine lv_if_ne (tgt := 8) hx hb dX3_settle_4 (by decide) (fun _ => ?_) (fun c_2 => by first | exact absurd c_2 (st_nz (by omega)) | exact absurd (st_nz (by omega)) c_2)
  refine lv_aload_n hx hb dX3_settle_8 rfl (lv_at hl 0 rfl) ?_
  have hf_3 : f h0 = .inr (3, [.ref (ad 24 0), .ref (ad 25 0), .ref (ad 31 0), .ref (ad 32 0), .ref (ad 33 0)]) := hT.get hk_h0
  obtain ⟨q_4, hq_4⟩ := pl_at (X := []) (f := f) (e := .inr (3, [.ref (ad 24 0), .ref (ad 25 0), .ref (ad 31 0), .ref (ad 32 0), .ref (ad 33 0)])) hk_h0.1 hf_3
  refine va_get (D := (dC, dI)) (ci := 3) (v := .ref (ad 32 0)) (C := RX3) (T := TX3) (N := 5) hx hb hts hin3 hown hK hP q_4 hq_4 rfl 3 (by decide) (hts (.fieldLink RX3 23 "YamRiders$Roads" "settled" "[Z") (by decide +kernel)) (fun _ h9 => h9) rfl dX3_settle_9 ?_
  refine lv_iload_n hx hb dX3_settle_12 rfl (lv_at hl 1 rfl) ?_
  refine lv_iconst (v := 1) hx hb dX3_settle_13 (by decide) ?_
  have hf_5 : f (ad 32 0) = .inl (cs 1, 12, .inl (S 512 0)) := hT.get (hT.kf (k := 32) (by decide))
  obtain ⟨q_6, hq_6⟩ := pl_at (X := []) (f := f) (e := .inl (cs 1, 12, .inl (S 512 0))) (hT.kf (k := 32) (by decide)).1 hf_5
  refine va_zast hx hb hK hP hD hS q_6 1 hq_6 rfl (vp_in_nI (by omega) (by omega)) dX3_settle_14 (fun H locs hP9 hD9 hS => ?_)
  have hs_7 := pl_st (.inl (cs 1, 12, .inl (upd (S 512 0) (nI u9).toNatClampNeg (vp_nar .boolean 1)))) hD (hT.kf (k := 32) (by decide)).1 hf_5 hq_6
  have hP9 : va_P (dC, dI) vwCl ((([] : va_W) ++ va_pl L f).set q_6 ((ad 32 0), .inl (cs 1, 12, .inl (upd (S 512 0) (nI u9).toNatClampNeg (vp_nar .boolean 1))))) H := hP9
  have hD9 : va_D A ((([] : va_W) ++ va_pl L f).set q_6 ((ad 32 0), .inl (cs 1, 12, .inl (upd (S 512 0) (nI u9).toNatClampNeg (vp_nar .boolean 1))))) := hD9
  rw [hs_7] at hP9 hD9
  have hT := hT.up (c := 512) (j := u9) (v := 1) (e := .inl (cs 1, 12, .inl (upd (S 512 0) (nI u9).toNatClampNeg (vp_nar .boolean 1)))) (hT.kf (k := 32) (by decide)) rfl (hT.2.2.up (by decide) (by decide) (by decide)) (by simp only [EN]; rw [up3_a, (nI_clamp (by omega))]; rfl)
  have hP := hP9
  have hD := hD9
  clear hP9 hD9 hs_7
  obtain ⟨S_9, eS_9⟩ : ∃ S9 : Nat → Nat → Nat → Int32, S9 = up3 S 512 0 u9 1 := ⟨_, rfl⟩
  rw [← eS_9] at hT
  generalize va_up f (ad 32 0) (.inl (cs 1, 12, .inl (upd (S 512 0) (nI u9).toNatClampNeg (vp_nar .boolean 1)))) = f_8 at hP hD hT
  have hFr_10 : AG S S_9 := by rw [eS_9]; exact AG.up AG.rf (by decide)
  refine lv_iconst (v := 0) hx hb dX3_settle_15 (by decide) ?_
  refine lv_istore_n (lv' := [(2, .int 0), (0, .ref h0), (1, .int (nI u9))]) hx hb dX3_settle_16 rfl hl (by decide) rfl (fun ls hl => ?_)
  have HL : ∀ (n k : Nat) (S8 : Nat → Nat → Nat → Int32), k ≤ 12 → 12 + 1 ≤ k + n → (AG S S8) → (SLk S S8 u9 k) → ∀ (f_11 : Nat → va_E) (H : Heap) (locs : List Loc), tB L ka ix ad cs n0 n6 n2 S8 f_11 → va_P (dC, dI) vwCl ([] ++ va_pl L f_11) H → va_D A ([] ++ va_pl L f_11) → va_S A s.heap H locs → ∀ ls : Array Slot, lv_has ls 4 [(0, .ref h0), (1, .int (nI u9)), (2, .int (nI k))] → W p l e (headSpec wsX3_settle ({ frames := 2, cells := 0, slots := 0, locals := 42 })).room s m ([.ref h0, .int (nI u9)]).toArray below meth c H locs 0 0 (MQ below (va_Qv (fun (_ : Unit) => True) (fun (_ : Unit) t9 => ∃ (S2 : Nat → Nat → Nat → Int32) (f2 : Nat → va_E), (tB L ka ix ad cs n0 n6 n2 S2 f2) ∧ (AG S S2) ∧ (SLk S S2 u9 12) ∧ cQ dC dI ([] ++ va_pl L f2) [] A t9) A) ([.ref h0, .int (nI u9)]).toArray s 0 0 A) (F0 m 17 ls []) := by
    intro n
    induction n with
    | zero => intro k S8 h1 h2; exact absurd h2 (by omega)
    | succ n ih =>
      intro k S8 hk hn hFrS8 hSL f_11 H locs hT hP hD hS ls hl
      refine lv_iload_n hx hb dX3_settle_17 rfl (lv_at hl 2 rfl) ?_
      refine lv_bipush (v := 12) hx hb dX3_settle_18 (by decide) ?_
      refine lv_icmp_ge (tgt := 72) hx hb dX3_settle_20 (by decide) (fun c_12 => ?_) (fun c_12 => ?_)
      · have hke : k = 12 := by
          rcases Nat.lt_or_ge k 12 with q | q
          · exact absurd c_12 (nI_ge q (by decide))
          · omega
        have hP9 := hP.part (cx := []) [] rfl
        have hD9 := hD.part (cx := []) [] (by decide) rfl
        have hK9 := hK.sub (tys' := []) [] rfl
        refine W.widen (k := 0) (n := 0) (Nat.le_of_ble_eq_true rfl) (Nat.le_of_ble_eq_true rfl) ?_
        exact W.vret hx hb hr (fun t9 ht hW => ⟨⟨(), rfl, trivial, S8, f_11, hT, hFrS8, (hke ▸ hSL), by rw [ht]; exact hP9, va_K.moved hW.alike hK9, hD9⟩, hS.F ht⟩) hS.2.2 dX3_settle_72
      · have hlt : k < 12 := by
          rcases Nat.lt_or_ge k 12 with q | q
          · exact q
          · exact absurd (show nI 12 ≤ nI k from nI_le q (by omega)) c_12
        refine lv_aload_n hx hb dX3_settle_23 rfl (lv_at hl 0 rfl) ?_
        refine lv_iload_n hx hb dX3_settle_24 rfl (lv_at hl 1 rfl) ?_
        refine lv_iload_n hx hb dX3_settle_25 rfl (lv_at hl 2 rfl) ?_
        have hPc := hP.part (cx := []) [] rfl
        have hDc := hD.part (cx := []) [] (by decide) rfl
        have hKc := hK
        have hf_13 : f_11 h0 = .inr (3, [.ref (ad 24 0), .ref (ad 25 0), .ref (ad 31 0), .ref (ad 32 0), .ref (ad 33 0)]) := hT.get hk_h0
        obtain ⟨q_14, hq_14⟩ := pl_at (X := []) (f := f_11) (e := .inr (3, [.ref (ad 24 0), .ref (ad 25 0), .ref (ad 31 0), .ref (ad 32 0), .ref (ad 33 0)])) hk_h0.1 hf_13
        refine cs_i (va_runV (As := [.int (nI u9), .int (nI k)]) (rest := []) ⟨hx, hb, hml, hown, hts⟩ (e_X3_timeN l dC dI cs L ka ix ad n0 n6 n2 S8 f_11 h0 u9 k H.size hT hk_h0 (by omega) (by omega)) (cwV 2 hts gX3_settle_X3_timeBetween rfl rfl rfl (by decide +kernel) ⟨Nat.le_of_ble_eq_true rfl, Nat.le_of_ble_eq_true rfl⟩) ⟨c_blind, va_recv hKc hPc (ci := 3) (q0 := q_14) rfl hq_14, c_pre hPc hKc hDc hN⟩ rfl rfl hl.1 rfl (lv_room (Nat.le_of_ble_eq_true rfl)) dX3_settle_26 ⟨Nat.le_of_ble_eq_true rfl, Nat.le_of_ble_eq_true rfl⟩) (fun r_15 hr_15 => ?_)
        subst hr_15
        refine lv_istore_n (lv' := [(3, .int (tmN S8 u9 k)), (0, .ref h0), (1, .int (nI u9)), (2, .int (nI k))]) hx hb dX3_settle_29 rfl hl (by decide) rfl (fun ls hl => ?_)
        refine lv_iload_n hx hb dX3_settle_30 rfl (lv_at hl 0 rfl) ?_
        refine lv_iconst (v := (-1)) hx hb dX3_settle_31 (by decide) ?_
        refine lv_icmp_eq (tgt := 66) hx hb dX3_settle_32 (by decide) (fun c_16 => ?_) (fun c_16 => ?_)
        · refine lv_iinc (v := nI (k + 1)) (lv' := [(2, .int (nI (k + 1))), (3, .int (tmN S8 u9 k)), (0, .ref h0), (1, .int (nI u9))]) hx hb dX3_settle_66 hl (k := 3) rfl (by exact (nI_1 k)) (by decide) rfl (fun ls hl => ?_)
          refine lv_goto (tgt := 17) hx hb dX3_settle_69 (by decide) ?_
          exact ih (k + 1) S8 (by omega) (by omega) hFrS8 (SL_1 (AG.fr hFrS8) hSL (by omega) c_16) _ _ _ hT (hP.part (cx := _) [] rfl) (hD.part (cx := _) [] (by decide) rfl) hS ls (lv_sub hl [2, 3, 0] rfl)
        · refine lv_aload_n hx hb dX3_settle_35 rfl (lv_at hl 1 rfl) ?_
          obtain ⟨q_17, hq_17⟩ := pl_at (X := []) (f := f_11) (e := .inr (3, [.ref (ad 24 0), .ref (ad 25 0), .ref (ad 31 0), .ref (ad 32 0), .ref (ad 33 0)])) hk_h0.1 hf_13
          refine va_get (D := (dC, dI)) (ci := 3) (v := .ref (ad 31 0)) (C := RX3) (T := TX3) (N := 5) hx hb hts hin3 hown hK hP q_17 hq_17 rfl 2 (by decide) (hts (.fieldLink RX3 19 "YamRiders$Roads" "toGoal" "[I") (by decide +kernel)) (fun _ h9 => h9) rfl dX3_settle_36 ?_
          refine lv_iload_n hx hb dX3_settle_39 rfl (lv_at hl 2 rfl) ?_
          have hf_18 : f_11 (ad 31 0) = .inl (cs 0, 12, .inl (S8 496 0)) := hT.get (hT.kf (k := 31) (by decide))
          obtain ⟨q_19, hq_19⟩ := pl_at (X := []) (f := f_11) (e := .inl (cs 0, 12, .inl (S8 496 0))) (hT.kf (k := 31) (by decide)).1 hf_18
          refine va_iald hx hb hK hP q_19 0 hq_19 rfl (vp_in_nI (by omega) (by omega)) dX3_settle_40 ?_
          refine lv_topi (fun v_20 ev_20 => ?_)
          obtain rfl : v_20 = S8 496 0 u9 := ev_20.trans (by rw [(nI_clamp (by omega))])
          refine lv_iload_n hx hb dX3_settle_41 rfl (lv_at hl 0 rfl) ?_
          refine lv_iadd hx hb dX3_settle_42 ?_
          refine lv_aload_n hx hb dX3_settle_43 rfl (lv_at hl 1 rfl) ?_
          obtain ⟨q_21, hq_21⟩ := pl_at (X := []) (f := f_11) (e := .inr (3, [.ref (ad 24 0), .ref (ad 25 0), .ref (ad 31 0), .ref (ad 32 0), .ref (ad 33 0)])) hk_h0.1 hf_13
          refine va_get (D := (dC, dI)) (ci := 3) (v := .ref (ad 31 0)) (C := RX3) (T := TX3) (N := 5) hx hb hts hin3 hown hK hP q_21 hq_21 rfl 2 (by decide) (hts (.fieldLink RX3 19 "YamRiders$Roads" "toGoal" "[I") (by decide +kernel)) (fun _ h9 => h9) rfl dX3_settle_44 ?_
          refine lv_iload_n hx hb dX3_settle_47 rfl (lv_at hl 3 rfl) ?_
          obtain ⟨q_22, hq_22⟩ := pl_at (X := []) (f := f_11) (e := .inl (cs 0, 12, .inl (S8 496 0))) (hT.kf (k := 31) (by decide)).1 hf_18
          refine va_iald hx hb hK hP q_22 0 hq_22 rfl (vp_in_nI (by omega) (by omega)) dX3_settle_48 ?_
          refine lv_topi (fun v_23 ev_23 => ?_)
          obtain rfl : v_23 = S8 496 0 k := ev_23.trans (by rw [(nI_clamp (by omega))])
          refine lv_icmp_ge (tgt := 66) hx hb dX3_settle_49 (by decide) (fun c_24 => ?_) (fun c_24 => ?_)
          · refine lv_iinc (v := nI (k + 1)) (lv' := [(2, .int (nI (k + 1))), (3, .int (tmN S8 u9 k)), (0, .ref h0), (1, .int (nI u9))]) hx hb dX3_settle_66 hl (k := 3) rfl (by exact (nI_1 k)) (by decide) rfl (fun ls hl => ?_)
            refine lv_goto (tgt := 17) hx hb dX3_settle_69 (by decide) ?_
            exact ih (k + 1) S8 (by omega) (by omega) hFrS8 (SL_2 (AG.fr hFrS8) hSL hu9 hz9 (by omega) c_16 (Int32.not_lt.mpr c_24)) _ _ _ hT (hP.part (cx := _) [] rfl) (hD.part (cx := _) [] (by decide) rfl) hS ls (lv_sub hl [2, 3, 0] rfl)
          · refine lv_aload_n hx hb dX3_settle_52 rfl (lv_at hl 1 rfl) ?_
            obtain ⟨q_25, hq_25⟩ := pl_at (X := []) (f := f_11) (e := .inr (3, [.ref (ad 24 0), .ref (ad 25 0), .ref (ad 31 0), .ref (ad 32 0), .ref (ad 33 0)])) hk_h0.1 hf_13
            refine va_get (D := (dC, dI)) (ci := 3) (v := .ref (ad 31 0)) (C := RX3) (T := TX3) (N := 5) hx hb hts hin3 hown hK hP q_25 hq_25 rfl 2 (by decide) (hts (.fieldLink RX3 19 "YamRiders$Roads" "toGoal" "[I") (by decide +kernel)) (fun _ h9 => h9) rfl dX3_settle_53 ?_
            refine lv_iload_n hx hb dX3_settle_56 rfl (lv_at hl 3 rfl) ?_
            refine lv_aload_n hx hb dX3_settle_57 rfl (lv_at hl 1 rfl) ?_
            obtain ⟨q_26, hq_26⟩ := pl_at (X := []) (f := f_11) (e := .inr (3, [.ref (ad 24 0), .ref (ad 25 0), .ref (ad 31 0), .ref (ad 32 0), .ref (ad 33 0)])) hk_h0.1 hf_13
            refine va_get (D := (dC, dI)) (ci := 3) (v := .ref (ad 31 0)) (C := RX3) (T := TX3) (N := 5) hx hb hts hin3 hown hK hP q_26 hq_26 rfl 2 (by decide) (hts (.fieldLink RX3 19 "YamRiders$Roads" "toGoal" "[I") (by decide +kernel)) (fun _ h9 => h9) rfl dX3_settle_58 ?_
            refine lv_iload_n hx hb dX3_settle_61 rfl (lv_at hl 2 rfl) ?_
            obtain ⟨q_27, hq_27⟩ := pl_at (X := []) (f := f_11) (e := .inl (cs 0, 12, .inl (S8 496 0))) (hT.kf (k := 31) (by decide)).1 hf_18
            refine va_iald hx hb hK hP q_27 0 hq_27 rfl (vp_in_nI (by omega) (by omega)) dX3_settle_62 ?_
            refine lv_topi (fun v_28 ev_28 => ?_)
            obtain rfl : v_28 = S8 496 0 u9 := ev_28.trans (by rw [(nI_clamp (by omega))])
            refine lv_iload_n hx hb dX3_settle_63 rfl (lv_at hl 0 rfl) ?_
            refine lv_iadd hx hb dX3_settle_64 ?_
            obtain ⟨q_29, hq_29⟩ := pl_at (X := []) (f := f_11) (e := .inl (cs 0, 12, .inl (S8 496 0))) (hT.kf (k := 31) (by decide)).1 hf_18
            refine va_iast hx hb hK hP hD hS q_29 0 hq_29 rfl (vp_in_nI (by omega) (by omega)) dX3_settle_65 (fun H locs hP9 hD9 hS => ?_)
            have hs_30 := pl_st (.inl (cs 0, 12, .inl (upd (S8 496 0) (nI k).toNatClampNeg ((S8 496 0 u9) + (tmN S8 u9 k))))) hD (hT.kf (k := 31) (by decide)).1 hf_18 hq_29
            have hP9 : va_P (dC, dI) vwCl ((([] : va_W) ++ va_pl L f_11).set q_29 ((ad 31 0), .inl (cs 0, 12, .inl (upd (S8 496 0) (nI k).toNatClampNeg ((S8 496 0 u9) + (tmN S8 u9 k)))))) H := hP9
            have hD9 : va_D A ((([] : va_W) ++ va_pl L f_11).set q_29 ((ad 31 0), .inl (cs 0, 12, .inl (upd (S8 496 0) (nI k).toNatClampNeg ((S8 496 0 u9) + (tmN S8 u9 k)))))) := hD9
            rw [hs_30] at hP9 hD9
            have hT := hT.up (c := 496) (j := k) (v := ((S8 496 0 u9) + (tmN S8 u9 k))) (e := .inl (cs 0, 12, .inl (upd (S8 496 0) (nI k).toNatClampNeg ((S8 496 0 u9) + (tmN S8 u9 k))))) (hT.kf (k := 31) (by decide)) rfl (hT.2.2.up (by decide) (by decide) (by decide)) (by simp only [EN]; rw [up3_a, (nI_clamp (by omega))])
            have hP := hP9
            have hD := hD9
            clear hP9 hD9 hs_30
            obtain ⟨S_32, eS_32⟩ : ∃ S9 : Nat → Nat → Nat → Int32, S9 = up3 S8 496 0 k ((S8 496 0 u9) + (tmN S8 u9 k)) := ⟨_, rfl⟩
            rw [← eS_32] at hT
            generalize va_up f_11 (ad 31 0) (.inl (cs 0, 12, .inl (upd (S8 496 0) (nI k).toNatClampNeg ((S8 496 0 u9) + (tmN S8 u9 k))))) = f_31 at hP hD hT
            have hFr_33 : AG S S_32 := by rw [eS_32]; exact AG.up hFrS8 (by decide)
            refine lv_iinc (v := nI (k + 1)) (lv' := [(2, .int (nI (k + 1))), (3, .int (tmN S8 u9 k)), (0, .ref h0), (1, .int (nI u9))]) hx hb dX3_settle_66 hl (k := 3) rfl (by exact (nI_1 k)) (by decide) rfl (fun ls hl => ?_)
            refine lv_goto (tgt := 17) hx hb dX3_settle_69 (by decide) ?_
            exact ih (k + 1) S_32 (by omega) (by omega) hFr_33 (by rw [eS_32]; exact SL_3 (AG.fr hFrS8) hSL hu9 hz9 (by omega) c_16 (Int32.not_le.mp c_24)) _ _ _ hT (hP.part (cx := _) [] rfl) (hD.part (cx := _) [] (by decide) rfl) hS ls (lv_sub hl [2, 3, 0] rfl)
  exact HL 13 0 S_9 (by omega) (by omega) hFr_10 (by rw [eS_9]; exact SL_0) _ _ _ hT (hP.part (cx := _) [] rfl) (hD.part (cx := _) [] (by decide) rfl) hS ls (lv_sub hl [1, 2, 0] rfl)

set_option maxHeartbeats 4000000 in
set_option maxRecDepth 100000 in
theorem e_X3_measureTo (l : Launch) (dC : Nat → ClassId) (dI : Nat → Nat → Nat) (cs : Nat → ClassId) (L : List Nat) (ka : Nat → Nat) (ix : Nat → Nat) (ad : Nat → Nat → Nat) (n0 : Nat) (n6 : Nat) (n2 : Nat) (S : Nat → Nat → Nat → Int32) (f : Nat → va_E) (h0 : Nat) (tg9 : Nat) (sz : Nat) (hT : tB L ka ix ad cs n0 n6 n2 S f) (hk_h0 : tpx L ka ix 3 0 h0) (htg9 : tg9 < 12) (hSy : Sy S) (hRg : RgS S) : Met l yX3_measureTo wsX3_measureTo ({ frames := 3, cells := 0, slots := 0, locals := 65 }) (va_Pc [.ref h0, .int (nI tg9)] (cP dC dI ([] ++ va_pl L f) (tyC cs) sz)) (va_Qv (fun (_ : Unit) => True) (fun (_ : Unit) t9 => ∃ (S2 : Nat → Nat → Nat → Int32) (f2 : Nat → va_E), (tB L ka ix ad cs n0 n6 n2 S2 f2) ∧ (AG S S2) ∧ (L1 (hF S) (sF S) tg9 (S2 496 0) ∧ FXa (hF S) (sF S) (S2 496 0)) ∧ cQ dC dI ([] ++ va_pl L f2) [] (va_A ([] ++ va_pl L f) sz) t9) (va_A ([] ++ va_pl L f) sz)) 0 0 (va_A ([] ++ va_pl L f) sz) := by
  refine Met.ofW (cc := cX3_measureTo) (maxL := 4) (ret := none) (by decide) rfl ?_
  intro p e s m args below meth c s₁ B hml hv
  obtain ⟨rfl, hsz, hP, hK, hD0, hN⟩ := hv
  have hx := B.exec
  have hb := B.bytes
  have hr := B.returns
  have hts := atoms_spec (ws := wsX3_measureTo) B.pre
  have hown : s.vm.findClass RX3 = some m.cls := findClass_of_methodNamed B.named
  have hlocks := B.notSynchronized
  subst hsz
  have hin3 : ∀ w ∈ u_ws RX3 TX3 5, w ∈ wsX3_measureTo := by decide +kernel
  have hD := hD0.self (sz := s.heap.size)
  generalize hAe : va_A ([] ++ va_pl L f) s.heap.size = A at hD ⊢
  have hA : ∀ q : Nat, s.heap.size ≤ q → A q := fun q h => by rw [← hAe]; exact Or.inr h
  have hS : va_S A s.heap s.heap [] := va_S.rf
  have hP : va_P (dC, dI) vwCl ([] ++ va_pl L f) s.heap := hP
  have hl := lv_entry ([.ref h0, .int (nI tg9)]) (n := 4) (Nat.le_of_ble_eq_true rfl)
  rw [lg_entry_eq]
  generalize (lg_sl ([.ref h0, .int (nI tg9)]) ++ List.replicate (4 - (lg_sl ([.ref h0, .int (nI tg9)])).length) Slot.unset).toArray = ls at hl ⊢
  have hl : lv_has ls 4 [(0, .ref h0), (1, .int (nI tg9))] := hl
  refine lv_iconst (v := 0) hx hb dX3_measureTo_0 (by decide) ?_
  refine lv_istore_n (lv' := [(2, .int 0), (0, .ref h0), (1, .int (nI tg9))]) hx hb dX3_measureTo_1 rfl hl (by decide) rfl (fun ls hl => ?_)
  have HL : ∀ (n k : Nat) (S8 : Nat → Nat → Nat → Int32), k ≤ 12 → 12 + 1 ≤ k + n → (AG S S8) → (i0 tg9 k (S8 496 0)) → (∀ x, x < k → S8 512 0 x = 0) → ∀ (f_1 : Nat → va_E) (H : Heap) (locs : List Loc), tB L ka ix ad cs n0 n6 n2 S8 f_1 → va_P (dC, dI) vwCl ([] ++ va_pl L f_1) H → va_D A ([] ++ va_pl L f_1) → va_S A s.heap H locs → ∀ ls : Array Slot, lv_has ls 4 [(0, .ref h0), (1, .int (nI tg9)), (2, .int (nI k))] → W p l e (headSpec wsX3_measureTo ({ frames := 3, cells := 0, slots := 0, locals := 65 })).room s m ([.ref h0, .int (nI tg9)]).toArray below meth c H locs 0 0 (MQ below (va_Qv (fun (_ : Unit) => True) (fun (_ : Unit) t9 => ∃ (S2 : Nat → Nat → Nat → Int32) (f2 : Nat → va_E), (tB L ka ix ad cs n0 n6 n2 S2 f2) ∧ (AG S S2) ∧ (L1 (hF S) (sF S) tg9 (S2 496 0) ∧ FXa (hF S) (sF S) (S2 496 0)) ∧ cQ dC dI ([] ++ va_pl L f2) [] A t9) A) ([.ref h0, .int (nI tg9)]).toArray s 0 0 A) (F0 m 2 ls []) := by
    intro n
    induction n with
    | zero => intro k S8 h1 h2; exact absurd h2 (by omega)
    | succ n ih =>
      intro k S8 hk hn hFrS8 hi8 hd8 f_1 H locs hT hP hD hS ls hl
      refine lv_iload_n hx hb dX3_measureTo_2 rfl (lv_at hl 2 rfl) ?_
      refine lv_bipush (v := 12) hx hb dX3_measureTo_3 (by decide) ?_
      refine lv_icmp_ge (tgt := 38) hx hb dX3_measureTo_5 (by decide) (fun c_2 => ?_) (fun c_2 => ?_)
      · have hke : k = 12 := by
          rcases Nat.lt_or_ge k 12 with q | q
          · exact absurd c_2 (nI_ge q (by decide))
          · omega
        refine lv_iconst (v := 0) hx hb dX3_measureTo_38 (by decide) ?_
        refine lv_istore_n (lv' := [(2, .int 0), (0, .ref h0), (1, .int (nI tg9))]) hx hb dX3_measureTo_39 rfl hl (by decide) rfl (fun ls hl => ?_)
        have HL_j : ∀ (n_j j : Nat) (S7 : Nat → Nat → Nat → Int32), j ≤ 12 → 12 + 1 ≤ j + n_j → (AG S S7) → (DJ S tg9 (S7 496 0) (S7 512 0) j) → ∀ (f_3 : Nat → va_E) (H : Heap) (locs : List Loc), tB L ka ix ad cs n0 n6 n2 S7 f_3 → va_P (dC, dI) vwCl ([] ++ va_pl L f_3) H → va_D A ([] ++ va_pl L f_3) → va_S A s.heap H locs → ∀ ls : Array Slot, lv_has ls 4 [(0, .ref h0), (1, .int (nI tg9)), (2, .int (nI j))] → W p l e (headSpec wsX3_measureTo ({ frames := 3, cells := 0, slots := 0, locals := 65 })).room s m ([.ref h0, .int (nI tg9)]).toArray below meth c H locs 0 0 (MQ below (va_Qv (fun (_ : Unit) => True) (fun (_ : Unit) t9 => ∃ (S2 : Nat → Nat → Nat → Int32) (f2 : Nat → va_E), (tB L ka ix ad cs n0 n6 n2 S2 f2) ∧ (AG S S2) ∧ (L1 (hF S) (sF S) tg9 (S2 496 0) ∧ FXa (hF S) (sF S) (S2 496 0)) ∧ cQ dC dI ([] ++ va_pl L f2) [] A t9) A) ([.ref h0, .int (nI tg9)]).toArray s 0 0 A) (F0 m 40 ls []) := by
          intro n_j
          induction n_j with
          | zero => intro j S7 h1 h2; exact absurd h2 (by omega)
          | succ n_j ih_j =>
            intro j S7 hk_j hn_j hFrS7 hDJ f_3 H locs hT hP hD hS ls hl
            refine lv_iload_n hx hb dX3_measureTo_40 rfl (lv_at hl 2 rfl) ?_
            refine lv_bipush (v := 12) hx hb dX3_measureTo_41 (by decide) ?_
            refine lv_icmp_ge (tgt := 68) hx hb dX3_measureTo_43 (by decide) (fun c_4 => ?_) (fun c_4 => ?_)
            · have hke_j : j = 12 := by
                rcases Nat.lt_or_ge j 12 with q | q
                · exact absurd c_4 (nI_ge q (by decide))
                · omega
              have hP9 := hP.part (cx := []) [] rfl
              have hD9 := hD.part (cx := []) [] (by decide) rfl
              have hK9 := hK.sub (tys' := []) [] rfl
              refine W.widen (k := 0) (n := 0) (Nat.le_of_ble_eq_true rfl) (Nat.le_of_ble_eq_true rfl) ?_
              exact W.vret hx hb hr (fun t9 ht hW => ⟨⟨(), rfl, trivial, S7, f_3, hT, hFrS7, ⟨hDJ.1, DJ_f hSy hRg hDJ (fun v hv q => absurd q (cnz_f 12 (hDJ.2.2.2.trans hke_j) v hv))⟩, by rw [ht]; exact hP9, va_K.moved hW.alike hK9, hD9⟩, hS.F ht⟩) hS.2.2 dX3_measureTo_68
            · have hlt_j : j < 12 := by
                rcases Nat.lt_or_ge j 12 with q | q
                · exact q
                · exact absurd (show nI 12 ≤ nI j from nI_le q (by omega)) c_4
              refine lv_aload_n hx hb dX3_measureTo_46 rfl (lv_at hl 0 rfl) ?_
              have hPc := hP.part (cx := []) [] rfl
              have hDc := hD.part (cx := []) [] (by decide) rfl
              have hKc := hK
              have hf_5 : f_3 h0 = .inr (3, [.ref (ad 24 0), .ref (ad 25 0), .ref (ad 31 0), .ref (ad 32 0), .ref (ad 33 0)]) := hT.get hk_h0
              obtain ⟨q_6, hq_6⟩ := pl_at (X := []) (f := f_3) (e := .inr (3, [.ref (ad 24 0), .ref (ad 25 0), .ref (ad 31 0), .ref (ad 32 0), .ref (ad 33 0)])) hk_h0.1 hf_5
              refine cs_i (va_runV (As := []) (rest := []) ⟨hx, hb, hml, hown, hts⟩ (e_X3_nearest l dC dI cs L ka ix ad n0 n6 n2 S7 f_3 h0 H.size hT hk_h0) (cwV 0 hts gX3_measureTo_X3_nearestUnsettled rfl rfl rfl (by decide +kernel) ⟨Nat.le_of_ble_eq_true rfl, Nat.le_of_ble_eq_true rfl⟩) ⟨c_blind, va_recv hKc hPc (ci := 3) (q0 := q_6) rfl hq_6, c_pre hPc hKc hDc hN⟩ rfl rfl hl.1 rfl (lv_room (Nat.le_of_ble_eq_true rfl)) dX3_measureTo_47 ⟨Nat.le_of_ble_eq_true rfl, Nat.le_of_ble_eq_true rfl⟩) (fun r_7 hr_7 => ?_)
              refine lv_istore_n (lv' := [(3, .int r_7), (0, .ref h0), (1, .int (nI tg9)), (2, .int (nI j))]) hx hb dX3_measureTo_50 rfl hl (by decide) rfl (fun ls hl => ?_)
              refine lv_iload_n hx hb dX3_measureTo_51 rfl (lv_at hl 0 rfl) ?_
              refine lv_iconst (v := (-1)) hx hb dX3_measureTo_52 (by decide) ?_
              refine lv_icmp_ne (tgt := 57) hx hb dX3_measureTo_53 (by decide) (fun c_8 => ?_) (fun c_8 => ?_)
              · obtain ⟨wn9, hwn9, rfl, hdw, hgw, hmw⟩ := hr_7.resolve_left (fun q => c_8 q.1)
                refine lv_aload_n hx hb dX3_measureTo_57 rfl (lv_at hl 1 rfl) ?_
                refine lv_iload_n hx hb dX3_measureTo_58 rfl (lv_at hl 0 rfl) ?_
                have hPc := hP.part (cx := []) [] rfl
                have hDc := hD.part (cx := []) [] (by decide) rfl
                have hKc := hK
                have hFc := va_freeP (cx := []) hD hS hA [] rfl
                have hf_9 : f_3 h0 = .inr (3, [.ref (ad 24 0), .ref (ad 25 0), .ref (ad 31 0), .ref (ad 32 0), .ref (ad 33 0)]) := hT.get hk_h0
                obtain ⟨q_10, hq_10⟩ := pl_at (X := []) (f := f_3) (e := .inr (3, [.ref (ad 24 0), .ref (ad 25 0), .ref (ad 31 0), .ref (ad 32 0), .ref (ad 33 0)])) hk_h0.1 hf_9
                refine va_callv (va_runV (As := [.int (nI wn9)]) (rest := []) ⟨hx, hb, hml, hown, hts⟩ (e_X3_settle l dC dI cs L ka ix ad n0 n6 n2 S7 f_3 h0 wn9 H.size hT hk_h0 (by omega) ((hSy.fr (AG.fr hFrS7)) wn9 (by omega)).1) (cwV 1 hts gX3_measureTo_X3_settle rfl rfl rfl (by decide +kernel) ⟨Nat.le_of_ble_eq_true rfl, Nat.le_of_ble_eq_true rfl⟩) ⟨c_blind, va_recv hKc hPc (ci := 3) (q0 := q_10) rfl hq_10, c_pre hPc hKc hDc hN⟩ rfl rfl hl.1 rfl (lv_room (Nat.le_of_ble_eq_true rfl)) dX3_measureTo_59 ⟨Nat.le_of_ble_eq_true rfl, Nat.le_of_ble_eq_true rfl⟩) hS (fun q _ h => hFc q h) hFc (fun u9 t9 H1 locs ht hvm hw hB hz1 hk1 hS => ?_)
                obtain ⟨S_12, f_13, hf_x_14, hf_x_15, hf_x_16, hP1, hK1, hD1⟩ := hB
                rw [ht] at hP1
                have hK1 := va_K.moved hvm.symm hK1
                obtain ⟨hP, hD⟩ := va_joinP (X := []) (cx := []) (wr := []) (rx := []) (pl := va_pl L f_3) (pl1 := va_pl L f_13) hP hD [] [] rfl rfl (by decide) (by decide) hk1 hFc hP1 hD1
                have hT := hf_x_14
                generalize H1 = H at hP hS ⊢
                have hP : va_P (dC, dI) vwCl ([] ++ va_pl L f_13) H := hP
                have hD : va_D A ([] ++ va_pl L f_13) := hD
                have hFr_17 := AG.tr hFrS7 hf_x_15
                refine W.widen (k := 0) (n := 0) (Nat.le_of_ble_eq_true rfl) (Nat.le_of_ble_eq_true rfl) ?_
                refine lv_iinc (v := nI (j + 1)) (lv' := [(2, .int (nI (j + 1))), (3, .int (nI wn9)), (0, .ref h0), (1, .int (nI tg9))]) hx hb dX3_measureTo_62 hl (k := 3) rfl (by exact (nI_1 j)) (by decide) rfl (fun ls hl => ?_)
                refine lv_goto (tgt := 40) hx hb dX3_measureTo_65 (by decide) ?_
                exact ih_j (j + 1) S_12 (by omega) (by omega) hFr_17 (DJ_s hSy hRg (AG.fr hFrS7) hDJ htg9 hwn9 hdw hmw hf_x_16) _ _ _ hT (hP.part (cx := _) [] rfl) (hD.part (cx := _) [] (by decide) rfl) hS ls (lv_sub hl [2, 3, 0] rfl)
              · have hP9 := hP.part (cx := []) [] rfl
                have hD9 := hD.part (cx := []) [] (by decide) rfl
                have hK9 := hK.sub (tys' := []) [] rfl
                refine W.widen (k := 0) (n := 0) (Nat.le_of_ble_eq_true rfl) (Nat.le_of_ble_eq_true rfl) ?_
                exact W.vret hx hb hr (fun t9 ht hW => ⟨⟨(), rfl, trivial, S7, f_3, hT, hFrS7, ⟨hDJ.1, DJ_f hSy hRg hDJ (hr_7.elim (fun q => q.2) (fun ⟨j9, hj9, q, _⟩ => absurd (q.symm.trans c_8) (nI_m (by omega))))⟩, by rw [ht]; exact hP9, va_K.moved hW.alike hK9, hD9⟩, hS.F ht⟩) hS.2.2 dX3_measureTo_56
        exact HL_j 13 0 S8 (by omega) (by omega) hFrS8 (DJ_0 htg9 (hke ▸ hi8) (hke ▸ hd8)) _ _ _ hT (hP.part (cx := _) [] rfl) (hD.part (cx := _) [] (by decide) rfl) hS ls (lv_sub hl [1, 2, 0] rfl)
      · have hlt : k < 12 := by
          rcases Nat.lt_or_ge k 12 with q | q
          · exact q
          · exact absurd (show nI 12 ≤ nI k from nI_le q (by omega)) c_2
        refine lv_aload_n hx hb dX3_measureTo_8 rfl (lv_at hl 0 rfl) ?_
        have hf_18 : f_1 h0 = .inr (3, [.ref (ad 24 0), .ref (ad 25 0), .ref (ad 31 0), .ref (ad 32 0), .ref (ad 33 0)]) := hT.get hk_h0
        obtain ⟨q_19, hq_19⟩ := pl_at (X := []) (f := f_1) (e := .inr (3, [.ref (ad 24 0), .ref (ad 25 0), .ref (ad 31 0), .ref (ad 32 0), .ref (ad 33 0)])) hk_h0.1 hf_18
        refine va_get (D := (dC, dI)) (ci := 3) (v := .ref (ad 31 0)) (C := RX3) (T := TX3) (N := 5) hx hb hts hin3 hown hK hP q_19 hq_19 rfl 2 (by decide) (hts (.fieldLink RX3 19 "YamRiders$Roads" "toGoal" "[I") (by decide +kernel)) (fun _ h9 => h9) rfl dX3_measureTo_9 ?_
        refine lv_iload_n hx hb dX3_measureTo_12 rfl (lv_at hl 2 rfl) ?_
        refine lv_iload_n hx hb dX3_measureTo_13 rfl (lv_at hl 2 rfl) ?_
        refine lv_iload_n hx hb dX3_measureTo_14 rfl (lv_at hl 1 rfl) ?_
        refine lv_icmp_ne (tgt := 22) hx hb dX3_measureTo_15 (by decide) (fun c_20 => ?_) (fun c_20 => ?_)
        · refine lv_ldc (v := 1000000) hx hb hown (hts (.constant RX3 42 (1000000)) (by decide +kernel)) dX3_measureTo_22 ?_
          have hf_21 : f_1 (ad 31 0) = .inl (cs 0, 12, .inl (S8 496 0)) := hT.get (hT.kf (k := 31) (by decide))
          obtain ⟨q_22, hq_22⟩ := pl_at (X := []) (f := f_1) (e := .inl (cs 0, 12, .inl (S8 496 0))) (hT.kf (k := 31) (by decide)).1 hf_21
          refine va_iast hx hb hK hP hD hS q_22 0 hq_22 rfl (vp_in_nI (by omega) (by omega)) dX3_measureTo_24 (fun H locs hP9 hD9 hS => ?_)
          have hs_23 := pl_st (.inl (cs 0, 12, .inl (upd (S8 496 0) (nI k).toNatClampNeg 1000000))) hD (hT.kf (k := 31) (by decide)).1 hf_21 hq_22
          have hP9 : va_P (dC, dI) vwCl ((([] : va_W) ++ va_pl L f_1).set q_22 ((ad 31 0), .inl (cs 0, 12, .inl (upd (S8 496 0) (nI k).toNatClampNeg 1000000)))) H := hP9
          have hD9 : va_D A ((([] : va_W) ++ va_pl L f_1).set q_22 ((ad 31 0), .inl (cs 0, 12, .inl (upd (S8 496 0) (nI k).toNatClampNeg 1000000)))) := hD9
          rw [hs_23] at hP9 hD9
          have hT := hT.up (c := 496) (j := k) (v := 1000000) (e := .inl (cs 0, 12, .inl (upd (S8 496 0) (nI k).toNatClampNeg 1000000))) (hT.kf (k := 31) (by decide)) rfl (hT.2.2.up (by decide) (by decide) (by decide)) (by simp only [EN]; rw [up3_a, (nI_clamp (by omega))])
          have hP := hP9
          have hD := hD9
          clear hP9 hD9 hs_23
          obtain ⟨S_25, eS_25⟩ : ∃ S9 : Nat → Nat → Nat → Int32, S9 = up3 S8 496 0 k 1000000 := ⟨_, rfl⟩
          rw [← eS_25] at hT
          generalize va_up f_1 (ad 31 0) (.inl (cs 0, 12, .inl (upd (S8 496 0) (nI k).toNatClampNeg 1000000))) = f_24 at hP hD hT
          have hFr_26 : AG S S_25 := by rw [eS_25]; exact AG.up hFrS8 (by decide)
          refine lv_aload_n hx hb dX3_measureTo_25 rfl (lv_at hl 0 rfl) ?_
          have hf_27 : f_24 h0 = .inr (3, [.ref (ad 24 0), .ref (ad 25 0), .ref (ad 31 0), .ref (ad 32 0), .ref (ad 33 0)]) := hT.get hk_h0
          obtain ⟨q_28, hq_28⟩ := pl_at (X := []) (f := f_24) (e := .inr (3, [.ref (ad 24 0), .ref (ad 25 0), .ref (ad 31 0), .ref (ad 32 0), .ref (ad 33 0)])) hk_h0.1 hf_27
          refine va_get (D := (dC, dI)) (ci := 3) (v := .ref (ad 32 0)) (C := RX3) (T := TX3) (N := 5) hx hb hts hin3 hown hK hP q_28 hq_28 rfl 3 (by decide) (hts (.fieldLink RX3 23 "YamRiders$Roads" "settled" "[Z") (by decide +kernel)) (fun _ h9 => h9) rfl dX3_measureTo_26 ?_
          refine lv_iload_n hx hb dX3_measureTo_29 rfl (lv_at hl 2 rfl) ?_
          refine lv_iconst (v := 0) hx hb dX3_measureTo_30 (by decide) ?_
          have hf_29 : f_24 (ad 32 0) = .inl (cs 1, 12, .inl (S_25 512 0)) := hT.get (hT.kf (k := 32) (by decide))
          obtain ⟨q_30, hq_30⟩ := pl_at (X := []) (f := f_24) (e := .inl (cs 1, 12, .inl (S_25 512 0))) (hT.kf (k := 32) (by decide)).1 hf_29
          refine va_zast hx hb hK hP hD hS q_30 1 hq_30 rfl (vp_in_nI (by omega) (by omega)) dX3_measureTo_31 (fun H locs hP9 hD9 hS => ?_)
          have hs_31 := pl_st (.inl (cs 1, 12, .inl (upd (S_25 512 0) (nI k).toNatClampNeg (vp_nar .boolean 0)))) hD (hT.kf (k := 32) (by decide)).1 hf_29 hq_30
          have hP9 : va_P (dC, dI) vwCl ((([] : va_W) ++ va_pl L f_24).set q_30 ((ad 32 0), .inl (cs 1, 12, .inl (upd (S_25 512 0) (nI k).toNatClampNeg (vp_nar .boolean 0))))) H := hP9
          have hD9 : va_D A ((([] : va_W) ++ va_pl L f_24).set q_30 ((ad 32 0), .inl (cs 1, 12, .inl (upd (S_25 512 0) (nI k).toNatClampNeg (vp_nar .boolean 0))))) := hD9
          rw [hs_31] at hP9 hD9
          have hT := hT.up (c := 512) (j := k) (v := 0) (e := .inl (cs 1, 12, .inl (upd (S_25 512 0) (nI k).toNatClampNeg (vp_nar .boolean 0)))) (hT.kf (k := 32) (by decide)) rfl (hT.2.2.up (by decide) (by decide) (by decide)) (by simp only [EN]; rw [up3_a, (nI_clamp (by omega))]; rfl)
          have hP := hP9
          have hD := hD9
          clear hP9 hD9 hs_31
          obtain ⟨S_33, eS_33⟩ : ∃ S9 : Nat → Nat → Nat → Int32, S9 = up3 S_25 512 0 k 0 := ⟨_, rfl⟩
          rw [← eS_33] at hT
          generalize va_up f_24 (ad 32 0) (.inl (cs 1, 12, .inl (upd (S_25 512 0) (nI k).toNatClampNeg (vp_nar .boolean 0)))) = f_32 at hP hD hT
          have hFr_34 : AG S S_33 := by rw [eS_33]; exact AG.up hFr_26 (by decide)
          refine lv_iinc (v := nI (k + 1)) (lv' := [(2, .int (nI (k + 1))), (0, .ref h0), (1, .int (nI tg9))]) hx hb dX3_measureTo_32 hl (k := 2) rfl (by exact (nI_1 k)) (by decide) rfl (fun ls hl => ?_)
          refine lv_goto (tgt := 2) hx hb dX3_measureTo_35 (by decide) ?_
          exact ih (k + 1) S_33 (by omega) (by omega) hFr_34 (by rw [eS_33, up3_c (by decide), eS_25, up3_a]; exact i0_s hi8 (by rw [if_neg (fun q => c_20 (by rw [q]))])) (fun x hx => by rw [eS_33, up3_a]; exact (if q : x = k then (by rw [q, up_s]) else (by rw [up_n q, eS_25, up3_c (by decide)]; exact hd8 x (by omega)))) _ _ _ hT (hP.part (cx := _) [] rfl) (hD.part (cx := _) [] (by decide) rfl) hS ls (lv_sub hl [1, 2, 0] rfl)
        · refine lv_iconst (v := 0) hx hb dX3_measureTo_18 (by decide) ?_
          refine lv_goto (tgt := 24) hx hb dX3_measureTo_19 (by decide) ?_
          have hf_35 : f_1 (ad 31 0) = .inl (cs 0, 12, .inl (S8 496 0)) := hT.get (hT.kf (k := 31) (by decide))
          obtain ⟨q_36, hq_36⟩ := pl_at (X := []) (f := f_1) (e := .inl (cs 0, 12, .inl (S8 496 0))) (hT.kf (k := 31) (by decide)).1 hf_35
          refine va_iast hx hb hK hP hD hS q_36 0 hq_36 rfl (vp_in_nI (by omega) (by omega)) dX3_measureTo_24 (fun H locs hP9 hD9 hS => ?_)
          have hs_37 := pl_st (.inl (cs 0, 12, .inl (upd (S8 496 0) (nI k).toNatClampNeg 0))) hD (hT.kf (k := 31) (by decide)).1 hf_35 hq_36
          have hP9 : va_P (dC, dI) vwCl ((([] : va_W) ++ va_pl L f_1).set q_36 ((ad 31 0), .inl (cs 0, 12, .inl (upd (S8 496 0) (nI k).toNatClampNeg 0)))) H := hP9
          have hD9 : va_D A ((([] : va_W) ++ va_pl L f_1).set q_36 ((ad 31 0), .inl (cs 0, 12, .inl (upd (S8 496 0) (nI k).toNatClampNeg 0)))) := hD9
          rw [hs_37] at hP9 hD9
          have hT := hT.up (c := 496) (j := k) (v := 0) (e := .inl (cs 0, 12, .inl (upd (S8 496 0) (nI k).toNatClampNeg 0))) (hT.kf (k := 31) (by decide)) rfl (hT.2.2.up (by decide) (by decide) (by decide)) (by simp only [EN]; rw [up3_a, (nI_clamp (by omega))])
          have hP := hP9
          have hD := hD9
          clear hP9 hD9 hs_37
          obtain ⟨S_39, eS_39⟩ : ∃ S9 : Nat → Nat → Nat → Int32, S9 = up3 S8 496 0 k 0 := ⟨_, rfl⟩
          rw [← eS_39] at hT
          generalize va_up f_1 (ad 31 0) (.inl (cs 0, 12, .inl (upd (S8 496 0) (nI k).toNatClampNeg 0))) = f_38 at hP hD hT
          have hFr_40 : AG S S_39 := by rw [eS_39]; exact AG.up hFrS8 (by decide)
          refine lv_aload_n hx hb dX3_measureTo_25 rfl (lv_at hl 0 rfl) ?_
          have hf_41 : f_38 h0 = .inr (3, [.ref (ad 24 0), .ref (ad 25 0), .ref (ad 31 0), .ref (ad 32 0), .ref (ad 33 0)]) := hT.get hk_h0
          obtain ⟨q_42, hq_42⟩ := pl_at (X := []) (f := f_38) (e := .inr (3, [.ref (ad 24 0), .ref (ad 25 0), .ref (ad 31 0), .ref (ad 32 0), .ref (ad 33 0)])) hk_h0.1 hf_41
          refine va_get (D := (dC, dI)) (ci := 3) (v := .ref (ad 32 0)) (C := RX3) (T := TX3) (N := 5) hx hb hts hin3 hown hK hP q_42 hq_42 rfl 3 (by decide) (hts (.fieldLink RX3 23 "YamRiders$Roads" "settled" "[Z") (by decide +kernel)) (fun _ h9 => h9) rfl dX3_measureTo_26 ?_
          refine lv_iload_n hx hb dX3_measureTo_29 rfl (lv_at hl 2 rfl) ?_
          refine lv_iconst (v := 0) hx hb dX3_measureTo_30 (by decide) ?_
          have hf_43 : f_38 (ad 32 0) = .inl (cs 1, 12, .inl (S_39 512 0)) := hT.get (hT.kf (k := 32) (by decide))
          obtain ⟨q_44, hq_44⟩ := pl_at (X := []) (f := f_38) (e := .inl (cs 1, 12, .inl (S_39 512 0))) (hT.kf (k := 32) (by decide)).1 hf_43
          refine va_zast hx hb hK hP hD hS q_44 1 hq_44 rfl (vp_in_nI (by omega) (by omega)) dX3_measureTo_31 (fun H locs hP9 hD9 hS => ?_)
          have hs_45 := pl_st (.inl (cs 1, 12, .inl (upd (S_39 512 0) (nI k).toNatClampNeg (vp_nar .boolean 0)))) hD (hT.kf (k := 32) (by decide)).1 hf_43 hq_44
          have hP9 : va_P (dC, dI) vwCl ((([] : va_W) ++ va_pl L f_38).set q_44 ((ad 32 0), .inl (cs 1, 12, .inl (upd (S_39 512 0) (nI k).toNatClampNeg (vp_nar .boolean 0))))) H := hP9
          have hD9 : va_D A ((([] : va_W) ++ va_pl L f_38).set q_44 ((ad 32 0), .inl (cs 1, 12, .inl (upd (S_39 512 0) (nI k).toNatClampNeg (vp_nar .boolean 0))))) := hD9
          rw [hs_45] at hP9 hD9
          have hT := hT.up (c := 512) (j := k) (v := 0) (e := .inl (cs 1, 12, .inl (upd (S_39 512 0) (nI k).toNatClampNeg (vp_nar .boolean 0)))) (hT.kf (k := 32) (by decide)) rfl (hT.2.2.up (by decide) (by decide) (by decide)) (by simp only [EN]; rw [up3_a, (nI_clamp (by omega))]; rfl)
          have hP := hP9
          have hD := hD9
          clear hP9 hD9 hs_45
          obtain ⟨S_47, eS_47⟩ : ∃ S9 : Nat → Nat → Nat → Int32, S9 = up3 S_39 512 0 k 0 := ⟨_, rfl⟩
          rw [← eS_47] at hT
          generalize va_up f_38 (ad 32 0) (.inl (cs 1, 12, .inl (upd (S_39 512 0) (nI k).toNatClampNeg (vp_nar .boolean 0)))) = f_46 at hP hD hT
          have hFr_48 : AG S S_47 := by rw [eS_47]; exact AG.up hFr_40 (by decide)
          refine lv_iinc (v := nI (k + 1)) (lv' := [(2, .int (nI (k + 1))), (0, .ref h0), (1, .int (nI tg9))]) hx hb dX3_measureTo_32 hl (k := 2) rfl (by exact (nI_1 k)) (by decide) rfl (fun ls hl => ?_)
          refine lv_goto (tgt := 2) hx hb dX3_measureTo_35 (by decide) ?_
          exact ih (k + 1) S_47 (by omega) (by omega) hFr_48 (by rw [eS_47, up3_c (by decide), eS_39, up3_a]; exact i0_s hi8 (by rw [if_pos (nI_inJ c_20 (by omega) (by omega))])) (fun x hx => by rw [eS_47, up3_a]; exact (if q : x = k then (by rw [q, up_s]) else (by rw [up_n q, eS_39, up3_c (by decide)]; exact hd8 x (by omega)))) _ _ _ hT (hP.part (cx := _) [] rfl) (hD.part (cx := _) [] (by decide) rfl) hS ls (lv_sub hl [1, 2, 0] rfl)
  exact HL 13 0 S (by omega) (by omega) AG.rf (fun _ q => absurd q (Nat.not_lt_zero _)) (fun _ q => absurd q (Nat.not_lt_zero _)) _ _ _ hT (hP.part (cx := _) [] rfl) (hD.part (cx := _) [] (by decide) rfl) hS ls (lv_sub hl [1, 2, 0] rfl)

set_option maxHeartbeats 4000000 in
set_option maxRecDepth 100000 in
theorem e_X3_leastTime (l : Launch) (dC : Nat → ClassId) (dI : Nat → Nat → Nat) (cs : Nat → ClassId) (L : List Nat) (ka : Nat → Nat) (ix : Nat → Nat) (ad : Nat → Nat → Nat) (n0 : Nat) (n6 : Nat) (n2 : Nat) (S : Nat → Nat → Nat → Int32) (f : Nat → va_E) (h0 : Nat) (p0 : Int32) (p1 : Int32) (sz : Nat) (hT : tB L ka ix ad cs n0 n6 n2 S f) (hk_h0 : tpx L ka ix 3 0 h0) (hSy : Sy S) (hRg : RgS S) : Met l yX3_leastTime wsX3_leastTime ({ frames := 4, cells := 0, slots := 0, locals := 88 }) (va_Pc [.ref h0, .int p0, .int p1] (cP dC dI ([] ++ va_pl L f) (tyC cs) sz)) (va_Qi (fun (r rv : Int32) => r = rv) (fun (rv : Int32) t9 => ∃ (S2 : Nat → Nat → Nat → Int32) (f2 : Nat → va_E), (tB L ka ix ad cs n0 n6 n2 S2 f2) ∧ (AG S S2) ∧ (LG S S2 p0 p1 rv) ∧ cQ dC dI ([] ++ va_pl L f2) [] (va_A ([] ++ va_pl L f) sz) t9) (va_A ([] ++ va_pl L f) sz)) 0 0 (va_A ([] ++ va_pl L f) sz) := by
  refine Met.ofW (cc := cX3_leastTime) (maxL := 3) (ret := (some .int)) (by decide) rfl ?_
  intro p e s m args below meth c s₁ B hml hv
  obtain ⟨rfl, hsz, hP, hK, hD0, hN⟩ := hv
  have hx := B.exec
  have hb := B.bytes
  have hr := B.returns
  have hts := atoms_spec (ws := wsX3_leastTime) B.pre
  have hown : s.vm.findClass RX3 = some m.cls := findClass_of_methodNamed B.named
  have hlocks := B.notSynchronized
  subst hsz
  have hin3 : ∀ w ∈ u_ws RX3 TX3 5, w ∈ wsX3_leastTime := by decide +kernel
  have hD := hD0.self (sz := s.heap.size)
  generalize hAe : va_A ([] ++ va_pl L f) s.heap.size = A at hD ⊢
  have hA : ∀ q : Nat, s.heap.size ≤ q → A q := fun q h => by rw [← hAe]; exact Or.inr h
  have hS : va_S A s.heap s.heap [] := va_S.rf
  have hP : va_P (dC, dI) vwCl ([] ++ va_pl L f) s.heap := hP
  have hl := lv_entry ([.ref h0, .int p0, .int p1]) (n := 3) (Nat.le_of_ble_eq_true rfl)
  rw [lg_entry_eq]
  generalize (lg_sl ([.ref h0, .int p0, .int p1]) ++ List.replicate (3 - (lg_sl ([.ref h0, .int p0, .int p1])).length) Slot.unset).toArray = ls at hl ⊢
  have hl : lv_has ls 3 [(0, .ref h0), (1, .int p0), (2, .int p1)] := hl
  refine lv_iload_n hx hb dX3_leastTime_0 rfl (lv_at hl 1 rfl) ?_
  have hPc := hP.sub (ws' := []) [] rfl
  have hDc := hD.sub (ws' := []) [] (by decide) rfl
  have hKc := hK.sub (tys' := []) [] rfl
  refine cs_i (va_runSN (As := [.int p0]) (rest := []) ⟨hx, hb, hml, hown, hts⟩ (c_X8_isStation l dC dI p0 s.heap.size) ⟨va_cnB 1 hts ggX3_leastTime_X8_isStation rfl rfl rfl (hN.1 (.methodLinkNest RX3 30 yX8_isStation "YamRiders") (by decide +kernel)) (hts (.initialized RX8) (by decide +kernel)) (by decide +kernel) ⟨Nat.le_of_ble_eq_true rfl, Nat.le_of_ble_eq_true rfl⟩, hts (.static yX8_isStation) (by decide +kernel), trivial⟩ ⟨c_blind, c_pre hPc hKc hDc hN⟩ rfl rfl hl.1 rfl (lv_room (Nat.le_of_ble_eq_true rfl)) dX3_leastTime_1 ⟨Nat.le_of_ble_eq_true rfl, Nat.le_of_ble_eq_true rfl⟩) (fun r_1 hr_1 => ?_)
  subst hr_1
  refine lv_if_eq (tgt := 14) hx hb dX3_leastTime_4 (by decide) (fun c_2 => ?_) (fun c_2 => ?_)
  · refine lv_iconst (v := (-1)) hx hb dX3_leastTime_14 (by decide) ?_
    have hP9 := hP.part (cx := []) [] rfl
    have hD9 := hD.part (cx := []) [] (by decide) rfl
    have hK9 := hK.sub (tys' := []) [] rfl
    refine W.widen (k := 0) (n := 0) (Nat.le_of_ble_eq_true rfl) (Nat.le_of_ble_eq_true rfl) ?_
    exact W.iret (v := (-1)) hx hb hr (fun t9 ht hW => ⟨⟨_, (-1), rfl, rfl, S, f, hT, AG.rf, (Or.inl ⟨rfl, (Or.inl c_2)⟩), by rw [ht]; exact hP9, va_K.moved hW.alike hK9, hD9⟩, hS.F ht⟩) hS.2.2 dX3_leastTime_15
  · refine lv_iload_n hx hb dX3_leastTime_7 rfl (lv_at hl 2 rfl) ?_
    have hPc := hP.sub (ws' := []) [] rfl
    have hDc := hD.sub (ws' := []) [] (by decide) rfl
    have hKc := hK.sub (tys' := []) [] rfl
    refine cs_i (va_runSN (As := [.int p1]) (rest := []) ⟨hx, hb, hml, hown, hts⟩ (c_X8_isStation l dC dI p1 s.heap.size) ⟨va_cnB 1 hts ggX3_leastTime_X8_isStation rfl rfl rfl (hN.1 (.methodLinkNest RX3 30 yX8_isStation "YamRiders") (by decide +kernel)) (hts (.initialized RX8) (by decide +kernel)) (by decide +kernel) ⟨Nat.le_of_ble_eq_true rfl, Nat.le_of_ble_eq_true rfl⟩, hts (.static yX8_isStation) (by decide +kernel), trivial⟩ ⟨c_blind, c_pre hPc hKc hDc hN⟩ rfl rfl hl.1 rfl (lv_room (Nat.le_of_ble_eq_true rfl)) dX3_leastTime_8 ⟨Nat.le_of_ble_eq_true rfl, Nat.le_of_ble_eq_true rfl⟩) (fun r_3 hr_3 => ?_)
    subst hr_3
    refine lv_if_ne (tgt := 16) hx hb dX3_leastTime_11 (by decide) (fun c_4 => ?_) (fun c_4 => ?_)
    · obtain ⟨uu9, huu9, rfl⟩ := st_of c_2
      obtain ⟨vv9, hvv9, rfl⟩ := st_of c_4
      refine lv_aload_n hx hb dX3_leastTime_16 rfl (lv_at hl 0 rfl) ?_
      refine lv_iload_n hx hb dX3_leastTime_17 rfl (lv_at hl 2 rfl) ?_
      have hPc := hP.part (cx := []) [] rfl
      have hDc := hD.part (cx := []) [] (by decide) rfl
      have hKc := hK
      have hFc := va_freeP (cx := []) hD hS hA [] rfl
      have hf_5 : f h0 = .inr (3, [.ref (ad 24 0), .ref (ad 25 0), .ref (ad 31 0), .ref (ad 32 0), .ref (ad 33 0)]) := hT.get hk_h0
      obtain ⟨q_6, hq_6⟩ := pl_at (X := []) (f := f) (e := .inr (3, [.ref (ad 24 0), .ref (ad 25 0), .ref (ad 31 0), .ref (ad 32 0), .ref (ad 33 0)])) hk_h0.1 hf_5
      refine va_callv (va_runV (As := [.int (nI vv9)]) (rest := []) ⟨hx, hb, hml, hown, hts⟩ (e_X3_measureTo l dC dI cs L ka ix ad n0 n6 n2 S f h0 vv9 s.heap.size hT hk_h0 (by omega) hSy hRg) (cwV 1 hts gX3_leastTime_X3_measureTo rfl rfl rfl (by decide +kernel) ⟨Nat.le_of_ble_eq_true rfl, Nat.le_of_ble_eq_true rfl⟩) ⟨c_blind, va_recv hKc hPc (ci := 3) (q0 := q_6) rfl hq_6, c_pre hPc hKc hDc hN⟩ rfl rfl hl.1 rfl (lv_room (Nat.le_of_ble_eq_true rfl)) dX3_leastTime_18 ⟨Nat.le_of_ble_eq_true rfl, Nat.le_of_ble_eq_true rfl⟩) hS (fun q _ h => hFc q h) hFc (fun u9 t9 H1 locs ht hvm hw hB hz1 hk1 hS => ?_)
      obtain ⟨S_8, f_9, hf_x_10, hf_x_11, hf_x_12, hP1, hK1, hD1⟩ := hB
      rw [ht] at hP1
      have hK1 := va_K.moved hvm.symm hK1
      obtain ⟨hP, hD⟩ := va_joinP (X := []) (cx := []) (wr := []) (rx := []) (pl := va_pl L f) (pl1 := va_pl L f_9) hP hD [] [] rfl rfl (by decide) (by decide) hk1 hFc hP1 hD1
      have hT := hf_x_10
      generalize H1 = H at hP hS ⊢
      have hP : va_P (dC, dI) vwCl ([] ++ va_pl L f_9) H := hP
      have hD : va_D A ([] ++ va_pl L f_9) := hD
      have hFr_13 := AG.tr AG.rf hf_x_11
      refine W.widen (k := 0) (n := 0) (Nat.le_of_ble_eq_true rfl) (Nat.le_of_ble_eq_true rfl) ?_
      refine lv_aload_n hx hb dX3_leastTime_21 rfl (lv_at hl 0 rfl) ?_
      have hf_14 : f_9 h0 = .inr (3, [.ref (ad 24 0), .ref (ad 25 0), .ref (ad 31 0), .ref (ad 32 0), .ref (ad 33 0)]) := hT.get hk_h0
      obtain ⟨q_15, hq_15⟩ := pl_at (X := []) (f := f_9) (e := .inr (3, [.ref (ad 24 0), .ref (ad 25 0), .ref (ad 31 0), .ref (ad 32 0), .ref (ad 33 0)])) hk_h0.1 hf_14
      refine va_get (D := (dC, dI)) (ci := 3) (v := .ref (ad 31 0)) (C := RX3) (T := TX3) (N := 5) hx hb hts hin3 hown hK hP q_15 hq_15 rfl 2 (by decide) (hts (.fieldLink RX3 19 "YamRiders$Roads" "toGoal" "[I") (by decide +kernel)) (fun _ h9 => h9) rfl dX3_leastTime_22 ?_
      refine lv_iload_n hx hb dX3_leastTime_25 rfl (lv_at hl 1 rfl) ?_
      have hf_16 : f_9 (ad 31 0) = .inl (cs 0, 12, .inl (S_8 496 0)) := hT.get (hT.kf (k := 31) (by decide))
      obtain ⟨q_17, hq_17⟩ := pl_at (X := []) (f := f_9) (e := .inl (cs 0, 12, .inl (S_8 496 0))) (hT.kf (k := 31) (by decide)).1 hf_16
      refine va_iald hx hb hK hP q_17 0 hq_17 rfl (vp_in_nI (by omega) (by omega)) dX3_leastTime_26 ?_
      refine lv_topi (fun v_18 ev_18 => ?_)
      obtain rfl : v_18 = S_8 496 0 uu9 := ev_18.trans (by rw [(nI_clamp (by omega))])
      refine lv_ldc (v := 1000000) hx hb hown (hts (.constant RX3 42 (1000000)) (by decide +kernel)) dX3_leastTime_27 ?_
      refine lv_icmp_ge (tgt := 41) hx hb dX3_leastTime_29 (by decide) (fun c_19 => ?_) (fun c_19 => ?_)
      · refine lv_iconst (v := (-1)) hx hb dX3_leastTime_41 (by decide) ?_
        have hP9 := hP.part (cx := []) [] rfl
        have hD9 := hD.part (cx := []) [] (by decide) rfl
        have hK9 := hK.sub (tys' := []) [] rfl
        refine W.widen (k := 0) (n := 0) (Nat.le_of_ble_eq_true rfl) (Nat.le_of_ble_eq_true rfl) ?_
        exact W.iret (v := (-1)) hx hb hr (fun t9 ht hW => ⟨⟨_, (-1), rfl, rfl, S_8, f_9, hT, hFr_13, (Or.inr ⟨uu9, vv9, huu9, hvv9, rfl, rfl, hf_x_12.1, hf_x_12.2, by rw [if_neg (Int32.not_lt.mpr c_19)]⟩), by rw [ht]; exact hP9, va_K.moved hW.alike hK9, hD9⟩, hS.F ht⟩) hS.2.2 dX3_leastTime_42
      · refine lv_aload_n hx hb dX3_leastTime_32 rfl (lv_at hl 0 rfl) ?_
        obtain ⟨q_20, hq_20⟩ := pl_at (X := []) (f := f_9) (e := .inr (3, [.ref (ad 24 0), .ref (ad 25 0), .ref (ad 31 0), .ref (ad 32 0), .ref (ad 33 0)])) hk_h0.1 hf_14
        refine va_get (D := (dC, dI)) (ci := 3) (v := .ref (ad 31 0)) (C := RX3) (T := TX3) (N := 5) hx hb hts hin3 hown hK hP q_20 hq_20 rfl 2 (by decide) (hts (.fieldLink RX3 19 "YamRiders$Roads" "toGoal" "[I") (by decide +kernel)) (fun _ h9 => h9) rfl dX3_leastTime_33 ?_
        refine lv_iload_n hx hb dX3_leastTime_36 rfl (lv_at hl 1 rfl) ?_
        obtain ⟨q_21, hq_21⟩ := pl_at (X := []) (f := f_9) (e := .inl (cs 0, 12, .inl (S_8 496 0))) (hT.kf (k := 31) (by decide)).1 hf_16
        refine va_iald hx hb hK hP q_21 0 hq_21 rfl (vp_in_nI (by omega) (by omega)) dX3_leastTime_37 ?_
        refine lv_topi (fun v_22 ev_22 => ?_)
        obtain rfl : v_22 = S_8 496 0 uu9 := ev_22.trans (by rw [(nI_clamp (by omega))])
        refine lv_goto (tgt := 42) hx hb dX3_leastTime_38 (by decide) ?_
        have hP9 := hP.part (cx := []) [] rfl
        have hD9 := hD.part (cx := []) [] (by decide) rfl
        have hK9 := hK.sub (tys' := []) [] rfl
        refine W.widen (k := 0) (n := 0) (Nat.le_of_ble_eq_true rfl) (Nat.le_of_ble_eq_true rfl) ?_
        exact W.iret (v := S_8 496 0 uu9) hx hb hr (fun t9 ht hW => ⟨⟨_, S_8 496 0 uu9, rfl, rfl, S_8, f_9, hT, hFr_13, (Or.inr ⟨uu9, vv9, huu9, hvv9, rfl, rfl, hf_x_12.1, hf_x_12.2, by rw [if_pos (Int32.not_le.mp c_19)]⟩), by rw [ht]; exact hP9, va_K.moved hW.alike hK9, hD9⟩, hS.F ht⟩) hS.2.2 dX3_leastTime_42
    · refine lv_iconst (v := (-1)) hx hb dX3_leastTime_14 (by decide) ?_
      have hP9 := hP.part (cx := []) [] rfl
      have hD9 := hD.part (cx := []) [] (by decide) rfl
      have hK9 := hK.sub (tys' := []) [] rfl
      refine W.widen (k := 0) (n := 0) (Nat.le_of_ble_eq_true rfl) (Nat.le_of_ble_eq_true rfl) ?_
      exact W.iret (v := (-1)) hx hb hr (fun t9 ht hW => ⟨⟨_, (-1), rfl, rfl, S, f, hT, AG.rf, (Or.inl ⟨rfl, (Or.inr c_4)⟩), by rw [ht]; exact hP9, va_K.moved hW.alike hK9, hD9⟩, hS.F ht⟩) hS.2.2 dX3_leastTime_15
