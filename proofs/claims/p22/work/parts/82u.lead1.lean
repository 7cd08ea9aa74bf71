set_option maxHeartbeats 4000000 in
set_option maxRecDepth 100000 in
theorem l_X1_painsOver (l : Launch) (dC : Nat → ClassId) (dI : Nat → Nat → Nat) (cs : Nat → ClassId) (L : List Nat) (ka : Nat → Nat) (ix : Nat → Nat) (ad : Nat → Nat → Nat) (n0 : Nat) (n6 : Nat) (n2 : Nat) (S : Nat → Nat → Nat → Int32) (f : Nat → va_E) (h0 : Nat) (u9 : Nat) (v9 : Nat) (p2 : Int32) (sz : Nat) (hT : tB L ka ix ad cs n0 n6 n2 S f) (hk_h0 : tpx L ka ix 1 0 h0) (hu9 : u9 < 12) (hv9 : v9 < 12) : Met l yX1_painsOver wsX1_painsOver ({ frames := 1, cells := 0, slots := 0, locals := 20 }) (va_Pc [.ref h0, .int (nI u9), .int (nI v9), .int p2] (cP dC dI ([] ++ va_pl L f) (tyC cs) sz)) (vp_Si (fun r => r = poS S u9 v9 p2)) 0 0 (fun _ => False) := by
  refine Met.ofW (cc := cX1_painsOver) (maxL := 4) (ret := (some .int)) (by decide) rfl ?_
  intro p e s m args below meth c s₁ B hml hv
  obtain ⟨rfl, hsz, hP, hK, hD0, hN⟩ := hv
  have hx := B.exec
  have hb := B.bytes
  have hr := B.returns
  have hts := atoms_spec (ws := wsX1_painsOver) B.pre
  have hown : s.vm.findClass RX1 = some m.cls := findClass_of_methodNamed B.named
  have hlocks := B.notSynchronized
  subst hsz
  have hin1 : ∀ w ∈ u_ws RX1 TX1 4, w ∈ wsX1_painsOver := by decide +kernel
  have hD := hD0
  have hP : va_P (dC, dI) vwCl ([] ++ va_pl L f) s.heap := hP
  have hl := lv_entry ([.ref h0, .int (nI u9), .int (nI v9), .int p2]) (n := 4) (Nat.le_of_ble_eq_true rfl)
  rw [lg_entry_eq]
  generalize (lg_sl ([.ref h0, .int (nI u9), .int (nI v9), .int p2]) ++ List.replicate (4 - (lg_sl ([.ref h0, .int (nI u9), .int (nI v9), .int p2])).length) Slot.unset).toArray = ls at hl ⊢
  have hl : lv_has ls 4 [(0, .ref h0), (1, .int (nI u9)), (2, .int (nI v9)), (3, .int p2)] := hl
  refine lv_iload_n hx hb dX1_painsOver_0 rfl (lv_at hl 1 rfl) ?_
  have hPc := hP.sub (ws' := []) [] rfl
  have hDc := hD.sub (ws' := []) [] (by decide) rfl
  have hKc := hK.sub (tys' := []) [] rfl
  refine cs_i (va_runSN (As := [.int (nI u9)]) (rest := []) ⟨hx, hb, hml, hown, hts⟩ (c_X8_isStation l dC dI (nI u9) s.heap.size) ⟨va_cnB 1 hts ggX1_painsOver_X8_isStation rfl rfl rfl (hN.1 (.methodLinkNest RX1 26 yX8_isStation "YamRiders") (by decide +kernel)) (hts (.initialized RX8) (by decide +kernel)) (by decide +kernel) ⟨Nat.le_of_ble_eq_true rfl, Nat.le_of_ble_eq_true rfl⟩, hts (.static yX8_isStation) (by decide +kernel), trivial⟩ ⟨c_blind, c_pre hPc hKc hDc hN⟩ rfl rfl hl.1 rfl (lv_room (Nat.le_of_ble_eq_true rfl)) dX1_painsOver_1 ⟨Nat.le_of_ble_eq_true rfl, Nat.le_of_ble_eq_true rfl⟩) (fun r_1 hr_1 => ?_)
  subst hr_1
  refine lv_if_eq (tgt := 30) hx hb dX1_painsOver_4 (by decide) (fun c_2 => by first | exact absurd c_2 (st_nz (by omega)) | exact absurd (st_nz (by omega)) c_2) (fun _ => ?_)
  refine lv_iload_n hx hb dX1_painsOver_7 rfl (lv_at hl 2 rfl) ?_
  have hPc := hP.sub (ws' := []) [] rfl
  have hDc := hD.sub (ws' := []) [] (by decide) rfl
  have hKc := hK.sub (tys' := []) [] rfl
  refine cs_i (va_runSN (As := [.int (nI v9)]) (rest := []) ⟨hx, hb, hml, hown, hts⟩ (c_X8_isStation l dC dI (nI v9) s.heap.size) ⟨va_cnB 1 hts ggX1_painsOver_X8_isStation rfl rfl rfl (hN.1 (.methodLinkNest RX1 26 yX8_isStation "YamRiders") (by decide +kernel)) (hts (.initialized RX8) (by decide +kernel)) (by decide +kernel) ⟨Nat.le_of_ble_eq_true rfl, Nat.le_of_ble_eq_true rfl⟩, hts (.static yX8_isStation) (by decide +kernel), trivial⟩ ⟨c_blind, c_pre hPc hKc hDc hN⟩ rfl rfl hl.1 rfl (lv_room (Nat.le_of_ble_eq_true rfl)) dX1_painsOver_8 ⟨Nat.le_of_ble_eq_true rfl, Nat.le_of_ble_eq_true rfl⟩) (fun r_3 hr_3 => ?_)
  subst hr_3
  refine lv_if_eq (tgt := 30) hx hb dX1_painsOver_11 (by decide) (fun c_4 => by first | exact absurd c_4 (st_nz (by omega)) | exact absurd (st_nz (by omega)) c_4) (fun _ => ?_)
  refine lv_aload_n hx hb dX1_painsOver_14 rfl (lv_at hl 0 rfl) ?_
  have hf_5 : f h0 = .inr (1, [.ref (ad 41 0), .ref (ad 42 0), .ref (ad 43 0), .ref (ad 44 0)]) := hT.get hk_h0
  obtain ⟨q_6, hq_6⟩ := pl_at (X := []) (f := f) (e := .inr (1, [.ref (ad 41 0), .ref (ad 42 0), .ref (ad 43 0), .ref (ad 44 0)])) hk_h0.1 hf_5
  refine va_get (D := (dC, dI)) (ci := 1) (v := .ref (ad 42 0)) (C := RX1) (T := TX1) (N := 4) hx hb hts hin1 hown hK hP q_6 hq_6 rfl 1 (by decide) (hts (.fieldLink RX1 17 "YamRiders$Leader" "led" "[[I") (by decide +kernel)) (fun _ h9 => h9) rfl dX1_painsOver_15 ?_
  refine lv_iload_n hx hb dX1_painsOver_18 rfl (lv_at hl 2 rfl) ?_
  have hf_7 : f (ad 42 0) = .inl (cs 2, 12, .inr (.inr (.inr (.inr (gl ad 45 12))))) := hT.get (hT.kf (k := 42) (by decide))
  obtain ⟨q_8, hq_8⟩ := pl_at (X := []) (f := f) (e := .inl (cs 2, 12, .inr (.inr (.inr (.inr (gl ad 45 12)))))) (hT.kf (k := 42) (by decide)).1 hf_7
  refine va_aldg hx hb hK hP q_8 2 hq_8 rfl (vp_in_nI (by omega) (by omega)) (show gl ad 45 12 (nI v9).toNatClampNeg = some (ad 45 v9) from by rw [(nI_clamp (by omega))]; exact gl_p (by omega)) dX1_painsOver_19 ?_
  refine lv_iload_n hx hb dX1_painsOver_20 rfl (lv_at hl 1 rfl) ?_
  have hf_9 : f (ad 45 v9) = .inl (cs 0, 12, .inl (S 720 v9)) := hT.get (hT.k45 (i := v9) (by omega))
  obtain ⟨q_10, hq_10⟩ := pl_at (X := []) (f := f) (e := .inl (cs 0, 12, .inl (S 720 v9))) (hT.k45 (i := v9) (by omega)).1 hf_9
  refine va_iald hx hb hK hP q_10 0 hq_10 rfl (vp_in_nI (by omega) (by omega)) dX1_painsOver_21 ?_
  refine lv_topi (fun v_11 ev_11 => ?_)
  obtain rfl : v_11 = S 720 v9 u9 := ev_11.trans (by rw [(nI_clamp (by omega))])
  refine lv_if_le (tgt := 30) hx hb dX1_painsOver_22 (by decide) (fun c_12 => ?_) (fun c_12 => ?_)
  · refine lv_iload_n hx hb dX1_painsOver_30 rfl (lv_at hl 3 rfl) ?_
    exact W.iret (v := p2) hx hb hr (fun t9 ht hW => ⟨_, rfl, (by unfold poS; rw [if_pos c_12]), ht⟩) (fun q h => nomatch h) dX1_painsOver_31
  · refine lv_iload_n hx hb dX1_painsOver_25 rfl (lv_at hl 3 rfl) ?_
    refine lv_ineg hx hb dX1_painsOver_26 ?_
    refine lv_topi (fun v_13 ev_13 => ?_)
    refine lv_goto (tgt := 31) hx hb dX1_painsOver_27 (by decide) ?_
    exact W.iret (v := v_13) hx hb hr (fun t9 ht hW => ⟨_, rfl, (ev_13.trans (by unfold poS; rw [if_neg c_12])), ht⟩) (fun q h => nomatch h) dX1_painsOver_31

set_option maxHeartbeats 4000000 in
set_option maxRecDepth 100000 in
theorem l_X1_spreadFrom (l : Launch) (dC : Nat → ClassId) (dI : Nat → Nat → Nat) (cs : Nat → ClassId) (L : List Nat) (ka : Nat → Nat) (ix : Nat → Nat) (ad : Nat → Nat → Nat) (n0 : Nat) (n6 : Nat) (n2 : Nat) (S : Nat → Nat → Nat → Int32) (f : Nat → va_E) (h0 : Nat) (u9 : Nat) (e1 : Nat) (pp9 : Nat → Int) (sz : Nat) (hT : tB L ka ix ad cs n0 n6 n2 S f) (hk_h0 : tpx L ka ix 1 0 h0) (hk_e1 : tpx L ka ix 3 0 e1) (hu9 : u9 < 12) (hSy : Sy S) (hRg : RgS S) (hPC : PCs S pp9) (hCB : CBs S S pp9) (hpf : paI S u9 < 1000000) : Met l yX1_spreadFrom wsX1_spreadFrom ({ frames := 2, cells := 0, slots := 0, locals := 43 }) (va_Pc [.ref h0, .int (nI u9), .ref e1] (cP dC dI ([] ++ va_pl L f) (tyC cs) sz)) (va_Qi (fun (r rv : Int32) => r = rv) (fun (rv : Int32) t9 => ∃ (S2 : Nat → Nat → Nat → Int32) (f2 : Nat → va_E), (tB L ka ix ad cs n0 n6 n2 S2 f2) ∧ (AG S S2) ∧ (SFk S S2 pp9 u9 12 rv) ∧ (rv = 0 ∨ rv = 1) ∧ cQ dC dI ([] ++ va_pl L f2) [] (va_A ([] ++ va_pl L f) sz) t9) (va_A ([] ++ va_pl L f) sz)) 0 0 (va_A ([] ++ va_pl L f) sz) := by
  refine Met.ofW (cc := cX1_spreadFrom) (maxL := 6) (ret := (some .boolean)) (by decide) rfl ?_
  intro p e s m args below meth c s₁ B hml hv
  obtain ⟨rfl, hsz, hP, hK, hD0, hN⟩ := hv
  have hx := B.exec
  have hb := B.bytes
  have hr := B.returns
  have hts := atoms_spec (ws := wsX1_spreadFrom) B.pre
  have hown : s.vm.findClass RX1 = some m.cls := findClass_of_methodNamed B.named
  have hlocks := B.notSynchronized
  subst hsz
  have hin1 : ∀ w ∈ u_ws RX1 TX1 4, w ∈ wsX1_spreadFrom := by decide +kernel
  have hD := hD0.self (sz := s.heap.size)
  generalize hAe : va_A ([] ++ va_pl L f) s.heap.size = A at hD ⊢
  have hA : ∀ q : Nat, s.heap.size ≤ q → A q := fun q h => by rw [← hAe]; exact Or.inr h
  have hS : va_S A s.heap s.heap [] := va_S.rf
  have hP : va_P (dC, dI) vwCl ([] ++ va_pl L f) s.heap := hP
  have hl := lv_entry ([.ref h0, .int (nI u9), .ref e1]) (n := 6) (Nat.le_of_ble_eq_true rfl)
  rw [lg_entry_eq]
  generalize (lg_sl ([.ref h0, .int (nI u9), .ref e1]) ++ List.replicate (6 - (lg_sl ([.ref h0, .int (nI u9), .ref e1])).length) Slot.unset).toArray = ls at hl ⊢
  have hl : lv_has ls 6 [(0, .ref h0), (1, .int (nI u9)), (2, .ref e1)] := hl
  refine lv_iconst (v := 0) hx hb dX1_spreadFrom_0 (by decide) ?_
  refine lv_istore_n (lv' := [(3, .int 0), (0, .ref h0), (1, .int (nI u9)), (2, .ref e1)]) hx hb dX1_spreadFrom_1 rfl hl (by decide) rfl (fun ls hl => ?_)
  refine lv_iconst (v := 0) hx hb dX1_spreadFrom_2 (by decide) ?_
  refine lv_istore (lv' := [(4, .int 0), (3, .int 0), (0, .ref h0), (1, .int (nI u9)), (2, .ref e1)]) hx hb dX1_spreadFrom_3 hl (by decide) rfl (fun ls hl => ?_)
  have HL : ∀ (n k : Nat) (x3 : Int32) (S8 : Nat → Nat → Nat → Int32), k ≤ 12 → 12 + 1 ≤ k + n → (AG S S8) → (x3 = 0 ∨ x3 = 1) → (SFk S S8 pp9 u9 k x3) → ∀ (f_1 : Nat → va_E) (H : Heap) (locs : List Loc), tB L ka ix ad cs n0 n6 n2 S8 f_1 → va_P (dC, dI) vwCl ([] ++ va_pl L f_1) H → va_D A ([] ++ va_pl L f_1) → va_S A s.heap H locs → ∀ ls : Array Slot, lv_has ls 6 [(0, .ref h0), (1, .int (nI u9)), (2, .ref e1), (3, .int x3), (4, .int (nI k))] → W p l e (headSpec wsX1_spreadFrom ({ frames := 2, cells := 0, slots := 0, locals := 43 })).room s m ([.ref h0, .int (nI u9), .ref e1]).toArray below meth c H locs 0 0 (MQ below (va_Qi (fun (r rv : Int32) => r = rv) (fun (rv : Int32) t9 => ∃ (S2 : Nat → Nat → Nat → Int32) (f2 : Nat → va_E), (tB L ka ix ad cs n0 n6 n2 S2 f2) ∧ (AG S S2) ∧ (SFk S S2 pp9 u9 12 rv) ∧ (rv = 0 ∨ rv = 1) ∧ cQ dC dI ([] ++ va_pl L f2) [] A t9) A) ([.ref h0, .int (nI u9), .ref e1]).toArray s 0 0 A) (F0 m 5 ls []) := by
    intro n
    induction n with
    | zero => intro k x3 S8 h1 h2; exact absurd h2 (by omega)
    | succ n ih =>
      intro k x3 S8 hk hn hFrS8 h01 hSF f_1 H locs hT hP hD hS ls hl
      refine lv_iload hx hb dX1_spreadFrom_5 (lv_at hl 4 rfl) ?_
      refine lv_bipush (v := 12) hx hb dX1_spreadFrom_7 (by decide) ?_
      refine lv_icmp_ge (tgt := 99) hx hb dX1_spreadFrom_9 (by decide) (fun c_2 => ?_) (fun c_2 => ?_)
      · have hke : k = 12 := by
          rcases Nat.lt_or_ge k 12 with q | q
          · exact absurd c_2 (nI_ge q (by decide))
          · omega
        refine lv_iload_n hx hb dX1_spreadFrom_99 rfl (lv_at hl 3 rfl) ?_
        have hP9 := hP.part (cx := []) [] rfl
        have hD9 := hD.part (cx := []) [] (by decide) rfl
        have hK9 := hK.sub (tys' := []) [] rfl
        refine W.widen (k := 0) (n := 0) (Nat.le_of_ble_eq_true rfl) (Nat.le_of_ble_eq_true rfl) ?_
        exact W.zret (v := x3) hx hb hr (nz01 h01) (fun t9 ht hW => ⟨⟨_, x3, rfl, rfl, S8, f_1, hT, hFrS8, (hke ▸ hSF), h01, by rw [ht]; exact hP9, va_K.moved hW.alike hK9, hD9⟩, hS.F ht⟩) hS.2.2 dX1_spreadFrom_100
      · have hlt : k < 12 := by
          rcases Nat.lt_or_ge k 12 with q | q
          · exact q
          · exact absurd (show nI 12 ≤ nI k from nI_le q (by omega)) c_2
        refine lv_iload_n hx hb dX1_spreadFrom_12 rfl (lv_at hl 1 rfl) ?_
        have hPc := hP.sub (ws' := []) [] rfl
        have hDc := hD.sub (ws' := []) [] (by decide) rfl
        have hKc := hK.sub (tys' := []) [] rfl
        refine cs_i (va_runSN (As := [.int (nI u9)]) (rest := []) ⟨hx, hb, hml, hown, hts⟩ (c_X8_isStation l dC dI (nI u9) H.size) ⟨va_cnB 1 hts ggX1_spreadFrom_X8_isStation rfl rfl rfl (hN.1 (.methodLinkNest RX1 26 yX8_isStation "YamRiders") (by decide +kernel)) (hts (.initialized RX8) (by decide +kernel)) (by decide +kernel) ⟨Nat.le_of_ble_eq_true rfl, Nat.le_of_ble_eq_true rfl⟩, hts (.static yX8_isStation) (by decide +kernel), trivial⟩ ⟨c_blind, c_pre hPc hKc hDc hN⟩ rfl rfl hl.1 rfl (lv_room (Nat.le_of_ble_eq_true rfl)) dX1_spreadFrom_13 ⟨Nat.le_of_ble_eq_true rfl, Nat.le_of_ble_eq_true rfl⟩) (fun r_3 hr_3 => ?_)
        subst hr_3
        refine lv_if_eq (tgt := 99) hx hb dX1_spreadFrom_16 (by decide) (fun c_4 => by first | exact absurd c_4 (st_nz (by omega)) | exact absurd (st_nz (by omega)) c_4) (fun _ => ?_)
        refine lv_aload_n hx hb dX1_spreadFrom_19 rfl (lv_at hl 2 rfl) ?_
        refine lv_iload_n hx hb dX1_spreadFrom_20 rfl (lv_at hl 1 rfl) ?_
        refine lv_iload hx hb dX1_spreadFrom_21 (lv_at hl 4 rfl) ?_
        have hPc := hP.part (cx := []) [] rfl
        have hDc := hD.part (cx := []) [] (by decide) rfl
        have hKc := hK
        have hf_5 : f_1 e1 = .inr (3, [.ref (ad 24 0), .ref (ad 25 0), .ref (ad 31 0), .ref (ad 32 0), .ref (ad 33 0)]) := hT.get hk_e1
        obtain ⟨q_6, hq_6⟩ := pl_at (X := []) (f := f_1) (e := .inr (3, [.ref (ad 24 0), .ref (ad 25 0), .ref (ad 31 0), .ref (ad 32 0), .ref (ad 33 0)])) hk_e1.1 hf_5
        refine cs_i (va_runV (As := [.int (nI u9), .int (nI k)]) (rest := []) ⟨hx, hb, hml, hown, hts⟩ (e_X3_timeN l dC dI cs L ka ix ad n0 n6 n2 S8 f_1 e1 u9 k H.size hT hk_e1 (by omega) (by omega)) (cwV 2 hts gX1_spreadFrom_X3_timeBetween rfl rfl rfl (by decide +kernel) ⟨Nat.le_of_ble_eq_true rfl, Nat.le_of_ble_eq_true rfl⟩) ⟨c_blind, va_recv hKc hPc (ci := 3) (q0 := q_6) rfl hq_6, c_pre hPc hKc hDc hN⟩ rfl rfl hl.1 rfl (lv_room (Nat.le_of_ble_eq_true rfl)) dX1_spreadFrom_23 ⟨Nat.le_of_ble_eq_true rfl, Nat.le_of_ble_eq_true rfl⟩) (fun r_7 hr_7 => ?_)
        subst hr_7
        refine lv_istore (lv' := [(5, .int (tmN S8 u9 k)), (0, .ref h0), (1, .int (nI u9)), (2, .ref e1), (3, .int x3), (4, .int (nI k))]) hx hb dX1_spreadFrom_26 hl (by decide) rfl (fun ls hl => ?_)
        refine lv_iload hx hb dX1_spreadFrom_28 (lv_at hl 0 rfl) ?_
        refine lv_iconst (v := (-1)) hx hb dX1_spreadFrom_30 (by decide) ?_
        refine lv_icmp_eq (tgt := 93) hx hb dX1_spreadFrom_31 (by decide) (fun c_8 => ?_) (fun c_8 => ?_)
        · refine lv_iinc (v := nI (k + 1)) (lv' := [(4, .int (nI (k + 1))), (5, .int (tmN S8 u9 k)), (0, .ref h0), (1, .int (nI u9)), (2, .ref e1), (3, .int x3)]) hx hb dX1_spreadFrom_93 hl (k := 5) rfl (by exact (nI_1 k)) (by decide) rfl (fun ls hl => ?_)
          refine lv_goto (tgt := 5) hx hb dX1_spreadFrom_96 (by decide) ?_
          exact ih (k + 1) x3 S8 (by omega) (by omega) hFrS8 h01 (SF_n hSF c_8 hRg) _ _ _ hT (hP.part (cx := _) [] rfl) (hD.part (cx := _) [] (by decide) rfl) hS ls (lv_sub hl [2, 3, 4, 5, 0] rfl)
        · refine lv_aload_n hx hb dX1_spreadFrom_34 rfl (lv_at hl 1 rfl) ?_
          have hf_9 : f_1 h0 = .inr (1, [.ref (ad 41 0), .ref (ad 42 0), .ref (ad 43 0), .ref (ad 44 0)]) := hT.get hk_h0
          obtain ⟨q_10, hq_10⟩ := pl_at (X := []) (f := f_1) (e := .inr (1, [.ref (ad 41 0), .ref (ad 42 0), .ref (ad 43 0), .ref (ad 44 0)])) hk_h0.1 hf_9
          refine va_get (D := (dC, dI)) (ci := 1) (v := .ref (ad 43 0)) (C := RX1) (T := TX1) (N := 4) hx hb hts hin1 hown hK hP q_10 hq_10 rfl 2 (by decide) (hts (.fieldLink RX1 20 "YamRiders$Leader" "pains" "[I") (by decide +kernel)) (fun _ h9 => h9) rfl dX1_spreadFrom_35 ?_
          refine lv_iload_n hx hb dX1_spreadFrom_38 rfl (lv_at hl 2 rfl) ?_
          have hf_11 : f_1 (ad 43 0) = .inl (cs 0, 12, .inl (S8 688 0)) := hT.get (hT.kf (k := 43) (by decide))
          obtain ⟨q_12, hq_12⟩ := pl_at (X := []) (f := f_1) (e := .inl (cs 0, 12, .inl (S8 688 0))) (hT.kf (k := 43) (by decide)).1 hf_11
          refine va_iald hx hb hK hP q_12 0 hq_12 rfl (vp_in_nI (by omega) (by omega)) dX1_spreadFrom_39 ?_
          refine lv_topi (fun v_13 ev_13 => ?_)
          obtain rfl : v_13 = S8 688 0 u9 := ev_13.trans (by rw [(nI_clamp (by omega))])
          refine lv_aload_n hx hb dX1_spreadFrom_40 rfl (lv_at hl 1 rfl) ?_
          refine lv_iload_n hx hb dX1_spreadFrom_41 rfl (lv_at hl 2 rfl) ?_
          refine lv_iload hx hb dX1_spreadFrom_42 (lv_at hl 5 rfl) ?_
          refine lv_iload hx hb dX1_spreadFrom_44 (lv_at hl 0 rfl) ?_
          have hPc := hP.part (cx := []) [] rfl
          have hDc := hD.part (cx := []) [] (by decide) rfl
          have hKc := hK
          obtain ⟨q_14, hq_14⟩ := pl_at (X := []) (f := f_1) (e := .inr (1, [.ref (ad 41 0), .ref (ad 42 0), .ref (ad 43 0), .ref (ad 44 0)])) hk_h0.1 hf_9
          refine cs_i (va_runV (As := [.int (nI u9), .int (nI k), .int (tmN S8 u9 k)]) (rest := [.int (S8 688 0 u9)]) ⟨hx, hb, hml, hown, hts⟩ (l_X1_painsOver l dC dI cs L ka ix ad n0 n6 n2 S8 f_1 h0 u9 k (tmN S8 u9 k) H.size hT hk_h0 (by omega) (by omega)) (cwV 3 hts gX1_spreadFrom_X1_painsOver rfl rfl rfl (by decide +kernel) ⟨Nat.le_of_ble_eq_true rfl, Nat.le_of_ble_eq_true rfl⟩) ⟨c_blind, va_recv hKc hPc (ci := 1) (q0 := q_14) rfl hq_14, c_pre hPc hKc hDc hN⟩ rfl rfl hl.1 rfl (lv_room (Nat.le_of_ble_eq_true rfl)) dX1_spreadFrom_46 ⟨Nat.le_of_ble_eq_true rfl, Nat.le_of_ble_eq_true rfl⟩) (fun r_15 hr_15 => ?_)
          subst hr_15
          refine lv_iadd hx hb dX1_spreadFrom_49 ?_
          refine lv_aload_n hx hb dX1_spreadFrom_50 rfl (lv_at hl 1 rfl) ?_
          obtain ⟨q_16, hq_16⟩ := pl_at (X := []) (f := f_1) (e := .inr (1, [.ref (ad 41 0), .ref (ad 42 0), .ref (ad 43 0), .ref (ad 44 0)])) hk_h0.1 hf_9
          refine va_get (D := (dC, dI)) (ci := 1) (v := .ref (ad 43 0)) (C := RX1) (T := TX1) (N := 4) hx hb hts hin1 hown hK hP q_16 hq_16 rfl 2 (by decide) (hts (.fieldLink RX1 20 "YamRiders$Leader" "pains" "[I") (by decide +kernel)) (fun _ h9 => h9) rfl dX1_spreadFrom_51 ?_
          refine lv_iload hx hb dX1_spreadFrom_54 (lv_at hl 5 rfl) ?_
          obtain ⟨q_17, hq_17⟩ := pl_at (X := []) (f := f_1) (e := .inl (cs 0, 12, .inl (S8 688 0))) (hT.kf (k := 43) (by decide)).1 hf_11
          refine va_iald hx hb hK hP q_17 0 hq_17 rfl (vp_in_nI (by omega) (by omega)) dX1_spreadFrom_56 ?_
          refine lv_topi (fun v_18 ev_18 => ?_)
          obtain rfl : v_18 = S8 688 0 k := ev_18.trans (by rw [(nI_clamp (by omega))])
          refine lv_icmp_ge (tgt := 93) hx hb dX1_spreadFrom_57 (by decide) (fun c_19 => ?_) (fun c_19 => ?_)
          · refine lv_iinc (v := nI (k + 1)) (lv' := [(4, .int (nI (k + 1))), (5, .int (tmN S8 u9 k)), (0, .ref h0), (1, .int (nI u9)), (2, .ref e1), (3, .int x3)]) hx hb dX1_spreadFrom_93 hl (k := 5) rfl (by exact (nI_1 k)) (by decide) rfl (fun ls hl => ?_)
            refine lv_goto (tgt := 5) hx hb dX1_spreadFrom_96 (by decide) ?_
            exact ih (k + 1) x3 S8 (by omega) (by omega) hFrS8 h01 (SF_k hPC hRg hSF c_19) _ _ _ hT (hP.part (cx := _) [] rfl) (hD.part (cx := _) [] (by decide) rfl) hS ls (lv_sub hl [2, 3, 4, 5, 0] rfl)
          · refine lv_aload_n hx hb dX1_spreadFrom_60 rfl (lv_at hl 1 rfl) ?_
            obtain ⟨q_20, hq_20⟩ := pl_at (X := []) (f := f_1) (e := .inr (1, [.ref (ad 41 0), .ref (ad 42 0), .ref (ad 43 0), .ref (ad 44 0)])) hk_h0.1 hf_9
            refine va_get (D := (dC, dI)) (ci := 1) (v := .ref (ad 43 0)) (C := RX1) (T := TX1) (N := 4) hx hb hts hin1 hown hK hP q_20 hq_20 rfl 2 (by decide) (hts (.fieldLink RX1 20 "YamRiders$Leader" "pains" "[I") (by decide +kernel)) (fun _ h9 => h9) rfl dX1_spreadFrom_61 ?_
            refine lv_iload hx hb dX1_spreadFrom_64 (lv_at hl 5 rfl) ?_
            refine lv_aload_n hx hb dX1_spreadFrom_66 rfl (lv_at hl 1 rfl) ?_
            obtain ⟨q_21, hq_21⟩ := pl_at (X := []) (f := f_1) (e := .inr (1, [.ref (ad 41 0), .ref (ad 42 0), .ref (ad 43 0), .ref (ad 44 0)])) hk_h0.1 hf_9
            refine va_get (D := (dC, dI)) (ci := 1) (v := .ref (ad 43 0)) (C := RX1) (T := TX1) (N := 4) hx hb hts hin1 hown hK hP q_21 hq_21 rfl 2 (by decide) (hts (.fieldLink RX1 20 "YamRiders$Leader" "pains" "[I") (by decide +kernel)) (fun _ h9 => h9) rfl dX1_spreadFrom_67 ?_
            refine lv_iload_n hx hb dX1_spreadFrom_70 rfl (lv_at hl 2 rfl) ?_
            obtain ⟨q_22, hq_22⟩ := pl_at (X := []) (f := f_1) (e := .inl (cs 0, 12, .inl (S8 688 0))) (hT.kf (k := 43) (by decide)).1 hf_11
            refine va_iald hx hb hK hP q_22 0 hq_22 rfl (vp_in_nI (by omega) (by omega)) dX1_spreadFrom_71 ?_
            refine lv_topi (fun v_23 ev_23 => ?_)
            obtain rfl : v_23 = S8 688 0 u9 := ev_23.trans (by rw [(nI_clamp (by omega))])
            refine lv_aload_n hx hb dX1_spreadFrom_72 rfl (lv_at hl 1 rfl) ?_
            refine lv_iload_n hx hb dX1_spreadFrom_73 rfl (lv_at hl 2 rfl) ?_
            refine lv_iload hx hb dX1_spreadFrom_74 (lv_at hl 5 rfl) ?_
            refine lv_iload hx hb dX1_spreadFrom_76 (lv_at hl 0 rfl) ?_
            have hPc := hP.part (cx := []) [] rfl
            have hDc := hD.part (cx := []) [] (by decide) rfl
            have hKc := hK
            obtain ⟨q_24, hq_24⟩ := pl_at (X := []) (f := f_1) (e := .inr (1, [.ref (ad 41 0), .ref (ad 42 0), .ref (ad 43 0), .ref (ad 44 0)])) hk_h0.1 hf_9
            refine cs_i (va_runV (As := [.int (nI u9), .int (nI k), .int (tmN S8 u9 k)]) (rest := [.int (S8 688 0 u9), .int (nI k), .ref (ad 43 0)]) ⟨hx, hb, hml, hown, hts⟩ (l_X1_painsOver l dC dI cs L ka ix ad n0 n6 n2 S8 f_1 h0 u9 k (tmN S8 u9 k) H.size hT hk_h0 (by omega) (by omega)) (cwV 3 hts gX1_spreadFrom_X1_painsOver rfl rfl rfl (by decide +kernel) ⟨Nat.le_of_ble_eq_true rfl, Nat.le_of_ble_eq_true rfl⟩) ⟨c_blind, va_recv hKc hPc (ci := 1) (q0 := q_24) rfl hq_24, c_pre hPc hKc hDc hN⟩ rfl rfl hl.1 rfl (lv_room (Nat.le_of_ble_eq_true rfl)) dX1_spreadFrom_78 ⟨Nat.le_of_ble_eq_true rfl, Nat.le_of_ble_eq_true rfl⟩) (fun r_25 hr_25 => ?_)
            subst hr_25
            refine lv_iadd hx hb dX1_spreadFrom_81 ?_
            obtain ⟨q_26, hq_26⟩ := pl_at (X := []) (f := f_1) (e := .inl (cs 0, 12, .inl (S8 688 0))) (hT.kf (k := 43) (by decide)).1 hf_11
            refine va_iast hx hb hK hP hD hS q_26 0 hq_26 rfl (vp_in_nI (by omega) (by omega)) dX1_spreadFrom_82 (fun H locs hP9 hD9 hS => ?_)
            have hs_27 := pl_st (.inl (cs 0, 12, .inl (upd (S8 688 0) (nI k).toNatClampNeg ((S8 688 0 u9) + (poS S8 u9 k (tmN S8 u9 k)))))) hD (hT.kf (k := 43) (by decide)).1 hf_11 hq_26
            have hP9 : va_P (dC, dI) vwCl ((([] : va_W) ++ va_pl L f_1).set q_26 ((ad 43 0), .inl (cs 0, 12, .inl (upd (S8 688 0) (nI k).toNatClampNeg ((S8 688 0 u9) + (poS S8 u9 k (tmN S8 u9 k))))))) H := hP9
            have hD9 : va_D A ((([] : va_W) ++ va_pl L f_1).set q_26 ((ad 43 0), .inl (cs 0, 12, .inl (upd (S8 688 0) (nI k).toNatClampNeg ((S8 688 0 u9) + (poS S8 u9 k (tmN S8 u9 k))))))) := hD9
            rw [hs_27] at hP9 hD9
            have hT := hT.up (c := 688) (j := k) (v := ((S8 688 0 u9) + (poS S8 u9 k (tmN S8 u9 k)))) (e := .inl (cs 0, 12, .inl (upd (S8 688 0) (nI k).toNatClampNeg ((S8 688 0 u9) + (poS S8 u9 k (tmN S8 u9 k)))))) (hT.kf (k := 43) (by decide)) rfl (hT.2.2.up (by decide) (by decide) (by decide)) (by simp only [EN]; rw [up3_a, (nI_clamp (by omega))])
            have hP := hP9
            have hD := hD9
            clear hP9 hD9 hs_27
            obtain ⟨S_29, eS_29⟩ : ∃ S9 : Nat → Nat → Nat → Int32, S9 = up3 S8 688 0 k ((S8 688 0 u9) + (poS S8 u9 k (tmN S8 u9 k))) := ⟨_, rfl⟩
            rw [← eS_29] at hT
            generalize va_up f_1 (ad 43 0) (.inl (cs 0, 12, .inl (upd (S8 688 0) (nI k).toNatClampNeg ((S8 688 0 u9) + (poS S8 u9 k (tmN S8 u9 k)))))) = f_28 at hP hD hT
            have hFr_30 : AG S S_29 := by rw [eS_29]; exact AG.up hFrS8 (by decide)
            refine lv_aload_n hx hb dX1_spreadFrom_83 rfl (lv_at hl 1 rfl) ?_
            have hf_31 : f_28 h0 = .inr (1, [.ref (ad 41 0), .ref (ad 42 0), .ref (ad 43 0), .ref (ad 44 0)]) := hT.get hk_h0
            obtain ⟨q_32, hq_32⟩ := pl_at (X := []) (f := f_28) (e := .inr (1, [.ref (ad 41 0), .ref (ad 42 0), .ref (ad 43 0), .ref (ad 44 0)])) hk_h0.1 hf_31
            refine va_get (D := (dC, dI)) (ci := 1) (v := .ref (ad 44 0)) (C := RX1) (T := TX1) (N := 4) hx hb hts hin1 hown hK hP q_32 hq_32 rfl 3 (by decide) (hts (.fieldLink RX1 23 "YamRiders$Leader" "from" "[I") (by decide +kernel)) (fun _ h9 => h9) rfl dX1_spreadFrom_84 ?_
            refine lv_iload hx hb dX1_spreadFrom_87 (lv_at hl 5 rfl) ?_
            refine lv_iload_n hx hb dX1_spreadFrom_89 rfl (lv_at hl 2 rfl) ?_
            have hf_33 : f_28 (ad 44 0) = .inl (cs 0, 12, .inl (S_29 704 0)) := hT.get (hT.kf (k := 44) (by decide))
            obtain ⟨q_34, hq_34⟩ := pl_at (X := []) (f := f_28) (e := .inl (cs 0, 12, .inl (S_29 704 0))) (hT.kf (k := 44) (by decide)).1 hf_33
            refine va_iast hx hb hK hP hD hS q_34 0 hq_34 rfl (vp_in_nI (by omega) (by omega)) dX1_spreadFrom_90 (fun H locs hP9 hD9 hS => ?_)
            have hs_35 := pl_st (.inl (cs 0, 12, .inl (upd (S_29 704 0) (nI k).toNatClampNeg (nI u9)))) hD (hT.kf (k := 44) (by decide)).1 hf_33 hq_34
            have hP9 : va_P (dC, dI) vwCl ((([] : va_W) ++ va_pl L f_28).set q_34 ((ad 44 0), .inl (cs 0, 12, .inl (upd (S_29 704 0) (nI k).toNatClampNeg (nI u9))))) H := hP9
            have hD9 : va_D A ((([] : va_W) ++ va_pl L f_28).set q_34 ((ad 44 0), .inl (cs 0, 12, .inl (upd (S_29 704 0) (nI k).toNatClampNeg (nI u9))))) := hD9
            rw [hs_35] at hP9 hD9
            have hT := hT.up (c := 704) (j := k) (v := (nI u9)) (e := .inl (cs 0, 12, .inl (upd (S_29 704 0) (nI k).toNatClampNeg (nI u9)))) (hT.kf (k := 44) (by decide)) rfl (hT.2.2.up (by decide) (by decide) (by decide)) (by simp only [EN]; rw [up3_a, (nI_clamp (by omega))])
            have hP := hP9
            have hD := hD9
            clear hP9 hD9 hs_35
            obtain ⟨S_37, eS_37⟩ : ∃ S9 : Nat → Nat → Nat → Int32, S9 = up3 S_29 704 0 k (nI u9) := ⟨_, rfl⟩
            rw [← eS_37] at hT
            generalize va_up f_28 (ad 44 0) (.inl (cs 0, 12, .inl (upd (S_29 704 0) (nI k).toNatClampNeg (nI u9)))) = f_36 at hP hD hT
            have hFr_38 : AG S S_37 := by rw [eS_37]; exact AG.up hFr_30 (by decide)
            refine lv_iconst (v := 1) hx hb dX1_spreadFrom_91 (by decide) ?_
            refine lv_istore_n (lv' := [(3, .int 1), (5, .int (tmN S8 u9 k)), (0, .ref h0), (1, .int (nI u9)), (2, .ref e1), (4, .int (nI k))]) hx hb dX1_spreadFrom_92 rfl hl (by decide) rfl (fun ls hl => ?_)
            refine lv_iinc (v := nI (k + 1)) (lv' := [(4, .int (nI (k + 1))), (3, .int 1), (5, .int (tmN S8 u9 k)), (0, .ref h0), (1, .int (nI u9)), (2, .ref e1)]) hx hb dX1_spreadFrom_93 hl (k := 5) rfl (by exact (nI_1 k)) (by decide) rfl (fun ls hl => ?_)
            refine lv_goto (tgt := 5) hx hb dX1_spreadFrom_96 (by decide) ?_
            exact ih (k + 1) 1 S_37 (by omega) (by omega) hFr_38 (Or.inr rfl) (by rw [eS_37, eS_29]; exact SF_u hPC hSy hRg hSF hu9 (by omega) c_8 hpf c_19) _ _ _ hT (hP.part (cx := _) [] rfl) (hD.part (cx := _) [] (by decide) rfl) hS ls (lv_sub hl [3, 4, 5, 1, 0] rfl)
  exact HL 13 0 0 S (by omega) (by omega) AG.rf (Or.inl rfl) (SF_0 hCB) _ _ _ hT (hP.part (cx := _) [] rfl) (hD.part (cx := _) [] (by decide) rfl) hS ls (lv_sub hl [2, 3, 4, 1, 0] rfl)

set_option maxHeartbeats 4000000 in
set_option maxRecDepth 100000 in
theorem l_X1_spread (l : Launch) (dC : Nat → ClassId) (dI : Nat → Nat → Nat) (cs : Nat → ClassId) (L : List Nat) (ka : Nat → Nat) (ix : Nat → Nat) (ad : Nat → Nat → Nat) (n0 : Nat) (n6 : Nat) (n2 : Nat) (S : Nat → Nat → Nat → Int32) (f : Nat → va_E) (h0 : Nat) (e1 : Nat) (pp9 : Nat → Int) (sz : Nat) (hT : tB L ka ix ad cs n0 n6 n2 S f) (hk_h0 : tpx L ka ix 1 0 h0) (hk_e1 : tpx L ka ix 3 0 e1) (hSy : Sy S) (hRg : RgS S) (hPC : PCs S pp9) : Met l yX1_spread wsX1_spread ({ frames := 3, cells := 0, slots := 0, locals := 68 }) (va_Pc [.ref h0, .ref e1] (cP dC dI ([] ++ va_pl L f) (tyC cs) sz)) (va_Qv (fun (_ : Unit) => True) (fun (_ : Unit) t9 => ∃ (S2 : Nat → Nat → Nat → Int32) (f2 : Nat → va_E), (tB L ka ix ad cs n0 n6 n2 S2 f2) ∧ (AG S S2) ∧ (ABs S S2 ∧ CBs S S2 pp9 ∧ FXb (rdS S) (tI S) (lI S) (paI S2)) ∧ cQ dC dI ([] ++ va_pl L f2) [] (va_A ([] ++ va_pl L f) sz) t9) (va_A ([] ++ va_pl L f) sz)) 0 0 (va_A ([] ++ va_pl L f) sz) := by
  refine Met.ofW (cc := cX1_spread) (maxL := 5) (ret := none) (by decide) rfl ?_
  intro p e s m args below meth c s₁ B hml hv
  obtain ⟨rfl, hsz, hP, hK, hD0, hN⟩ := hv
  have hx := B.exec
  have hb := B.bytes
  have hr := B.returns
  have hts := atoms_spec (ws := wsX1_spread) B.pre
  have hown : s.vm.findClass RX1 = some m.cls := findClass_of_methodNamed B.named
  have hlocks := B.notSynchronized
  subst hsz
  have hin1 : ∀ w ∈ u_ws RX1 TX1 4, w ∈ wsX1_spread := by decide +kernel
  have hD := hD0.self (sz := s.heap.size)
  generalize hAe : va_A ([] ++ va_pl L f) s.heap.size = A at hD ⊢
  have hA : ∀ q : Nat, s.heap.size ≤ q → A q := fun q h => by rw [← hAe]; exact Or.inr h
  have hS : va_S A s.heap s.heap [] := va_S.rf
  have hP : va_P (dC, dI) vwCl ([] ++ va_pl L f) s.heap := hP
  have hl := lv_entry ([.ref h0, .ref e1]) (n := 5) (Nat.le_of_ble_eq_true rfl)
  rw [lg_entry_eq]
  generalize (lg_sl ([.ref h0, .ref e1]) ++ List.replicate (5 - (lg_sl ([.ref h0, .ref e1])).length) Slot.unset).toArray = ls at hl ⊢
  have hl : lv_has ls 5 [(0, .ref h0), (1, .ref e1)] := hl
  refine lv_iconst (v := 0) hx hb dX1_spread_0 (by decide) ?_
  refine lv_istore_n (lv' := [(2, .int 0), (0, .ref h0), (1, .ref e1)]) hx hb dX1_spread_1 rfl hl (by decide) rfl (fun ls hl => ?_)
  have HL : ∀ (n k : Nat) (S8 : Nat → Nat → Nat → Int32), k ≤ 12 → 12 + 1 ≤ k + n → (AG S S8) → (INk S S8 k) → ∀ (f_1 : Nat → va_E) (H : Heap) (locs : List Loc), tB L ka ix ad cs n0 n6 n2 S8 f_1 → va_P (dC, dI) vwCl ([] ++ va_pl L f_1) H → va_D A ([] ++ va_pl L f_1) → va_S A s.heap H locs → ∀ ls : Array Slot, lv_has ls 5 [(0, .ref h0), (1, .ref e1), (2, .int (nI k))] → W p l e (headSpec wsX1_spread ({ frames := 3, cells := 0, slots := 0, locals := 68 })).room s m ([.ref h0, .ref e1]).toArray below meth c H locs 0 0 (MQ below (va_Qv (fun (_ : Unit) => True) (fun (_ : Unit) t9 => ∃ (S2 : Nat → Nat → Nat → Int32) (f2 : Nat → va_E), (tB L ka ix ad cs n0 n6 n2 S2 f2) ∧ (AG S S2) ∧ (ABs S S2 ∧ CBs S S2 pp9 ∧ FXb (rdS S) (tI S) (lI S) (paI S2)) ∧ cQ dC dI ([] ++ va_pl L f2) [] A t9) A) ([.ref h0, .ref e1]).toArray s 0 0 A) (F0 m 2 ls []) := by
    intro n
    induction n with
    | zero => intro k S8 h1 h2; exact absurd h2 (by omega)
    | succ n ih =>
      intro k S8 hk hn hFrS8 hIN f_1 H locs hT hP hD hS ls hl
      refine lv_iload_n hx hb dX1_spread_2 rfl (lv_at hl 2 rfl) ?_
      refine lv_bipush (v := 12) hx hb dX1_spread_3 (by decide) ?_
      refine lv_icmp_ge (tgt := 42) hx hb dX1_spread_5 (by decide) (fun c_2 => ?_) (fun c_2 => ?_)
      · have hke : k = 12 := by
          rcases Nat.lt_or_ge k 12 with q | q
          · exact absurd c_2 (nI_ge q (by decide))
          · omega
        have hIN12 := hke ▸ hIN
        obtain ⟨D9, hDd9⟩ := DD_ex hSy hPC (IN_cb hPC hIN12)
        refine lv_iconst (v := 1) hx hb dX1_spread_42 (by decide) ?_
        refine lv_istore_n (lv' := [(2, .int 1), (0, .ref h0), (1, .ref e1)]) hx hb dX1_spread_43 rfl hl (by decide) rfl (fun ls hl => ?_)
        refine lv_iconst (v := 0) hx hb dX1_spread_44 (by decide) ?_
        refine lv_istore_n (lv' := [(3, .int 0), (2, .int 1), (0, .ref h0), (1, .ref e1)]) hx hb dX1_spread_45 rfl hl (by decide) rfl (fun ls hl => ?_)
        have HL_j : ∀ (n_j j : Nat) (x2 : Int32) (S7 : Nat → Nat → Nat → Int32), j ≤ 12 → 12 + 1 ≤ j + n_j → (AG S S7) → (RJk S S7 pp9 D9 j x2) → ∀ (f_3 : Nat → va_E) (H : Heap) (locs : List Loc), tB L ka ix ad cs n0 n6 n2 S7 f_3 → va_P (dC, dI) vwCl ([] ++ va_pl L f_3) H → va_D A ([] ++ va_pl L f_3) → va_S A s.heap H locs → ∀ ls : Array Slot, lv_has ls 5 [(0, .ref h0), (1, .ref e1), (2, .int x2), (3, .int (nI j))] → W p l e (headSpec wsX1_spread ({ frames := 3, cells := 0, slots := 0, locals := 68 })).room s m ([.ref h0, .ref e1]).toArray below meth c H locs 0 0 (MQ below (va_Qv (fun (_ : Unit) => True) (fun (_ : Unit) t9 => ∃ (S2 : Nat → Nat → Nat → Int32) (f2 : Nat → va_E), (tB L ka ix ad cs n0 n6 n2 S2 f2) ∧ (AG S S2) ∧ (ABs S S2 ∧ CBs S S2 pp9 ∧ FXb (rdS S) (tI S) (lI S) (paI S2)) ∧ cQ dC dI ([] ++ va_pl L f2) [] A t9) A) ([.ref h0, .ref e1]).toArray s 0 0 A) (F0 m 46 ls []) := by
          intro n_j
          induction n_j with
          | zero => intro j x2 S7 h1 h2; exact absurd h2 (by omega)
          | succ n_j ih_j =>
            intro j x2 S7 hk_j hn_j hFrS7 hRJ f_3 H locs hT hP hD hS ls hl
            refine lv_iload_n hx hb dX1_spread_46 rfl (lv_at hl 3 rfl) ?_
            refine lv_bipush (v := 12) hx hb dX1_spread_47 (by decide) ?_
            refine lv_icmp_ge (tgt := 104) hx hb dX1_spread_49 (by decide) (fun c_4 => ?_) (fun c_4 => ?_)
            · have hke_j : j = 12 := by
                rcases Nat.lt_or_ge j 12 with q | q
                · exact absurd c_4 (nI_ge q (by decide))
                · omega
              have hP9 := hP.part (cx := []) [] rfl
              have hD9 := hD.part (cx := []) [] (by decide) rfl
              have hK9 := hK.sub (tys' := []) [] rfl
              refine W.widen (k := 0) (n := 0) (Nat.le_of_ble_eq_true rfl) (Nat.le_of_ble_eq_true rfl) ?_
              exact W.vret hx hb hr (fun t9 ht hW => ⟨⟨(), rfl, trivial, S7, f_3, hT, hFrS7, (RJ_e hRJ hDd9 (Or.inl hke_j)), by rw [ht]; exact hP9, va_K.moved hW.alike hK9, hD9⟩, hS.F ht⟩) hS.2.2 dX1_spread_104
            · have hlt_j : j < 12 := by
                rcases Nat.lt_or_ge j 12 with q | q
                · exact q
                · exact absurd (show nI 12 ≤ nI j from nI_le q (by omega)) c_4
              refine lv_iload_n hx hb dX1_spread_52 rfl (lv_at hl 2 rfl) ?_
              refine lv_if_eq (tgt := 104) hx hb dX1_spread_53 (by decide) (fun c_5 => ?_) (fun c_5 => ?_)
              · have hP9 := hP.part (cx := []) [] rfl
                have hD9 := hD.part (cx := []) [] (by decide) rfl
                have hK9 := hK.sub (tys' := []) [] rfl
                refine W.widen (k := 0) (n := 0) (Nat.le_of_ble_eq_true rfl) (Nat.le_of_ble_eq_true rfl) ?_
                exact W.vret hx hb hr (fun t9 ht hW => ⟨⟨(), rfl, trivial, S7, f_3, hT, hFrS7, (RJ_e hRJ hDd9 (Or.inr c_5)), by rw [ht]; exact hP9, va_K.moved hW.alike hK9, hD9⟩, hS.F ht⟩) hS.2.2 dX1_spread_104
              · refine lv_iconst (v := 0) hx hb dX1_spread_56 (by decide) ?_
                refine lv_istore_n (lv' := [(2, .int 0), (0, .ref h0), (1, .ref e1), (3, .int (nI j))]) hx hb dX1_spread_57 rfl hl (by decide) rfl (fun ls hl => ?_)
                refine lv_iconst (v := 0) hx hb dX1_spread_58 (by decide) ?_
                refine lv_istore (lv' := [(4, .int 0), (2, .int 0), (0, .ref h0), (1, .ref e1), (3, .int (nI j))]) hx hb dX1_spread_59 hl (by decide) rfl (fun ls hl => ?_)
                have HL_i : ∀ (n_i i : Nat) (y2 : Int32) (S6 : Nat → Nat → Nat → Int32), i ≤ 12 → 12 + 1 ≤ i + n_i → (AG S S6) → (PSk S S7 S6 pp9 i y2) → ∀ (f_6 : Nat → va_E) (H : Heap) (locs : List Loc), tB L ka ix ad cs n0 n6 n2 S6 f_6 → va_P (dC, dI) vwCl ([] ++ va_pl L f_6) H → va_D A ([] ++ va_pl L f_6) → va_S A s.heap H locs → ∀ ls : Array Slot, lv_has ls 5 [(0, .ref h0), (1, .ref e1), (2, .int y2), (3, .int (nI j)), (4, .int (nI i))] → W p l e (headSpec wsX1_spread ({ frames := 3, cells := 0, slots := 0, locals := 68 })).room s m ([.ref h0, .ref e1]).toArray below meth c H locs 0 0 (MQ below (va_Qv (fun (_ : Unit) => True) (fun (_ : Unit) t9 => ∃ (S2 : Nat → Nat → Nat → Int32) (f2 : Nat → va_E), (tB L ka ix ad cs n0 n6 n2 S2 f2) ∧ (AG S S2) ∧ (ABs S S2 ∧ CBs S S2 pp9 ∧ FXb (rdS S) (tI S) (lI S) (paI S2)) ∧ cQ dC dI ([] ++ va_pl L f2) [] A t9) A) ([.ref h0, .ref e1]).toArray s 0 0 A) (F0 m 61 ls []) := by
                  intro n_i
                  induction n_i with
                  | zero => intro i y2 S6 h1 h2; exact absurd h2 (by omega)
                  | succ n_i ih_i =>
                    intro i y2 S6 hk_i hn_i hFrS6 hPK f_6 H locs hT hP hD hS ls hl
                    refine lv_iload hx hb dX1_spread_61 (lv_at hl 4 rfl) ?_
                    refine lv_bipush (v := 12) hx hb dX1_spread_63 (by decide) ?_
                    refine lv_icmp_ge (tgt := 98) hx hb dX1_spread_65 (by decide) (fun c_7 => ?_) (fun c_7 => ?_)
                    · have hke_i : i = 12 := by
                        rcases Nat.lt_or_ge i 12 with q | q
                        · exact absurd c_7 (nI_ge q (by decide))
                        · omega
                      refine lv_iinc (v := nI (j + 1)) (lv' := [(3, .int (nI (j + 1))), (0, .ref h0), (1, .ref e1), (2, .int y2), (4, .int (nI i))]) hx hb dX1_spread_98 hl (k := 3) rfl (by exact (nI_1 j)) (by decide) rfl (fun ls hl => ?_)
                      refine lv_goto (tgt := 46) hx hb dX1_spread_101 (by decide) ?_
                      exact ih_j (j + 1) y2 S6 (by omega) (by omega) hFrS6 (RJ_s hRJ hDd9 (hke_i ▸ hPK)) _ _ _ hT (hP.part (cx := _) [] rfl) (hD.part (cx := _) [] (by decide) rfl) hS ls (lv_sub hl [1, 2, 3, 0] rfl)
                    · have hlt_i : i < 12 := by
                        rcases Nat.lt_or_ge i 12 with q | q
                        · exact q
                        · exact absurd (show nI 12 ≤ nI i from nI_le q (by omega)) c_7
                      refine lv_aload_n hx hb dX1_spread_68 rfl (lv_at hl 0 rfl) ?_
                      have hf_8 : f_6 h0 = .inr (1, [.ref (ad 41 0), .ref (ad 42 0), .ref (ad 43 0), .ref (ad 44 0)]) := hT.get hk_h0
                      obtain ⟨q_9, hq_9⟩ := pl_at (X := []) (f := f_6) (e := .inr (1, [.ref (ad 41 0), .ref (ad 42 0), .ref (ad 43 0), .ref (ad 44 0)])) hk_h0.1 hf_8
                      refine va_get (D := (dC, dI)) (ci := 1) (v := .ref (ad 43 0)) (C := RX1) (T := TX1) (N := 4) hx hb hts hin1 hown hK hP q_9 hq_9 rfl 2 (by decide) (hts (.fieldLink RX1 20 "YamRiders$Leader" "pains" "[I") (by decide +kernel)) (fun _ h9 => h9) rfl dX1_spread_69 ?_
                      refine lv_iload hx hb dX1_spread_72 (lv_at hl 4 rfl) ?_
                      have hf_10 : f_6 (ad 43 0) = .inl (cs 0, 12, .inl (S6 688 0)) := hT.get (hT.kf (k := 43) (by decide))
                      obtain ⟨q_11, hq_11⟩ := pl_at (X := []) (f := f_6) (e := .inl (cs 0, 12, .inl (S6 688 0))) (hT.kf (k := 43) (by decide)).1 hf_10
                      refine va_iald hx hb hK hP q_11 0 hq_11 rfl (vp_in_nI (by omega) (by omega)) dX1_spread_74 ?_
                      refine lv_topi (fun v_12 ev_12 => ?_)
                      obtain rfl : v_12 = S6 688 0 i := ev_12.trans (by rw [(nI_clamp (by omega))])
                      refine lv_ldc (v := 1000000) hx hb hown (hts (.constant RX1 56 (1000000)) (by decide +kernel)) dX1_spread_75 ?_
                      refine lv_icmp_ge (tgt := 92) hx hb dX1_spread_77 (by decide) (fun c_13 => ?_) (fun c_13 => ?_)
                      · refine lv_iinc (v := nI (i + 1)) (lv' := [(4, .int (nI (i + 1))), (0, .ref h0), (1, .ref e1), (2, .int y2), (3, .int (nI j))]) hx hb dX1_spread_92 hl (k := 4) rfl (by exact (nI_1 i)) (by decide) rfl (fun ls hl => ?_)
                        refine lv_goto (tgt := 61) hx hb dX1_spread_95 (by decide) ?_
                        exact ih_i (i + 1) y2 S6 (by omega) (by omega) hFrS6 (PK_n (by omega) hPK c_13) _ _ _ hT (hP.part (cx := _) [] rfl) (hD.part (cx := _) [] (by decide) rfl) hS ls (lv_sub hl [1, 2, 3, 4, 0] rfl)
                      · refine lv_aload_n hx hb dX1_spread_80 rfl (lv_at hl 0 rfl) ?_
                        refine lv_iload hx hb dX1_spread_81 (lv_at hl 4 rfl) ?_
                        refine lv_aload_n hx hb dX1_spread_83 rfl (lv_at hl 1 rfl) ?_
                        have hPc := hP.part (cx := []) [] rfl
                        have hDc := hD.part (cx := []) [] (by decide) rfl
                        have hKc := hK
                        have hFc := va_freeP (cx := []) hD hS hA [] rfl
                        obtain ⟨q_14, hq_14⟩ := pl_at (X := []) (f := f_6) (e := .inr (1, [.ref (ad 41 0), .ref (ad 42 0), .ref (ad 43 0), .ref (ad 44 0)])) hk_h0.1 hf_8
                        refine va_calli (va_runV (As := [.int (nI i), .ref e1]) (rest := []) ⟨hx, hb, hml, hown, hts⟩ (l_X1_spreadFrom l dC dI cs L ka ix ad n0 n6 n2 S6 f_6 h0 i e1 pp9 H.size hT hk_h0 hk_e1 (by omega) (Sy.fr hSy (AG.fr hFrS6)) (RgS.fr hRg (AG.fr hFrS6)) ((PCs.b hPK.1).mpr hPC) ((CBs.b hPK.1).mpr hPK.2.1) (by have h9 := c_13; rw [le_i, far_i] at h9; unfold paI; omega)) (cwV 2 hts gX1_spread_X1_spreadFrom rfl rfl rfl (by decide +kernel) ⟨Nat.le_of_ble_eq_true rfl, Nat.le_of_ble_eq_true rfl⟩) ⟨c_blind, va_recv hKc hPc (ci := 1) (q0 := q_14) rfl hq_14, c_pre hPc hKc hDc hN⟩ rfl rfl hl.1 rfl (lv_room (Nat.le_of_ble_eq_true rfl)) dX1_spread_84 ⟨Nat.le_of_ble_eq_true rfl, Nat.le_of_ble_eq_true rfl⟩) hS (fun q _ h => hFc q h) hFc (fun r_15 u9 t9 H1 locs ht hvm hw hB hz1 hk1 hS => ?_)
                        obtain ⟨S_16, f_17, hf_x_18, hf_x_19, hf_x_20, hf_x_21, hP1, hK1, hD1⟩ := hB
                        rw [ht] at hP1
                        have hK1 := va_K.moved hvm.symm hK1
                        obtain ⟨hP, hD⟩ := va_joinP (X := []) (cx := []) (wr := []) (rx := []) (pl := va_pl L f_6) (pl1 := va_pl L f_17) hP hD [] [] rfl rfl (by decide) (by decide) hk1 hFc hP1 hD1
                        have hT := hf_x_18
                        generalize H1 = H at hP hS ⊢
                        have hP : va_P (dC, dI) vwCl ([] ++ va_pl L f_17) H := hP
                        have hD : va_D A ([] ++ va_pl L f_17) := hD
                        have hFr_22 := AG.tr hFrS6 hf_x_19
                        refine W.widen (k := 0) (n := 0) (Nat.le_of_ble_eq_true rfl) (Nat.le_of_ble_eq_true rfl) ?_
                        try dsimp only at hw
                        subst hw
                        refine lv_if_eq (tgt := 92) hx hb dX1_spread_87 (by decide) (fun c_23 => ?_) (fun c_23 => ?_)
                        · refine lv_iinc (v := nI (i + 1)) (lv' := [(4, .int (nI (i + 1))), (0, .ref h0), (1, .ref e1), (2, .int y2), (3, .int (nI j))]) hx hb dX1_spread_92 hl (k := 4) rfl (by exact (nI_1 i)) (by decide) rfl (fun ls hl => ?_)
                          refine lv_goto (tgt := 61) hx hb dX1_spread_95 (by decide) ?_
                          exact ih_i (i + 1) y2 S_16 (by omega) (by omega) hFr_22 (PK_s (by omega) hPK hf_x_20 (fun w => ⟨w, c_23⟩)) _ _ _ hT (hP.part (cx := _) [] rfl) (hD.part (cx := _) [] (by decide) rfl) hS ls (lv_sub hl [1, 2, 3, 4, 0] rfl)
                        · refine lv_iconst (v := 1) hx hb dX1_spread_90 (by decide) ?_
                          refine lv_istore_n (lv' := [(2, .int 1), (0, .ref h0), (1, .ref e1), (3, .int (nI j)), (4, .int (nI i))]) hx hb dX1_spread_91 rfl hl (by decide) rfl (fun ls hl => ?_)
                          refine lv_iinc (v := nI (i + 1)) (lv' := [(4, .int (nI (i + 1))), (2, .int 1), (0, .ref h0), (1, .ref e1), (3, .int (nI j))]) hx hb dX1_spread_92 hl (k := 4) rfl (by exact (nI_1 i)) (by decide) rfl (fun ls hl => ?_)
                          refine lv_goto (tgt := 61) hx hb dX1_spread_95 (by decide) ?_
                          exact ih_i (i + 1) 1 S_16 (by omega) (by omega) hFr_22 (PK_s (by omega) hPK hf_x_20 (fun w => absurd w (by decide))) _ _ _ hT (hP.part (cx := _) [] rfl) (hD.part (cx := _) [] (by decide) rfl) hS ls (lv_sub hl [2, 3, 1, 4, 0] rfl)
                exact HL_i 13 0 0 S7 (by omega) (by omega) hFrS7 (PK_0 hRJ.1 hRJ.2.1) _ _ _ hT (hP.part (cx := _) [] rfl) (hD.part (cx := _) [] (by decide) rfl) hS ls (lv_sub hl [2, 3, 1, 4, 0] rfl)
        exact HL_j 13 0 1 S8 (by omega) (by omega) hFrS8 (RJ_0 hPC hIN12 hDd9) _ _ _ hT (hP.part (cx := _) [] rfl) (hD.part (cx := _) [] (by decide) rfl) hS ls (lv_sub hl [2, 3, 1, 0] rfl)
      · have hlt : k < 12 := by
          rcases Nat.lt_or_ge k 12 with q | q
          · exact q
          · exact absurd (show nI 12 ≤ nI k from nI_le q (by omega)) c_2
        refine lv_aload_n hx hb dX1_spread_8 rfl (lv_at hl 0 rfl) ?_
        have hf_24 : f_1 h0 = .inr (1, [.ref (ad 41 0), .ref (ad 42 0), .ref (ad 43 0), .ref (ad 44 0)]) := hT.get hk_h0
        obtain ⟨q_25, hq_25⟩ := pl_at (X := []) (f := f_1) (e := .inr (1, [.ref (ad 41 0), .ref (ad 42 0), .ref (ad 43 0), .ref (ad 44 0)])) hk_h0.1 hf_24
        refine va_get (D := (dC, dI)) (ci := 1) (v := .ref (ad 43 0)) (C := RX1) (T := TX1) (N := 4) hx hb hts hin1 hown hK hP q_25 hq_25 rfl 2 (by decide) (hts (.fieldLink RX1 20 "YamRiders$Leader" "pains" "[I") (by decide +kernel)) (fun _ h9 => h9) rfl dX1_spread_9 ?_
        refine lv_iload_n hx hb dX1_spread_12 rfl (lv_at hl 2 rfl) ?_
        refine lv_aload_n hx hb dX1_spread_13 rfl (lv_at hl 0 rfl) ?_
        obtain ⟨q_26, hq_26⟩ := pl_at (X := []) (f := f_1) (e := .inr (1, [.ref (ad 41 0), .ref (ad 42 0), .ref (ad 43 0), .ref (ad 44 0)])) hk_h0.1 hf_24
        refine va_get (D := (dC, dI)) (ci := 1) (v := .ref (ad 41 0)) (C := RX1) (T := TX1) (N := 4) hx hb hts hin1 hown hK hP q_26 hq_26 rfl 0 (by decide) (hts (.fieldLink RX1 9 "YamRiders$Leader" "spare" "[I") (by decide +kernel)) (fun _ h9 => h9) rfl dX1_spread_14 ?_
        refine lv_iload_n hx hb dX1_spread_17 rfl (lv_at hl 2 rfl) ?_
        have hf_27 : f_1 (ad 41 0) = .inl (cs 0, 12, .inl (S8 656 0)) := hT.get (hT.kf (k := 41) (by decide))
        obtain ⟨q_28, hq_28⟩ := pl_at (X := []) (f := f_1) (e := .inl (cs 0, 12, .inl (S8 656 0))) (hT.kf (k := 41) (by decide)).1 hf_27
        refine va_iald hx hb hK hP q_28 0 hq_28 rfl (vp_in_nI (by omega) (by omega)) dX1_spread_18 ?_
        refine lv_topi (fun v_29 ev_29 => ?_)
        obtain rfl : v_29 = S8 656 0 k := ev_29.trans (by rw [(nI_clamp (by omega))])
        refine lv_if_le (tgt := 26) hx hb dX1_spread_19 (by decide) (fun c_30 => ?_) (fun c_30 => ?_)
        · refine lv_ldc (v := 1000000) hx hb hown (hts (.constant RX1 56 (1000000)) (by decide +kernel)) dX1_spread_26 ?_
          have hf_31 : f_1 (ad 43 0) = .inl (cs 0, 12, .inl (S8 688 0)) := hT.get (hT.kf (k := 43) (by decide))
          obtain ⟨q_32, hq_32⟩ := pl_at (X := []) (f := f_1) (e := .inl (cs 0, 12, .inl (S8 688 0))) (hT.kf (k := 43) (by decide)).1 hf_31
          refine va_iast hx hb hK hP hD hS q_32 0 hq_32 rfl (vp_in_nI (by omega) (by omega)) dX1_spread_28 (fun H locs hP9 hD9 hS => ?_)
          have hs_33 := pl_st (.inl (cs 0, 12, .inl (upd (S8 688 0) (nI k).toNatClampNeg 1000000))) hD (hT.kf (k := 43) (by decide)).1 hf_31 hq_32
          have hP9 : va_P (dC, dI) vwCl ((([] : va_W) ++ va_pl L f_1).set q_32 ((ad 43 0), .inl (cs 0, 12, .inl (upd (S8 688 0) (nI k).toNatClampNeg 1000000)))) H := hP9
          have hD9 : va_D A ((([] : va_W) ++ va_pl L f_1).set q_32 ((ad 43 0), .inl (cs 0, 12, .inl (upd (S8 688 0) (nI k).toNatClampNeg 1000000)))) := hD9
          rw [hs_33] at hP9 hD9
          have hT := hT.up (c := 688) (j := k) (v := 1000000) (e := .inl (cs 0, 12, .inl (upd (S8 688 0) (nI k).toNatClampNeg 1000000))) (hT.kf (k := 43) (by decide)) rfl (hT.2.2.up (by decide) (by decide) (by decide)) (by simp only [EN]; rw [up3_a, (nI_clamp (by omega))])
          have hP := hP9
          have hD := hD9
          clear hP9 hD9 hs_33
          obtain ⟨S_35, eS_35⟩ : ∃ S9 : Nat → Nat → Nat → Int32, S9 = up3 S8 688 0 k 1000000 := ⟨_, rfl⟩
          rw [← eS_35] at hT
          generalize va_up f_1 (ad 43 0) (.inl (cs 0, 12, .inl (upd (S8 688 0) (nI k).toNatClampNeg 1000000))) = f_34 at hP hD hT
          have hFr_36 : AG S S_35 := by rw [eS_35]; exact AG.up hFrS8 (by decide)
          refine lv_aload_n hx hb dX1_spread_29 rfl (lv_at hl 0 rfl) ?_
          have hf_37 : f_34 h0 = .inr (1, [.ref (ad 41 0), .ref (ad 42 0), .ref (ad 43 0), .ref (ad 44 0)]) := hT.get hk_h0
          obtain ⟨q_38, hq_38⟩ := pl_at (X := []) (f := f_34) (e := .inr (1, [.ref (ad 41 0), .ref (ad 42 0), .ref (ad 43 0), .ref (ad 44 0)])) hk_h0.1 hf_37
          refine va_get (D := (dC, dI)) (ci := 1) (v := .ref (ad 44 0)) (C := RX1) (T := TX1) (N := 4) hx hb hts hin1 hown hK hP q_38 hq_38 rfl 3 (by decide) (hts (.fieldLink RX1 23 "YamRiders$Leader" "from" "[I") (by decide +kernel)) (fun _ h9 => h9) rfl dX1_spread_30 ?_
          refine lv_iload_n hx hb dX1_spread_33 rfl (lv_at hl 2 rfl) ?_
          refine lv_iconst (v := (-1)) hx hb dX1_spread_34 (by decide) ?_
          have hf_39 : f_34 (ad 44 0) = .inl (cs 0, 12, .inl (S_35 704 0)) := hT.get (hT.kf (k := 44) (by decide))
          obtain ⟨q_40, hq_40⟩ := pl_at (X := []) (f := f_34) (e := .inl (cs 0, 12, .inl (S_35 704 0))) (hT.kf (k := 44) (by decide)).1 hf_39
          refine va_iast hx hb hK hP hD hS q_40 0 hq_40 rfl (vp_in_nI (by omega) (by omega)) dX1_spread_35 (fun H locs hP9 hD9 hS => ?_)
          have hs_41 := pl_st (.inl (cs 0, 12, .inl (upd (S_35 704 0) (nI k).toNatClampNeg (-1)))) hD (hT.kf (k := 44) (by decide)).1 hf_39 hq_40
          have hP9 : va_P (dC, dI) vwCl ((([] : va_W) ++ va_pl L f_34).set q_40 ((ad 44 0), .inl (cs 0, 12, .inl (upd (S_35 704 0) (nI k).toNatClampNeg (-1))))) H := hP9
          have hD9 : va_D A ((([] : va_W) ++ va_pl L f_34).set q_40 ((ad 44 0), .inl (cs 0, 12, .inl (upd (S_35 704 0) (nI k).toNatClampNeg (-1))))) := hD9
          rw [hs_41] at hP9 hD9
          have hT := hT.up (c := 704) (j := k) (v := (-1)) (e := .inl (cs 0, 12, .inl (upd (S_35 704 0) (nI k).toNatClampNeg (-1)))) (hT.kf (k := 44) (by decide)) rfl (hT.2.2.up (by decide) (by decide) (by decide)) (by simp only [EN]; rw [up3_a, (nI_clamp (by omega))])
          have hP := hP9
          have hD := hD9
          clear hP9 hD9 hs_41
          obtain ⟨S_43, eS_43⟩ : ∃ S9 : Nat → Nat → Nat → Int32, S9 = up3 S_35 704 0 k (-1) := ⟨_, rfl⟩
          rw [← eS_43] at hT
          generalize va_up f_34 (ad 44 0) (.inl (cs 0, 12, .inl (upd (S_35 704 0) (nI k).toNatClampNeg (-1)))) = f_42 at hP hD hT
          have hFr_44 : AG S S_43 := by rw [eS_43]; exact AG.up hFr_36 (by decide)
          refine lv_iinc (v := nI (k + 1)) (lv' := [(2, .int (nI (k + 1))), (0, .ref h0), (1, .ref e1)]) hx hb dX1_spread_36 hl (k := 2) rfl (by exact (nI_1 k)) (by decide) rfl (fun ls hl => ?_)
          refine lv_goto (tgt := 2) hx hb dX1_spread_39 (by decide) ?_
          exact ih (k + 1) S_43 (by omega) (by omega) hFr_44 (by rw [eS_43, eS_35]; exact IN_s hIN (Or.inr ⟨c_30, rfl⟩)) _ _ _ hT (hP.part (cx := _) [] rfl) (hD.part (cx := _) [] (by decide) rfl) hS ls (lv_sub hl [1, 2, 0] rfl)
        · refine lv_iconst (v := 0) hx hb dX1_spread_22 (by decide) ?_
          refine lv_goto (tgt := 28) hx hb dX1_spread_23 (by decide) ?_
          have hf_45 : f_1 (ad 43 0) = .inl (cs 0, 12, .inl (S8 688 0)) := hT.get (hT.kf (k := 43) (by decide))
          obtain ⟨q_46, hq_46⟩ := pl_at (X := []) (f := f_1) (e := .inl (cs 0, 12, .inl (S8 688 0))) (hT.kf (k := 43) (by decide)).1 hf_45
          refine va_iast hx hb hK hP hD hS q_46 0 hq_46 rfl (vp_in_nI (by omega) (by omega)) dX1_spread_28 (fun H locs hP9 hD9 hS => ?_)
          have hs_47 := pl_st (.inl (cs 0, 12, .inl (upd (S8 688 0) (nI k).toNatClampNeg 0))) hD (hT.kf (k := 43) (by decide)).1 hf_45 hq_46
          have hP9 : va_P (dC, dI) vwCl ((([] : va_W) ++ va_pl L f_1).set q_46 ((ad 43 0), .inl (cs 0, 12, .inl (upd (S8 688 0) (nI k).toNatClampNeg 0)))) H := hP9
          have hD9 : va_D A ((([] : va_W) ++ va_pl L f_1).set q_46 ((ad 43 0), .inl (cs 0, 12, .inl (upd (S8 688 0) (nI k).toNatClampNeg 0)))) := hD9
          rw [hs_47] at hP9 hD9
          have hT := hT.up (c := 688) (j := k) (v := 0) (e := .inl (cs 0, 12, .inl (upd (S8 688 0) (nI k).toNatClampNeg 0))) (hT.kf (k := 43) (by decide)) rfl (hT.2.2.up (by decide) (by decide) (by decide)) (by simp only [EN]; rw [up3_a, (nI_clamp (by omega))])
          have hP := hP9
          have hD := hD9
          clear hP9 hD9 hs_47
          obtain ⟨S_49, eS_49⟩ : ∃ S9 : Nat → Nat → Nat → Int32, S9 = up3 S8 688 0 k 0 := ⟨_, rfl⟩
          rw [← eS_49] at hT
          generalize va_up f_1 (ad 43 0) (.inl (cs 0, 12, .inl (upd (S8 688 0) (nI k).toNatClampNeg 0))) = f_48 at hP hD hT
          have hFr_50 : AG S S_49 := by rw [eS_49]; exact AG.up hFrS8 (by decide)
          refine lv_aload_n hx hb dX1_spread_29 rfl (lv_at hl 0 rfl) ?_
          have hf_51 : f_48 h0 = .inr (1, [.ref (ad 41 0), .ref (ad 42 0), .ref (ad 43 0), .ref (ad 44 0)]) := hT.get hk_h0
          obtain ⟨q_52, hq_52⟩ := pl_at (X := []) (f := f_48) (e := .inr (1, [.ref (ad 41 0), .ref (ad 42 0), .ref (ad 43 0), .ref (ad 44 0)])) hk_h0.1 hf_51
          refine va_get (D := (dC, dI)) (ci := 1) (v := .ref (ad 44 0)) (C := RX1) (T := TX1) (N := 4) hx hb hts hin1 hown hK hP q_52 hq_52 rfl 3 (by decide) (hts (.fieldLink RX1 23 "YamRiders$Leader" "from" "[I") (by decide +kernel)) (fun _ h9 => h9) rfl dX1_spread_30 ?_
          refine lv_iload_n hx hb dX1_spread_33 rfl (lv_at hl 2 rfl) ?_
          refine lv_iconst (v := (-1)) hx hb dX1_spread_34 (by decide) ?_
          have hf_53 : f_48 (ad 44 0) = .inl (cs 0, 12, .inl (S_49 704 0)) := hT.get (hT.kf (k := 44) (by decide))
          obtain ⟨q_54, hq_54⟩ := pl_at (X := []) (f := f_48) (e := .inl (cs 0, 12, .inl (S_49 704 0))) (hT.kf (k := 44) (by decide)).1 hf_53
          refine va_iast hx hb hK hP hD hS q_54 0 hq_54 rfl (vp_in_nI (by omega) (by omega)) dX1_spread_35 (fun H locs hP9 hD9 hS => ?_)
          have hs_55 := pl_st (.inl (cs 0, 12, .inl (upd (S_49 704 0) (nI k).toNatClampNeg (-1)))) hD (hT.kf (k := 44) (by decide)).1 hf_53 hq_54
          have hP9 : va_P (dC, dI) vwCl ((([] : va_W) ++ va_pl L f_48).set q_54 ((ad 44 0), .inl (cs 0, 12, .inl (upd (S_49 704 0) (nI k).toNatClampNeg (-1))))) H := hP9
          have hD9 : va_D A ((([] : va_W) ++ va_pl L f_48).set q_54 ((ad 44 0), .inl (cs 0, 12, .inl (upd (S_49 704 0) (nI k).toNatClampNeg (-1))))) := hD9
          rw [hs_55] at hP9 hD9
          have hT := hT.up (c := 704) (j := k) (v := (-1)) (e := .inl (cs 0, 12, .inl (upd (S_49 704 0) (nI k).toNatClampNeg (-1)))) (hT.kf (k := 44) (by decide)) rfl (hT.2.2.up (by decide) (by decide) (by decide)) (by simp only [EN]; rw [up3_a, (nI_clamp (by omega))])
          have hP := hP9
          have hD := hD9
          clear hP9 hD9 hs_55
          obtain ⟨S_57, eS_57⟩ : ∃ S9 : Nat → Nat → Nat → Int32, S9 = up3 S_49 704 0 k (-1) := ⟨_, rfl⟩
          rw [← eS_57] at hT
          generalize va_up f_48 (ad 44 0) (.inl (cs 0, 12, .inl (upd (S_49 704 0) (nI k).toNatClampNeg (-1)))) = f_56 at hP hD hT
          have hFr_58 : AG S S_57 := by rw [eS_57]; exact AG.up hFr_50 (by decide)
          refine lv_iinc (v := nI (k + 1)) (lv' := [(2, .int (nI (k + 1))), (0, .ref h0), (1, .ref e1)]) hx hb dX1_spread_36 hl (k := 2) rfl (by exact (nI_1 k)) (by decide) rfl (fun ls hl => ?_)
          refine lv_goto (tgt := 2) hx hb dX1_spread_39 (by decide) ?_
          exact ih (k + 1) S_57 (by omega) (by omega) hFr_58 (by rw [eS_57, eS_49]; exact IN_s hIN (Or.inl ⟨c_30, rfl⟩)) _ _ _ hT (hP.part (cx := _) [] rfl) (hD.part (cx := _) [] (by decide) rfl) hS ls (lv_sub hl [1, 2, 0] rfl)
  exact HL 13 0 S (by omega) (by omega) AG.rf IN9_0 _ _ _ hT (hP.part (cx := _) [] rfl) (hD.part (cx := _) [] (by decide) rfl) hS ls (lv_sub hl [1, 2, 0] rfl)
