set_option maxHeartbeats 4000000 in
set_option maxRecDepth 100000 in
theorem t_X1_setSpare (l : Launch) (dC : Nat → ClassId) (dI : Nat → Nat → Nat) (cs : Nat → ClassId) (L : List Nat) (ka : Nat → Nat) (f : Nat → va_E) (h0 : Nat) (p0 : Int32) (p1 : Int32) (sz : Nat) (hT : tO L ka cs f) (hk_h0 : tp L ka 1 h0) : Met l yX1_setSpare wsX1_setSpare ({ frames := 1, cells := 0, slots := 0, locals := 20 }) (va_Pc [.ref h0, .int p0, .int p1] (cP dC dI ([] ++ va_pl L f) (tyC cs) sz)) (va_Qv (fun (_ : Unit) => True) (fun (_ : Unit) t9 => ∃ (f2 : Nat → va_E), (tO L ka cs f2) ∧ cQ dC dI ([] ++ va_pl L f2) [] (va_A ([] ++ va_pl L f) sz) t9) (va_A ([] ++ va_pl L f) sz)) 0 0 (va_A ([] ++ va_pl L f) sz) := by
  refine Met.ofW (cc := cX1_setSpare) (maxL := 3) (ret := none) (by decide) rfl ?_
  intro p e s m args below meth c s₁ B hml hv
  obtain ⟨rfl, hsz, hP, hK, hD0, hN⟩ := hv
  have hx := B.exec
  have hb := B.bytes
  have hr := B.returns
  have hts := atoms_spec (ws := wsX1_setSpare) B.pre
  have hown : s.vm.findClass RX1 = some m.cls := findClass_of_methodNamed B.named
  have hlocks := B.notSynchronized
  subst hsz
  have hin1 : ∀ w ∈ u_ws RX1 TX1 4, w ∈ wsX1_setSpare := by decide +kernel
  have hD := hD0.self (sz := s.heap.size)
  generalize hAe : va_A ([] ++ va_pl L f) s.heap.size = A at hD ⊢
  have hA : ∀ q : Nat, s.heap.size ≤ q → A q := fun q h => by rw [← hAe]; exact Or.inr h
  have hS : va_S A s.heap s.heap [] := va_S.rf
  have hP : va_P (dC, dI) vwCl ([] ++ va_pl L f) s.heap := hP
  have hl := lv_entry ([.ref h0, .int p0, .int p1]) (n := 3) (Nat.le_of_ble_eq_true rfl)
  rw [lg_entry_eq]
  generalize (lg_sl ([.ref h0, .int p0, .int p1]) ++ List.replicate (3 - (lg_sl ([.ref h0, .int p0, .int p1])).length) Slot.unset).toArray = ls at hl ⊢
  have hl : lv_has ls 3 [(0, .ref h0), (1, .int p0), (2, .int p1)] := hl
  refine lv_iload_n hx hb dX1_setSpare_0 rfl (lv_at hl 1 rfl) ?_
  have hPc := hP.sub (ws' := []) [] rfl
  have hDc := hD.sub (ws' := []) [] (by decide) rfl
  have hKc := hK.sub (tys' := []) [] rfl
  refine cs_i (va_runSN (As := [.int p0]) (rest := []) ⟨hx, hb, hml, hown, hts⟩ (c_X8_isStation l dC dI p0 s.heap.size) ⟨va_cnB 1 hts ggX1_setSpare_X8_isStation rfl rfl rfl (hN.1 (.methodLinkNest RX1 26 yX8_isStation "YamRiders") (by decide +kernel)) (hts (.initialized RX8) (by decide +kernel)) (by decide +kernel) ⟨Nat.le_of_ble_eq_true rfl, Nat.le_of_ble_eq_true rfl⟩, hts (.static yX8_isStation) (by decide +kernel), trivial⟩ ⟨c_blind, c_pre hPc hKc hDc hN⟩ rfl rfl hl.1 rfl (lv_room (Nat.le_of_ble_eq_true rfl)) dX1_setSpare_1 ⟨Nat.le_of_ble_eq_true rfl, Nat.le_of_ble_eq_true rfl⟩) (fun r_1 hr_1 => ?_)
  subst hr_1
  refine lv_if_eq (tgt := 14) hx hb dX1_setSpare_4 (by decide) (fun c_2 => ?_) (fun c_2 => ?_)
  · have hP9 := hP.part (cx := []) [] rfl
    have hD9 := hD.part (cx := []) [] (by decide) rfl
    have hK9 := hK.sub (tys' := []) [] rfl
    refine W.widen (k := 0) (n := 0) (Nat.le_of_ble_eq_true rfl) (Nat.le_of_ble_eq_true rfl) ?_
    exact W.vret hx hb hr (fun t9 ht hW => ⟨⟨(), rfl, trivial, f, hT, by rw [ht]; exact hP9, va_K.moved hW.alike hK9, hD9⟩, hS.F ht⟩) hS.2.2 dX1_setSpare_14
  · refine lv_aload_n hx hb dX1_setSpare_7 rfl (lv_at hl 0 rfl) ?_
    obtain ⟨o_4, o_5, o_6, o_7, hf_3, hk_o_4, hk_o_5, hk_o_6, hk_o_7⟩ := hT.get hk_h0
    obtain ⟨q_8, hq_8⟩ := pl_at (X := []) (f := f) (e := .inr (1, [.ref o_4, .ref o_5, .ref o_6, .ref o_7])) hk_h0.1 hf_3
    refine va_get (D := (dC, dI)) (ci := 1) (v := .ref o_4) (C := RX1) (T := TX1) (N := 4) hx hb hts hin1 hown hK hP q_8 hq_8 rfl 0 (by decide) (hts (.fieldLink RX1 9 "YamRiders$Leader" "spare" "[I") (by decide +kernel)) (fun _ h9 => h9) rfl dX1_setSpare_8 ?_
    refine lv_iload_n hx hb dX1_setSpare_11 rfl (lv_at hl 1 rfl) ?_
    refine lv_iload_n hx hb dX1_setSpare_12 rfl (lv_at hl 2 rfl) ?_
    obtain ⟨g_10, hf_9⟩ := hT.get hk_o_4
    obtain ⟨q_11, hq_11⟩ := pl_at (X := []) (f := f) (e := .inl (cs 0, 12, .inl g_10)) hk_o_4.1 hf_9
    refine va_iast hx hb hK hP hD hS q_11 0 hq_11 rfl (st_in c_2) dX1_setSpare_13 (fun H locs hP9 hD9 hS => ?_)
    have hs_12 := pl_st (.inl (cs 0, 12, .inl (upd g_10 p0.toNatClampNeg p1))) hD hk_o_4.1 hf_9 hq_11
    have hP9 : va_P (dC, dI) vwCl ((([] : va_W) ++ va_pl L f).set q_11 (o_4, .inl (cs 0, 12, .inl (upd g_10 p0.toNatClampNeg p1)))) H := hP9
    have hD9 : va_D A ((([] : va_W) ++ va_pl L f).set q_11 (o_4, .inl (cs 0, 12, .inl (upd g_10 p0.toNatClampNeg p1)))) := hD9
    rw [hs_12] at hP9 hD9
    have hT := hT.put (e := .inl (cs 0, 12, .inl (upd g_10 p0.toNatClampNeg p1))) hk_o_4 ⟨_, rfl⟩
    have hf_13 : va_up f o_4 (.inl (cs 0, 12, .inl (upd g_10 p0.toNatClampNeg p1))) o_4 = .inl (cs 0, 12, .inl (upd g_10 p0.toNatClampNeg p1)) := va_up_self _ _ _
    have hP := hP9
    have hD := hD9
    clear hP9 hD9 hs_12
    generalize va_up f o_4 (.inl (cs 0, 12, .inl (upd g_10 p0.toNatClampNeg p1))) = f_14 at hP hD hT hf_13
    generalize upd g_10 p0.toNatClampNeg p1 = g_15 at hf_13
    have hP9 := hP.part (cx := []) [] rfl
    have hD9 := hD.part (cx := []) [] (by decide) rfl
    have hK9 := hK.sub (tys' := []) [] rfl
    refine W.widen (k := 0) (n := 0) (Nat.le_of_ble_eq_true rfl) (Nat.le_of_ble_eq_true rfl) ?_
    exact W.vret hx hb hr (fun t9 ht hW => ⟨⟨(), rfl, trivial, f_14, hT, by rw [ht]; exact hP9, va_K.moved hW.alike hK9, hD9⟩, hS.F ht⟩) hS.2.2 dX1_setSpare_14

set_option maxHeartbeats 4000000 in
set_option maxRecDepth 100000 in
theorem t_X1_isAnyShort (l : Launch) (dC : Nat → ClassId) (dI : Nat → Nat → Nat) (cs : Nat → ClassId) (L : List Nat) (ka : Nat → Nat) (f : Nat → va_E) (h0 : Nat) (sz : Nat) (hT : tO L ka cs f) (hk_h0 : tp L ka 1 h0) : Met l yX1_isAnyShort wsX1_isAnyShort ({ frames := 0, cells := 0, slots := 0, locals := 0 }) (va_Pc [.ref h0] (cP dC dI ([] ++ va_pl L f) (tyC cs) sz)) (vp_Si (fun r => r = 0 ∨ r = 1)) 0 0 (fun _ => False) := by
  refine Met.ofW (cc := cX1_isAnyShort) (maxL := 2) (ret := (some .boolean)) (by decide) rfl ?_
  intro p e s m args below meth c s₁ B hml hv
  obtain ⟨rfl, hsz, hP, hK, hD0, hN⟩ := hv
  have hx := B.exec
  have hb := B.bytes
  have hr := B.returns
  have hts := atoms_spec (ws := wsX1_isAnyShort) B.pre
  have hown : s.vm.findClass RX1 = some m.cls := findClass_of_methodNamed B.named
  have hlocks := B.notSynchronized
  subst hsz
  have hin1 : ∀ w ∈ u_ws RX1 TX1 4, w ∈ wsX1_isAnyShort := by decide +kernel
  have hD := hD0
  have hP : va_P (dC, dI) vwCl ([] ++ va_pl L f) s.heap := hP
  have hl := lv_entry ([.ref h0]) (n := 2) (Nat.le_of_ble_eq_true rfl)
  rw [lg_entry_eq]
  generalize (lg_sl ([.ref h0]) ++ List.replicate (2 - (lg_sl ([.ref h0])).length) Slot.unset).toArray = ls at hl ⊢
  have hl : lv_has ls 2 [(0, .ref h0)] := hl
  refine lv_iconst (v := 0) hx hb dX1_isAnyShort_0 (by decide) ?_
  refine lv_istore_n (lv' := [(1, .int 0), (0, .ref h0)]) hx hb dX1_isAnyShort_1 rfl hl (by decide) rfl (fun ls hl => ?_)
  have HL : ∀ (n k : Nat), k ≤ 12 → 12 + 1 ≤ k + n → ∀ ls : Array Slot, lv_has ls 2 [(0, .ref h0), (1, .int (nI k))] → W p l e (headSpec wsX1_isAnyShort ({ frames := 0, cells := 0, slots := 0, locals := 0 })).room s m ([.ref h0]).toArray below meth c s.heap [] 0 0 (MQ below (vp_Si (fun r => r = 0 ∨ r = 1)) ([.ref h0]).toArray s 0 0 (fun _ => False)) (F0 m 2 ls []) := by
    intro n
    induction n with
    | zero => intro k h1 h2; exact absurd h2 (by omega)
    | succ n ih =>
      intro k hk hn ls hl
      refine lv_iload_n hx hb dX1_isAnyShort_2 rfl (lv_at hl 1 rfl) ?_
      refine lv_bipush (v := 12) hx hb dX1_isAnyShort_3 (by decide) ?_
      refine lv_icmp_ge (tgt := 25) hx hb dX1_isAnyShort_5 (by decide) (fun c_1 => ?_) (fun c_1 => ?_)
      · have hke : k = 12 := by
          rcases Nat.lt_or_ge k 12 with q | q
          · exact absurd c_1 (nI_ge q (by decide))
          · omega
        refine lv_iconst (v := 0) hx hb dX1_isAnyShort_25 (by decide) ?_
        exact W.zret (v := 0) hx hb hr rfl (fun t9 ht hW => ⟨_, rfl, (Or.inl rfl), ht⟩) (fun q h => nomatch h) dX1_isAnyShort_26
      · have hlt : k < 12 := by
          rcases Nat.lt_or_ge k 12 with q | q
          · exact q
          · exact absurd (show nI 12 ≤ nI k from nI_le q (by omega)) c_1
        refine lv_aload_n hx hb dX1_isAnyShort_8 rfl (lv_at hl 0 rfl) ?_
        obtain ⟨o_3, o_4, o_5, o_6, hf_2, hk_o_3, hk_o_4, hk_o_5, hk_o_6⟩ := hT.get hk_h0
        obtain ⟨q_7, hq_7⟩ := pl_at (X := []) (f := f) (e := .inr (1, [.ref o_3, .ref o_4, .ref o_5, .ref o_6])) hk_h0.1 hf_2
        refine va_get (D := (dC, dI)) (ci := 1) (v := .ref o_3) (C := RX1) (T := TX1) (N := 4) hx hb hts hin1 hown hK hP q_7 hq_7 rfl 0 (by decide) (hts (.fieldLink RX1 9 "YamRiders$Leader" "spare" "[I") (by decide +kernel)) (fun _ h9 => h9) rfl dX1_isAnyShort_9 ?_
        refine lv_iload_n hx hb dX1_isAnyShort_12 rfl (lv_at hl 1 rfl) ?_
        obtain ⟨g_9, hf_8⟩ := hT.get hk_o_3
        obtain ⟨q_10, hq_10⟩ := pl_at (X := []) (f := f) (e := .inl (cs 0, 12, .inl g_9)) hk_o_3.1 hf_8
        refine va_iald hx hb hK hP q_10 0 hq_10 rfl (vp_in_nI hlt (by decide)) dX1_isAnyShort_13 ?_
        refine lv_topi (fun v_11 ev_11 => ?_)
        refine lv_if_ge (tgt := 19) hx hb dX1_isAnyShort_14 (by decide) (fun c_12 => ?_) (fun c_12 => ?_)
        · refine lv_iinc (v := nI (k + 1)) (lv' := [(1, .int (nI (k + 1))), (0, .ref h0)]) hx hb dX1_isAnyShort_19 hl (k := 1) rfl (by exact (nI_1 k)) (by decide) rfl (fun ls hl => ?_)
          refine lv_goto (tgt := 2) hx hb dX1_isAnyShort_22 (by decide) ?_
          exact ih (k + 1) (by omega) (by omega) ls (lv_sub hl [1, 0] rfl)
        · refine lv_iconst (v := 1) hx hb dX1_isAnyShort_17 (by decide) ?_
          exact W.zret (v := 1) hx hb hr rfl (fun t9 ht hW => ⟨_, rfl, (Or.inr rfl), ht⟩) (fun q h => nomatch h) dX1_isAnyShort_18
  exact HL 13 0 (by omega) (by omega) ls (lv_sub hl [1, 0] rfl)

set_option maxHeartbeats 4000000 in
set_option maxRecDepth 100000 in
theorem t_X1_painsOver (l : Launch) (dC : Nat → ClassId) (dI : Nat → Nat → Nat) (cs : Nat → ClassId) (L : List Nat) (ka : Nat → Nat) (f : Nat → va_E) (h0 : Nat) (p0 : Int32) (p1 : Int32) (p2 : Int32) (sz : Nat) (hT : tO L ka cs f) (hk_h0 : tp L ka 1 h0) : Met l yX1_painsOver wsX1_painsOver ({ frames := 1, cells := 0, slots := 0, locals := 20 }) (va_Pc [.ref h0, .int p0, .int p1, .int p2] (cP dC dI ([] ++ va_pl L f) (tyC cs) sz)) (vp_Si (fun _ => True)) 0 0 (fun _ => False) := by
  refine Met.ofW (cc := cX1_painsOver) (maxL := 4) (ret := (some .int)) (by decide) rfl ?_
  intro p e s m args below meth c s₁ B hml hv
  obtain ⟨rfl, hsz, hP, hK, hD0, hN⟩ := hv
  have hx := B.exec
  have hb := B.bytes
  have hr := B.returns
  have hts := atoms_spec (ws := wsX1_painsOver) B.pre
  have hown : s.vm.findClass RX1 = some m.cls := findClass_of_methodNamed B.named
  have hlocks := B.notSynchronized
  subst hsz
  have hin1 : ∀ w ∈ u_ws RX1 TX1 4, w ∈ wsX1_painsOver := by decide +kernel
  have hD := hD0
  have hP : va_P (dC, dI) vwCl ([] ++ va_pl L f) s.heap := hP
  have hl := lv_entry ([.ref h0, .int p0, .int p1, .int p2]) (n := 4) (Nat.le_of_ble_eq_true rfl)
  rw [lg_entry_eq]
  generalize (lg_sl ([.ref h0, .int p0, .int p1, .int p2]) ++ List.replicate (4 - (lg_sl ([.ref h0, .int p0, .int p1, .int p2])).length) Slot.unset).toArray = ls at hl ⊢
  have hl : lv_has ls 4 [(0, .ref h0), (1, .int p0), (2, .int p1), (3, .int p2)] := hl
  refine lv_iload_n hx hb dX1_painsOver_0 rfl (lv_at hl 1 rfl) ?_
  have hPc := hP.sub (ws' := []) [] rfl
  have hDc := hD.sub (ws' := []) [] (by decide) rfl
  have hKc := hK.sub (tys' := []) [] rfl
  refine cs_i (va_runSN (As := [.int p0]) (rest := []) ⟨hx, hb, hml, hown, hts⟩ (c_X8_isStation l dC dI p0 s.heap.size) ⟨va_cnB 1 hts ggX1_painsOver_X8_isStation rfl rfl rfl (hN.1 (.methodLinkNest RX1 26 yX8_isStation "YamRiders") (by decide +kernel)) (hts (.initialized RX8) (by decide +kernel)) (by decide +kernel) ⟨Nat.le_of_ble_eq_true rfl, Nat.le_of_ble_eq_true rfl⟩, hts (.static yX8_isStation) (by decide +kernel), trivial⟩ ⟨c_blind, c_pre hPc hKc hDc hN⟩ rfl rfl hl.1 rfl (lv_room (Nat.le_of_ble_eq_true rfl)) dX1_painsOver_1 ⟨Nat.le_of_ble_eq_true rfl, Nat.le_of_ble_eq_true rfl⟩) (fun r_1 hr_1 => ?_)
  subst hr_1
  refine lv_if_eq (tgt := 30) hx hb dX1_painsOver_4 (by decide) (fun c_2 => ?_) (fun c_2 => ?_)
  · refine lv_iload_n hx hb dX1_painsOver_30 rfl (lv_at hl 3 rfl) ?_
    exact W.iret (v := p2) hx hb hr (fun t9 ht hW => ⟨_, rfl, trivial, ht⟩) (fun q h => nomatch h) dX1_painsOver_31
  · refine lv_iload_n hx hb dX1_painsOver_7 rfl (lv_at hl 2 rfl) ?_
    have hPc := hP.sub (ws' := []) [] rfl
    have hDc := hD.sub (ws' := []) [] (by decide) rfl
    have hKc := hK.sub (tys' := []) [] rfl
    refine cs_i (va_runSN (As := [.int p1]) (rest := []) ⟨hx, hb, hml, hown, hts⟩ (c_X8_isStation l dC dI p1 s.heap.size) ⟨va_cnB 1 hts ggX1_painsOver_X8_isStation rfl rfl rfl (hN.1 (.methodLinkNest RX1 26 yX8_isStation "YamRiders") (by decide +kernel)) (hts (.initialized RX8) (by decide +kernel)) (by decide +kernel) ⟨Nat.le_of_ble_eq_true rfl, Nat.le_of_ble_eq_true rfl⟩, hts (.static yX8_isStation) (by decide +kernel), trivial⟩ ⟨c_blind, c_pre hPc hKc hDc hN⟩ rfl rfl hl.1 rfl (lv_room (Nat.le_of_ble_eq_true rfl)) dX1_painsOver_8 ⟨Nat.le_of_ble_eq_true rfl, Nat.le_of_ble_eq_true rfl⟩) (fun r_3 hr_3 => ?_)
    subst hr_3
    refine lv_if_eq (tgt := 30) hx hb dX1_painsOver_11 (by decide) (fun c_4 => ?_) (fun c_4 => ?_)
    · refine lv_iload_n hx hb dX1_painsOver_30 rfl (lv_at hl 3 rfl) ?_
      exact W.iret (v := p2) hx hb hr (fun t9 ht hW => ⟨_, rfl, trivial, ht⟩) (fun q h => nomatch h) dX1_painsOver_31
    · refine lv_aload_n hx hb dX1_painsOver_14 rfl (lv_at hl 0 rfl) ?_
      obtain ⟨o_6, o_7, o_8, o_9, hf_5, hk_o_6, hk_o_7, hk_o_8, hk_o_9⟩ := hT.get hk_h0
      obtain ⟨q_10, hq_10⟩ := pl_at (X := []) (f := f) (e := .inr (1, [.ref o_6, .ref o_7, .ref o_8, .ref o_9])) hk_h0.1 hf_5
      refine va_get (D := (dC, dI)) (ci := 1) (v := .ref o_7) (C := RX1) (T := TX1) (N := 4) hx hb hts hin1 hown hK hP q_10 hq_10 rfl 1 (by decide) (hts (.fieldLink RX1 17 "YamRiders$Leader" "led" "[[I") (by decide +kernel)) (fun _ h9 => h9) rfl dX1_painsOver_15 ?_
      refine lv_iload_n hx hb dX1_painsOver_18 rfl (lv_at hl 2 rfl) ?_
      obtain ⟨g_12, hf_11, hr_13⟩ := hT.get hk_o_7
      obtain ⟨q_14, hq_14⟩ := pl_at (X := []) (f := f) (e := .inl (cs 2, 12, .inr (.inr (.inr (.inr g_12))))) hk_o_7.1 hf_11
      obtain ⟨o_15, hr_o_15, hk_o_15⟩ := hr_13 p1.toNatClampNeg (in_lt (st_in c_4))
      refine va_aldg hx hb hK hP q_14 2 hq_14 rfl (st_in c_4) hr_o_15 dX1_painsOver_19 ?_
      refine lv_iload_n hx hb dX1_painsOver_20 rfl (lv_at hl 1 rfl) ?_
      obtain ⟨g_17, hf_16⟩ := hT.get hk_o_15
      obtain ⟨q_18, hq_18⟩ := pl_at (X := []) (f := f) (e := .inl (cs 0, 12, .inl g_17)) hk_o_15.1 hf_16
      refine va_iald hx hb hK hP q_18 0 hq_18 rfl (st_in c_2) dX1_painsOver_21 ?_
      refine lv_topi (fun v_19 ev_19 => ?_)
      refine lv_if_le (tgt := 30) hx hb dX1_painsOver_22 (by decide) (fun c_20 => ?_) (fun c_20 => ?_)
      · refine lv_iload_n hx hb dX1_painsOver_30 rfl (lv_at hl 3 rfl) ?_
        exact W.iret (v := p2) hx hb hr (fun t9 ht hW => ⟨_, rfl, trivial, ht⟩) (fun q h => nomatch h) dX1_painsOver_31
      · refine lv_iload_n hx hb dX1_painsOver_25 rfl (lv_at hl 3 rfl) ?_
        refine lv_ineg hx hb dX1_painsOver_26 ?_
        refine lv_topi (fun v_21 ev_21 => ?_)
        refine lv_goto (tgt := 31) hx hb dX1_painsOver_27 (by decide) ?_
        exact W.iret (v := v_21) hx hb hr (fun t9 ht hW => ⟨_, rfl, trivial, ht⟩) (fun q h => nomatch h) dX1_painsOver_31

set_option maxHeartbeats 4000000 in
set_option maxRecDepth 100000 in
theorem t_X1_nearestShort (l : Launch) (dC : Nat → ClassId) (dI : Nat → Nat → Nat) (cs : Nat → ClassId) (L : List Nat) (ka : Nat → Nat) (f : Nat → va_E) (h0 : Nat) (sz : Nat) (hT : tO L ka cs f) (hk_h0 : tp L ka 1 h0) : Met l yX1_nearestShort wsX1_nearestShort ({ frames := 0, cells := 0, slots := 0, locals := 0 }) (va_Pc [.ref h0] (cP dC dI ([] ++ va_pl L f) (tyC cs) sz)) (vp_Si (fun _ => True)) 0 0 (fun _ => False) := by
  refine Met.ofW (cc := cX1_nearestShort) (maxL := 4) (ret := (some .int)) (by decide) rfl ?_
  intro p e s m args below meth c s₁ B hml hv
  obtain ⟨rfl, hsz, hP, hK, hD0, hN⟩ := hv
  have hx := B.exec
  have hb := B.bytes
  have hr := B.returns
  have hts := atoms_spec (ws := wsX1_nearestShort) B.pre
  have hown : s.vm.findClass RX1 = some m.cls := findClass_of_methodNamed B.named
  have hlocks := B.notSynchronized
  subst hsz
  have hin1 : ∀ w ∈ u_ws RX1 TX1 4, w ∈ wsX1_nearestShort := by decide +kernel
  have hD := hD0
  have hP : va_P (dC, dI) vwCl ([] ++ va_pl L f) s.heap := hP
  have hl := lv_entry ([.ref h0]) (n := 4) (Nat.le_of_ble_eq_true rfl)
  rw [lg_entry_eq]
  generalize (lg_sl ([.ref h0]) ++ List.replicate (4 - (lg_sl ([.ref h0])).length) Slot.unset).toArray = ls at hl ⊢
  have hl : lv_has ls 4 [(0, .ref h0)] := hl
  refine lv_iconst (v := (-1)) hx hb dX1_nearestShort_0 (by decide) ?_
  refine lv_istore_n (lv' := [(1, .int (-1)), (0, .ref h0)]) hx hb dX1_nearestShort_1 rfl hl (by decide) rfl (fun ls hl => ?_)
  refine lv_ldc (v := 1000000) hx hb hown (hts (.constant RX1 56 (1000000)) (by decide +kernel)) dX1_nearestShort_2 ?_
  refine lv_istore_n (lv' := [(2, .int 1000000), (1, .int (-1)), (0, .ref h0)]) hx hb dX1_nearestShort_4 rfl hl (by decide) rfl (fun ls hl => ?_)
  refine lv_iconst (v := 0) hx hb dX1_nearestShort_5 (by decide) ?_
  refine lv_istore_n (lv' := [(3, .int 0), (2, .int 1000000), (1, .int (-1)), (0, .ref h0)]) hx hb dX1_nearestShort_6 rfl hl (by decide) rfl (fun ls hl => ?_)
  have HL : ∀ (n k : Nat) (x1 : Int32) (x2 : Int32), k ≤ 12 → 12 + 1 ≤ k + n → ∀ ls : Array Slot, lv_has ls 4 [(0, .ref h0), (1, .int x1), (2, .int x2), (3, .int (nI k))] → W p l e (headSpec wsX1_nearestShort ({ frames := 0, cells := 0, slots := 0, locals := 0 })).room s m ([.ref h0]).toArray below meth c s.heap [] 0 0 (MQ below (vp_Si (fun _ => True)) ([.ref h0]).toArray s 0 0 (fun _ => False)) (F0 m 7 ls []) := by
    intro n
    induction n with
    | zero => intro k x1 x2 h1 h2; exact absurd h2 (by omega)
    | succ n ih =>
      intro k x1 x2 hk hn ls hl
      refine lv_iload_n hx hb dX1_nearestShort_7 rfl (lv_at hl 3 rfl) ?_
      refine lv_bipush (v := 12) hx hb dX1_nearestShort_8 (by decide) ?_
      refine lv_icmp_ge (tgt := 47) hx hb dX1_nearestShort_10 (by decide) (fun c_1 => ?_) (fun c_1 => ?_)
      · have hke : k = 12 := by
          rcases Nat.lt_or_ge k 12 with q | q
          · exact absurd c_1 (nI_ge q (by decide))
          · omega
        refine lv_iload_n hx hb dX1_nearestShort_47 rfl (lv_at hl 1 rfl) ?_
        exact W.iret (v := x1) hx hb hr (fun t9 ht hW => ⟨_, rfl, trivial, ht⟩) (fun q h => nomatch h) dX1_nearestShort_48
      · have hlt : k < 12 := by
          rcases Nat.lt_or_ge k 12 with q | q
          · exact q
          · exact absurd (show nI 12 ≤ nI k from nI_le q (by omega)) c_1
        refine lv_aload_n hx hb dX1_nearestShort_13 rfl (lv_at hl 0 rfl) ?_
        obtain ⟨o_3, o_4, o_5, o_6, hf_2, hk_o_3, hk_o_4, hk_o_5, hk_o_6⟩ := hT.get hk_h0
        obtain ⟨q_7, hq_7⟩ := pl_at (X := []) (f := f) (e := .inr (1, [.ref o_3, .ref o_4, .ref o_5, .ref o_6])) hk_h0.1 hf_2
        refine va_get (D := (dC, dI)) (ci := 1) (v := .ref o_3) (C := RX1) (T := TX1) (N := 4) hx hb hts hin1 hown hK hP q_7 hq_7 rfl 0 (by decide) (hts (.fieldLink RX1 9 "YamRiders$Leader" "spare" "[I") (by decide +kernel)) (fun _ h9 => h9) rfl dX1_nearestShort_14 ?_
        refine lv_iload_n hx hb dX1_nearestShort_17 rfl (lv_at hl 3 rfl) ?_
        obtain ⟨g_9, hf_8⟩ := hT.get hk_o_3
        obtain ⟨q_10, hq_10⟩ := pl_at (X := []) (f := f) (e := .inl (cs 0, 12, .inl g_9)) hk_o_3.1 hf_8
        refine va_iald hx hb hK hP q_10 0 hq_10 rfl (vp_in_nI hlt (by decide)) dX1_nearestShort_18 ?_
        refine lv_topi (fun v_11 ev_11 => ?_)
        refine lv_if_ge (tgt := 41) hx hb dX1_nearestShort_19 (by decide) (fun c_12 => ?_) (fun c_12 => ?_)
        · refine lv_iinc (v := nI (k + 1)) (lv' := [(3, .int (nI (k + 1))), (0, .ref h0), (1, .int x1), (2, .int x2)]) hx hb dX1_nearestShort_41 hl (k := 3) rfl (by exact (nI_1 k)) (by decide) rfl (fun ls hl => ?_)
          refine lv_goto (tgt := 7) hx hb dX1_nearestShort_44 (by decide) ?_
          exact ih (k + 1) x1 x2 (by omega) (by omega) ls (lv_sub hl [1, 2, 3, 0] rfl)
        · refine lv_aload_n hx hb dX1_nearestShort_22 rfl (lv_at hl 0 rfl) ?_
          obtain ⟨q_13, hq_13⟩ := pl_at (X := []) (f := f) (e := .inr (1, [.ref o_3, .ref o_4, .ref o_5, .ref o_6])) hk_h0.1 hf_2
          refine va_get (D := (dC, dI)) (ci := 1) (v := .ref o_5) (C := RX1) (T := TX1) (N := 4) hx hb hts hin1 hown hK hP q_13 hq_13 rfl 2 (by decide) (hts (.fieldLink RX1 20 "YamRiders$Leader" "pains" "[I") (by decide +kernel)) (fun _ h9 => h9) rfl dX1_nearestShort_23 ?_
          refine lv_iload_n hx hb dX1_nearestShort_26 rfl (lv_at hl 3 rfl) ?_
          obtain ⟨g_15, hf_14⟩ := hT.get hk_o_5
          obtain ⟨q_16, hq_16⟩ := pl_at (X := []) (f := f) (e := .inl (cs 0, 12, .inl g_15)) hk_o_5.1 hf_14
          refine va_iald hx hb hK hP q_16 0 hq_16 rfl (vp_in_nI hlt (by decide)) dX1_nearestShort_27 ?_
          refine lv_topi (fun v_17 ev_17 => ?_)
          refine lv_iload_n hx hb dX1_nearestShort_28 rfl (lv_at hl 2 rfl) ?_
          refine lv_icmp_ge (tgt := 41) hx hb dX1_nearestShort_29 (by decide) (fun c_18 => ?_) (fun c_18 => ?_)
          · refine lv_iinc (v := nI (k + 1)) (lv' := [(3, .int (nI (k + 1))), (0, .ref h0), (1, .int x1), (2, .int x2)]) hx hb dX1_nearestShort_41 hl (k := 3) rfl (by exact (nI_1 k)) (by decide) rfl (fun ls hl => ?_)
            refine lv_goto (tgt := 7) hx hb dX1_nearestShort_44 (by decide) ?_
            exact ih (k + 1) x1 x2 (by omega) (by omega) ls (lv_sub hl [1, 2, 3, 0] rfl)
          · refine lv_iload_n hx hb dX1_nearestShort_32 rfl (lv_at hl 3 rfl) ?_
            refine lv_istore_n (lv' := [(1, .int (nI k)), (0, .ref h0), (2, .int x2), (3, .int (nI k))]) hx hb dX1_nearestShort_33 rfl hl (by decide) rfl (fun ls hl => ?_)
            refine lv_aload_n hx hb dX1_nearestShort_34 rfl (lv_at hl 1 rfl) ?_
            obtain ⟨q_19, hq_19⟩ := pl_at (X := []) (f := f) (e := .inr (1, [.ref o_3, .ref o_4, .ref o_5, .ref o_6])) hk_h0.1 hf_2
            refine va_get (D := (dC, dI)) (ci := 1) (v := .ref o_5) (C := RX1) (T := TX1) (N := 4) hx hb hts hin1 hown hK hP q_19 hq_19 rfl 2 (by decide) (hts (.fieldLink RX1 20 "YamRiders$Leader" "pains" "[I") (by decide +kernel)) (fun _ h9 => h9) rfl dX1_nearestShort_35 ?_
            refine lv_iload_n hx hb dX1_nearestShort_38 rfl (lv_at hl 3 rfl) ?_
            obtain ⟨q_20, hq_20⟩ := pl_at (X := []) (f := f) (e := .inl (cs 0, 12, .inl g_15)) hk_o_5.1 hf_14
            refine va_iald hx hb hK hP q_20 0 hq_20 rfl (vp_in_nI hlt (by decide)) dX1_nearestShort_39 ?_
            refine lv_topi (fun v_21 ev_21 => ?_)
            obtain rfl : v_17 = v_21 := ev_17.trans ev_21.symm
            refine lv_istore_n (lv' := [(2, .int v_17), (1, .int (nI k)), (0, .ref h0), (3, .int (nI k))]) hx hb dX1_nearestShort_40 rfl hl (by decide) rfl (fun ls hl => ?_)
            refine lv_iinc (v := nI (k + 1)) (lv' := [(3, .int (nI (k + 1))), (2, .int v_17), (1, .int (nI k)), (0, .ref h0)]) hx hb dX1_nearestShort_41 hl (k := 3) rfl (by exact (nI_1 k)) (by decide) rfl (fun ls hl => ?_)
            refine lv_goto (tgt := 7) hx hb dX1_nearestShort_44 (by decide) ?_
            exact ih (k + 1) (nI k) v_17 (by omega) (by omega) ls (lv_sub hl [3, 2, 1, 0] rfl)
  exact HL 13 0 (-1) 1000000 (by omega) (by omega) ls (lv_sub hl [3, 2, 1, 0] rfl)

set_option maxHeartbeats 4000000 in
set_option maxRecDepth 100000 in
theorem t_X1_spreadFrom (l : Launch) (dC : Nat → ClassId) (dI : Nat → Nat → Nat) (cs : Nat → ClassId) (L : List Nat) (ka : Nat → Nat) (f : Nat → va_E) (h0 : Nat) (p0 : Int32) (e1 : Nat) (sz : Nat) (hT : tO L ka cs f) (hk_h0 : tp L ka 1 h0) (hk_e1 : tp L ka 3 e1) : Met l yX1_spreadFrom wsX1_spreadFrom ({ frames := 2, cells := 0, slots := 0, locals := 43 }) (va_Pc [.ref h0, .int p0, .ref e1] (cP dC dI ([] ++ va_pl L f) (tyC cs) sz)) (va_Qi (fun (r : Int32) (_ : Unit) => r = 0 ∨ r = 1) (fun (_ : Unit) t9 => ∃ (f2 : Nat → va_E), (tO L ka cs f2) ∧ cQ dC dI ([] ++ va_pl L f2) [] (va_A ([] ++ va_pl L f) sz) t9) (va_A ([] ++ va_pl L f) sz)) 0 0 (va_A ([] ++ va_pl L f) sz) := by
  refine Met.ofW (cc := cX1_spreadFrom) (maxL := 6) (ret := (some .boolean)) (by decide) rfl ?_
  intro p e s m args below meth c s₁ B hml hv
  obtain ⟨rfl, hsz, hP, hK, hD0, hN⟩ := hv
  have hx := B.exec
  have hb := B.bytes
  have hr := B.returns
  have hts := atoms_spec (ws := wsX1_spreadFrom) B.pre
  have hown : s.vm.findClass RX1 = some m.cls := findClass_of_methodNamed B.named
  have hlocks := B.notSynchronized
  subst hsz
  have hin1 : ∀ w ∈ u_ws RX1 TX1 4, w ∈ wsX1_spreadFrom := by decide +kernel
  have hD := hD0.self (sz := s.heap.size)
  generalize hAe : va_A ([] ++ va_pl L f) s.heap.size = A at hD ⊢
  have hA : ∀ q : Nat, s.heap.size ≤ q → A q := fun q h => by rw [← hAe]; exact Or.inr h
  have hS : va_S A s.heap s.heap [] := va_S.rf
  have hP : va_P (dC, dI) vwCl ([] ++ va_pl L f) s.heap := hP
  have hl := lv_entry ([.ref h0, .int p0, .ref e1]) (n := 6) (Nat.le_of_ble_eq_true rfl)
  rw [lg_entry_eq]
  generalize (lg_sl ([.ref h0, .int p0, .ref e1]) ++ List.replicate (6 - (lg_sl ([.ref h0, .int p0, .ref e1])).length) Slot.unset).toArray = ls at hl ⊢
  have hl : lv_has ls 6 [(0, .ref h0), (1, .int p0), (2, .ref e1)] := hl
  refine lv_iconst (v := 0) hx hb dX1_spreadFrom_0 (by decide) ?_
  refine lv_istore_n (lv' := [(3, .int 0), (0, .ref h0), (1, .int p0), (2, .ref e1)]) hx hb dX1_spreadFrom_1 rfl hl (by decide) rfl (fun ls hl => ?_)
  refine lv_iconst (v := 0) hx hb dX1_spreadFrom_2 (by decide) ?_
  refine lv_istore (lv' := [(4, .int 0), (3, .int 0), (0, .ref h0), (1, .int p0), (2, .ref e1)]) hx hb dX1_spreadFrom_3 hl (by decide) rfl (fun ls hl => ?_)
  have HL : ∀ (n k : Nat) (x3 : Int32), k ≤ 12 → 12 + 1 ≤ k + n → (x3 = 0 ∨ x3 = 1) → ∀ (f_1 : Nat → va_E) (H : Heap) (locs : List Loc), tO L ka cs f_1 → va_P (dC, dI) vwCl ([] ++ va_pl L f_1) H → va_D A ([] ++ va_pl L f_1) → va_S A s.heap H locs → ∀ ls : Array Slot, lv_has ls 6 [(0, .ref h0), (1, .int p0), (2, .ref e1), (3, .int x3), (4, .int (nI k))] → W p l e (headSpec wsX1_spreadFrom ({ frames := 2, cells := 0, slots := 0, locals := 43 })).room s m ([.ref h0, .int p0, .ref e1]).toArray below meth c H locs 0 0 (MQ below (va_Qi (fun (r : Int32) (_ : Unit) => r = 0 ∨ r = 1) (fun (_ : Unit) t9 => ∃ (f2 : Nat → va_E), (tO L ka cs f2) ∧ cQ dC dI ([] ++ va_pl L f2) [] A t9) A) ([.ref h0, .int p0, .ref e1]).toArray s 0 0 A) (F0 m 5 ls []) := by
    intro n
    induction n with
    | zero => intro k x3 h1 h2; exact absurd h2 (by omega)
    | succ n ih =>
      intro k x3 hk hn h01 f_1 H locs hT hP hD hS ls hl
      refine lv_iload hx hb dX1_spreadFrom_5 (lv_at hl 4 rfl) ?_
      refine lv_bipush (v := 12) hx hb dX1_spreadFrom_7 (by decide) ?_
      refine lv_icmp_ge (tgt := 99) hx hb dX1_spreadFrom_9 (by decide) (fun c_2 => ?_) (fun c_2 => ?_)
      · have hke : k = 12 := by
          rcases Nat.lt_or_ge k 12 with q | q
          · exact absurd c_2 (nI_ge q (by decide))
          · omega
        refine lv_iload_n hx hb dX1_spreadFrom_99 rfl (lv_at hl 3 rfl) ?_
        have hP9 := hP.part (cx := []) [] rfl
        have hD9 := hD.part (cx := []) [] (by decide) rfl
        have hK9 := hK.sub (tys' := []) [] rfl
        refine W.widen (k := 0) (n := 0) (Nat.le_of_ble_eq_true rfl) (Nat.le_of_ble_eq_true rfl) ?_
        exact W.zret (v := x3) hx hb hr (nz01 h01) (fun t9 ht hW => ⟨⟨_, (), rfl, h01, f_1, hT, by rw [ht]; exact hP9, va_K.moved hW.alike hK9, hD9⟩, hS.F ht⟩) hS.2.2 dX1_spreadFrom_100
      · have hlt : k < 12 := by
          rcases Nat.lt_or_ge k 12 with q | q
          · exact q
          · exact absurd (show nI 12 ≤ nI k from nI_le q (by omega)) c_2
        refine lv_iload_n hx hb dX1_spreadFrom_12 rfl (lv_at hl 1 rfl) ?_
        have hPc := hP.sub (ws' := []) [] rfl
        have hDc := hD.sub (ws' := []) [] (by decide) rfl
        have hKc := hK.sub (tys' := []) [] rfl
        refine cs_i (va_runSN (As := [.int p0]) (rest := []) ⟨hx, hb, hml, hown, hts⟩ (c_X8_isStation l dC dI p0 H.size) ⟨va_cnB 1 hts ggX1_spreadFrom_X8_isStation rfl rfl rfl (hN.1 (.methodLinkNest RX1 26 yX8_isStation "YamRiders") (by decide +kernel)) (hts (.initialized RX8) (by decide +kernel)) (by decide +kernel) ⟨Nat.le_of_ble_eq_true rfl, Nat.le_of_ble_eq_true rfl⟩, hts (.static yX8_isStation) (by decide +kernel), trivial⟩ ⟨c_blind, c_pre hPc hKc hDc hN⟩ rfl rfl hl.1 rfl (lv_room (Nat.le_of_ble_eq_true rfl)) dX1_spreadFrom_13 ⟨Nat.le_of_ble_eq_true rfl, Nat.le_of_ble_eq_true rfl⟩) (fun r_3 hr_3 => ?_)
        subst hr_3
        refine lv_if_eq (tgt := 99) hx hb dX1_spreadFrom_16 (by decide) (fun c_4 => ?_) (fun c_4 => ?_)
        · refine lv_iload_n hx hb dX1_spreadFrom_99 rfl (lv_at hl 3 rfl) ?_
          have hP9 := hP.part (cx := []) [] rfl
          have hD9 := hD.part (cx := []) [] (by decide) rfl
          have hK9 := hK.sub (tys' := []) [] rfl
          refine W.widen (k := 0) (n := 0) (Nat.le_of_ble_eq_true rfl) (Nat.le_of_ble_eq_true rfl) ?_
          exact W.zret (v := x3) hx hb hr (nz01 h01) (fun t9 ht hW => ⟨⟨_, (), rfl, h01, f_1, hT, by rw [ht]; exact hP9, va_K.moved hW.alike hK9, hD9⟩, hS.F ht⟩) hS.2.2 dX1_spreadFrom_100
        · refine lv_aload_n hx hb dX1_spreadFrom_19 rfl (lv_at hl 2 rfl) ?_
          refine lv_iload_n hx hb dX1_spreadFrom_20 rfl (lv_at hl 1 rfl) ?_
          refine lv_iload hx hb dX1_spreadFrom_21 (lv_at hl 4 rfl) ?_
          have hPc := hP.part (cx := []) [] rfl
          have hDc := hD.part (cx := []) [] (by decide) rfl
          have hKc := hK
          obtain ⟨o_6, o_7, o_8, o_9, o_10, hf_5, hk_o_6, hk_o_7, hk_o_8, hk_o_9, hk_o_10⟩ := hT.get hk_e1
          obtain ⟨q_11, hq_11⟩ := pl_at (X := []) (f := f_1) (e := .inr (3, [.ref o_6, .ref o_7, .ref o_8, .ref o_9, .ref o_10])) hk_e1.1 hf_5
          refine cs_i (va_runV (As := [.int p0, .int (nI k)]) (rest := []) ⟨hx, hb, hml, hown, hts⟩ (t_X3_timeBetween l dC dI cs L ka f_1 e1 p0 (nI k) H.size hT hk_e1) (cwV 2 hts gX1_spreadFrom_X3_timeBetween rfl rfl rfl (by decide +kernel) ⟨Nat.le_of_ble_eq_true rfl, Nat.le_of_ble_eq_true rfl⟩) ⟨c_blind, va_recv hKc hPc (ci := 3) (q0 := q_11) rfl hq_11, c_pre hPc hKc hDc hN⟩ rfl rfl hl.1 rfl (lv_room (Nat.le_of_ble_eq_true rfl)) dX1_spreadFrom_23 ⟨Nat.le_of_ble_eq_true rfl, Nat.le_of_ble_eq_true rfl⟩) (fun r_12 hr_12 => ?_)
          refine lv_istore (lv' := [(5, .int r_12), (0, .ref h0), (1, .int p0), (2, .ref e1), (3, .int x3), (4, .int (nI k))]) hx hb dX1_spreadFrom_26 hl (by decide) rfl (fun ls hl => ?_)
          refine lv_iload hx hb dX1_spreadFrom_28 (lv_at hl 0 rfl) ?_
          refine lv_iconst (v := (-1)) hx hb dX1_spreadFrom_30 (by decide) ?_
          refine lv_icmp_eq (tgt := 93) hx hb dX1_spreadFrom_31 (by decide) (fun c_13 => ?_) (fun c_13 => ?_)
          · refine lv_iinc (v := nI (k + 1)) (lv' := [(4, .int (nI (k + 1))), (5, .int r_12), (0, .ref h0), (1, .int p0), (2, .ref e1), (3, .int x3)]) hx hb dX1_spreadFrom_93 hl (k := 5) rfl (by exact (nI_1 k)) (by decide) rfl (fun ls hl => ?_)
            refine lv_goto (tgt := 5) hx hb dX1_spreadFrom_96 (by decide) ?_
            exact ih (k + 1) x3 (by omega) (by omega) h01 _ _ _ hT (hP.part (cx := _) [] rfl) (hD.part (cx := _) [] (by decide) rfl) hS ls (lv_sub hl [2, 3, 4, 5, 0] rfl)
          · refine lv_aload_n hx hb dX1_spreadFrom_34 rfl (lv_at hl 1 rfl) ?_
            obtain ⟨o_15, o_16, o_17, o_18, hf_14, hk_o_15, hk_o_16, hk_o_17, hk_o_18⟩ := hT.get hk_h0
            obtain ⟨q_19, hq_19⟩ := pl_at (X := []) (f := f_1) (e := .inr (1, [.ref o_15, .ref o_16, .ref o_17, .ref o_18])) hk_h0.1 hf_14
            refine va_get (D := (dC, dI)) (ci := 1) (v := .ref o_17) (C := RX1) (T := TX1) (N := 4) hx hb hts hin1 hown hK hP q_19 hq_19 rfl 2 (by decide) (hts (.fieldLink RX1 20 "YamRiders$Leader" "pains" "[I") (by decide +kernel)) (fun _ h9 => h9) rfl dX1_spreadFrom_35 ?_
            refine lv_iload_n hx hb dX1_spreadFrom_38 rfl (lv_at hl 2 rfl) ?_
            obtain ⟨g_21, hf_20⟩ := hT.get hk_o_17
            obtain ⟨q_22, hq_22⟩ := pl_at (X := []) (f := f_1) (e := .inl (cs 0, 12, .inl g_21)) hk_o_17.1 hf_20
            refine va_iald hx hb hK hP q_22 0 hq_22 rfl (st_in c_4) dX1_spreadFrom_39 ?_
            refine lv_topi (fun v_23 ev_23 => ?_)
            refine lv_aload_n hx hb dX1_spreadFrom_40 rfl (lv_at hl 1 rfl) ?_
            refine lv_iload_n hx hb dX1_spreadFrom_41 rfl (lv_at hl 2 rfl) ?_
            refine lv_iload hx hb dX1_spreadFrom_42 (lv_at hl 5 rfl) ?_
            refine lv_iload hx hb dX1_spreadFrom_44 (lv_at hl 0 rfl) ?_
            have hPc := hP.part (cx := []) [] rfl
            have hDc := hD.part (cx := []) [] (by decide) rfl
            have hKc := hK
            obtain ⟨q_24, hq_24⟩ := pl_at (X := []) (f := f_1) (e := .inr (1, [.ref o_15, .ref o_16, .ref o_17, .ref o_18])) hk_h0.1 hf_14
            refine cs_i (va_runV (As := [.int p0, .int (nI k), .int r_12]) (rest := [.int v_23]) ⟨hx, hb, hml, hown, hts⟩ (t_X1_painsOver l dC dI cs L ka f_1 h0 p0 (nI k) r_12 H.size hT hk_h0) (cwV 3 hts gX1_spreadFrom_X1_painsOver rfl rfl rfl (by decide +kernel) ⟨Nat.le_of_ble_eq_true rfl, Nat.le_of_ble_eq_true rfl⟩) ⟨c_blind, va_recv hKc hPc (ci := 1) (q0 := q_24) rfl hq_24, c_pre hPc hKc hDc hN⟩ rfl rfl hl.1 rfl (lv_room (Nat.le_of_ble_eq_true rfl)) dX1_spreadFrom_46 ⟨Nat.le_of_ble_eq_true rfl, Nat.le_of_ble_eq_true rfl⟩) (fun r_25 hr_25 => ?_)
            refine lv_iadd hx hb dX1_spreadFrom_49 ?_
            refine lv_topi (fun v_26 ev_26 => ?_)
            refine lv_aload_n hx hb dX1_spreadFrom_50 rfl (lv_at hl 1 rfl) ?_
            obtain ⟨q_27, hq_27⟩ := pl_at (X := []) (f := f_1) (e := .inr (1, [.ref o_15, .ref o_16, .ref o_17, .ref o_18])) hk_h0.1 hf_14
            refine va_get (D := (dC, dI)) (ci := 1) (v := .ref o_17) (C := RX1) (T := TX1) (N := 4) hx hb hts hin1 hown hK hP q_27 hq_27 rfl 2 (by decide) (hts (.fieldLink RX1 20 "YamRiders$Leader" "pains" "[I") (by decide +kernel)) (fun _ h9 => h9) rfl dX1_spreadFrom_51 ?_
            refine lv_iload hx hb dX1_spreadFrom_54 (lv_at hl 5 rfl) ?_
            obtain ⟨q_28, hq_28⟩ := pl_at (X := []) (f := f_1) (e := .inl (cs 0, 12, .inl g_21)) hk_o_17.1 hf_20
            refine va_iald hx hb hK hP q_28 0 hq_28 rfl (vp_in_nI hlt (by decide)) dX1_spreadFrom_56 ?_
            refine lv_topi (fun v_29 ev_29 => ?_)
            refine lv_icmp_ge (tgt := 93) hx hb dX1_spreadFrom_57 (by decide) (fun c_30 => ?_) (fun c_30 => ?_)
            · refine lv_iinc (v := nI (k + 1)) (lv' := [(4, .int (nI (k + 1))), (5, .int r_12), (0, .ref h0), (1, .int p0), (2, .ref e1), (3, .int x3)]) hx hb dX1_spreadFrom_93 hl (k := 5) rfl (by exact (nI_1 k)) (by decide) rfl (fun ls hl => ?_)
              refine lv_goto (tgt := 5) hx hb dX1_spreadFrom_96 (by decide) ?_
              exact ih (k + 1) x3 (by omega) (by omega) h01 _ _ _ hT (hP.part (cx := _) [] rfl) (hD.part (cx := _) [] (by decide) rfl) hS ls (lv_sub hl [2, 3, 4, 5, 0] rfl)
            · refine lv_aload_n hx hb dX1_spreadFrom_60 rfl (lv_at hl 1 rfl) ?_
              obtain ⟨q_31, hq_31⟩ := pl_at (X := []) (f := f_1) (e := .inr (1, [.ref o_15, .ref o_16, .ref o_17, .ref o_18])) hk_h0.1 hf_14
              refine va_get (D := (dC, dI)) (ci := 1) (v := .ref o_17) (C := RX1) (T := TX1) (N := 4) hx hb hts hin1 hown hK hP q_31 hq_31 rfl 2 (by decide) (hts (.fieldLink RX1 20 "YamRiders$Leader" "pains" "[I") (by decide +kernel)) (fun _ h9 => h9) rfl dX1_spreadFrom_61 ?_
              refine lv_iload hx hb dX1_spreadFrom_64 (lv_at hl 5 rfl) ?_
              refine lv_aload_n hx hb dX1_spreadFrom_66 rfl (lv_at hl 1 rfl) ?_
              obtain ⟨q_32, hq_32⟩ := pl_at (X := []) (f := f_1) (e := .inr (1, [.ref o_15, .ref o_16, .ref o_17, .ref o_18])) hk_h0.1 hf_14
              refine va_get (D := (dC, dI)) (ci := 1) (v := .ref o_17) (C := RX1) (T := TX1) (N := 4) hx hb hts hin1 hown hK hP q_32 hq_32 rfl 2 (by decide) (hts (.fieldLink RX1 20 "YamRiders$Leader" "pains" "[I") (by decide +kernel)) (fun _ h9 => h9) rfl dX1_spreadFrom_67 ?_
              refine lv_iload_n hx hb dX1_spreadFrom_70 rfl (lv_at hl 2 rfl) ?_
              obtain ⟨q_33, hq_33⟩ := pl_at (X := []) (f := f_1) (e := .inl (cs 0, 12, .inl g_21)) hk_o_17.1 hf_20
              refine va_iald hx hb hK hP q_33 0 hq_33 rfl (st_in c_4) dX1_spreadFrom_71 ?_
              refine lv_topi (fun v_34 ev_34 => ?_)
              obtain rfl : v_23 = v_34 := ev_23.trans ev_34.symm
              refine lv_aload_n hx hb dX1_spreadFrom_72 rfl (lv_at hl 1 rfl) ?_
              refine lv_iload_n hx hb dX1_spreadFrom_73 rfl (lv_at hl 2 rfl) ?_
              refine lv_iload hx hb dX1_spreadFrom_74 (lv_at hl 5 rfl) ?_
              refine lv_iload hx hb dX1_spreadFrom_76 (lv_at hl 0 rfl) ?_
              have hPc := hP.part (cx := []) [] rfl
              have hDc := hD.part (cx := []) [] (by decide) rfl
              have hKc := hK
              obtain ⟨q_35, hq_35⟩ := pl_at (X := []) (f := f_1) (e := .inr (1, [.ref o_15, .ref o_16, .ref o_17, .ref o_18])) hk_h0.1 hf_14
              refine cs_i (va_runV (As := [.int p0, .int (nI k), .int r_12]) (rest := [.int v_23, .int (nI k), .ref o_17]) ⟨hx, hb, hml, hown, hts⟩ (t_X1_painsOver l dC dI cs L ka f_1 h0 p0 (nI k) r_12 H.size hT hk_h0) (cwV 3 hts gX1_spreadFrom_X1_painsOver rfl rfl rfl (by decide +kernel) ⟨Nat.le_of_ble_eq_true rfl, Nat.le_of_ble_eq_true rfl⟩) ⟨c_blind, va_recv hKc hPc (ci := 1) (q0 := q_35) rfl hq_35, c_pre hPc hKc hDc hN⟩ rfl rfl hl.1 rfl (lv_room (Nat.le_of_ble_eq_true rfl)) dX1_spreadFrom_78 ⟨Nat.le_of_ble_eq_true rfl, Nat.le_of_ble_eq_true rfl⟩) (fun r_36 hr_36 => ?_)
              refine lv_iadd hx hb dX1_spreadFrom_81 ?_
              refine lv_topi (fun v_37 ev_37 => ?_)
              obtain ⟨q_38, hq_38⟩ := pl_at (X := []) (f := f_1) (e := .inl (cs 0, 12, .inl g_21)) hk_o_17.1 hf_20
              refine va_iast hx hb hK hP hD hS q_38 0 hq_38 rfl (vp_in_nI hlt (by decide)) dX1_spreadFrom_82 (fun H locs hP9 hD9 hS => ?_)
              have hs_39 := pl_st (.inl (cs 0, 12, .inl (upd g_21 (nI k).toNatClampNeg v_37))) hD hk_o_17.1 hf_20 hq_38
              have hP9 : va_P (dC, dI) vwCl ((([] : va_W) ++ va_pl L f_1).set q_38 (o_17, .inl (cs 0, 12, .inl (upd g_21 (nI k).toNatClampNeg v_37)))) H := hP9
              have hD9 : va_D A ((([] : va_W) ++ va_pl L f_1).set q_38 (o_17, .inl (cs 0, 12, .inl (upd g_21 (nI k).toNatClampNeg v_37)))) := hD9
              rw [hs_39] at hP9 hD9
              have hT := hT.put (e := .inl (cs 0, 12, .inl (upd g_21 (nI k).toNatClampNeg v_37))) hk_o_17 ⟨_, rfl⟩
              have hf_40 : va_up f_1 o_17 (.inl (cs 0, 12, .inl (upd g_21 (nI k).toNatClampNeg v_37))) o_17 = .inl (cs 0, 12, .inl (upd g_21 (nI k).toNatClampNeg v_37)) := va_up_self _ _ _
              have hP := hP9
              have hD := hD9
              clear hP9 hD9 hs_39
              generalize va_up f_1 o_17 (.inl (cs 0, 12, .inl (upd g_21 (nI k).toNatClampNeg v_37))) = f_41 at hP hD hT hf_40
              generalize upd g_21 (nI k).toNatClampNeg v_37 = g_42 at hf_40
              refine lv_aload_n hx hb dX1_spreadFrom_83 rfl (lv_at hl 1 rfl) ?_
              obtain ⟨o_44, o_45, o_46, o_47, hf_43, hk_o_44, hk_o_45, hk_o_46, hk_o_47⟩ := hT.get hk_h0
              obtain ⟨q_48, hq_48⟩ := pl_at (X := []) (f := f_41) (e := .inr (1, [.ref o_44, .ref o_45, .ref o_46, .ref o_47])) hk_h0.1 hf_43
              refine va_get (D := (dC, dI)) (ci := 1) (v := .ref o_47) (C := RX1) (T := TX1) (N := 4) hx hb hts hin1 hown hK hP q_48 hq_48 rfl 3 (by decide) (hts (.fieldLink RX1 23 "YamRiders$Leader" "from" "[I") (by decide +kernel)) (fun _ h9 => h9) rfl dX1_spreadFrom_84 ?_
              refine lv_iload hx hb dX1_spreadFrom_87 (lv_at hl 5 rfl) ?_
              refine lv_iload_n hx hb dX1_spreadFrom_89 rfl (lv_at hl 2 rfl) ?_
              obtain ⟨g_50, hf_49⟩ := hT.get hk_o_47
              obtain ⟨q_51, hq_51⟩ := pl_at (X := []) (f := f_41) (e := .inl (cs 0, 12, .inl g_50)) hk_o_47.1 hf_49
              refine va_iast hx hb hK hP hD hS q_51 0 hq_51 rfl (vp_in_nI hlt (by decide)) dX1_spreadFrom_90 (fun H locs hP9 hD9 hS => ?_)
              have hs_52 := pl_st (.inl (cs 0, 12, .inl (upd g_50 (nI k).toNatClampNeg p0))) hD hk_o_47.1 hf_49 hq_51
              have hP9 : va_P (dC, dI) vwCl ((([] : va_W) ++ va_pl L f_41).set q_51 (o_47, .inl (cs 0, 12, .inl (upd g_50 (nI k).toNatClampNeg p0)))) H := hP9
              have hD9 : va_D A ((([] : va_W) ++ va_pl L f_41).set q_51 (o_47, .inl (cs 0, 12, .inl (upd g_50 (nI k).toNatClampNeg p0)))) := hD9
              rw [hs_52] at hP9 hD9
              have hT := hT.put (e := .inl (cs 0, 12, .inl (upd g_50 (nI k).toNatClampNeg p0))) hk_o_47 ⟨_, rfl⟩
              have hf_53 : va_up f_41 o_47 (.inl (cs 0, 12, .inl (upd g_50 (nI k).toNatClampNeg p0))) o_47 = .inl (cs 0, 12, .inl (upd g_50 (nI k).toNatClampNeg p0)) := va_up_self _ _ _
              have hP := hP9
              have hD := hD9
              clear hP9 hD9 hs_52
              generalize va_up f_41 o_47 (.inl (cs 0, 12, .inl (upd g_50 (nI k).toNatClampNeg p0))) = f_54 at hP hD hT hf_53
              generalize upd g_50 (nI k).toNatClampNeg p0 = g_55 at hf_53
              refine lv_iconst (v := 1) hx hb dX1_spreadFrom_91 (by decide) ?_
              refine lv_istore_n (lv' := [(3, .int 1), (5, .int r_12), (0, .ref h0), (1, .int p0), (2, .ref e1), (4, .int (nI k))]) hx hb dX1_spreadFrom_92 rfl hl (by decide) rfl (fun ls hl => ?_)
              refine lv_iinc (v := nI (k + 1)) (lv' := [(4, .int (nI (k + 1))), (3, .int 1), (5, .int r_12), (0, .ref h0), (1, .int p0), (2, .ref e1)]) hx hb dX1_spreadFrom_93 hl (k := 5) rfl (by exact (nI_1 k)) (by decide) rfl (fun ls hl => ?_)
              refine lv_goto (tgt := 5) hx hb dX1_spreadFrom_96 (by decide) ?_
              exact ih (k + 1) 1 (by omega) (by omega) (Or.inr rfl) _ _ _ hT (hP.part (cx := _) [] rfl) (hD.part (cx := _) [] (by decide) rfl) hS ls (lv_sub hl [3, 4, 5, 1, 0] rfl)
  exact HL 13 0 0 (by omega) (by omega) (Or.inl rfl) _ _ _ hT (hP.part (cx := _) [] rfl) (hD.part (cx := _) [] (by decide) rfl) hS ls (lv_sub hl [2, 3, 4, 1, 0] rfl)

set_option maxHeartbeats 4000000 in
set_option maxRecDepth 100000 in
theorem t_X1_spread (l : Launch) (dC : Nat → ClassId) (dI : Nat → Nat → Nat) (cs : Nat → ClassId) (L : List Nat) (ka : Nat → Nat) (f : Nat → va_E) (h0 : Nat) (e1 : Nat) (sz : Nat) (hT : tO L ka cs f) (hk_h0 : tp L ka 1 h0) (hk_e1 : tp L ka 3 e1) : Met l yX1_spread wsX1_spread ({ frames := 3, cells := 0, slots := 0, locals := 68 }) (va_Pc [.ref h0, .ref e1] (cP dC dI ([] ++ va_pl L f) (tyC cs) sz)) (va_Qv (fun (_ : Unit) => True) (fun (_ : Unit) t9 => ∃ (f2 : Nat → va_E), (tO L ka cs f2) ∧ cQ dC dI ([] ++ va_pl L f2) [] (va_A ([] ++ va_pl L f) sz) t9) (va_A ([] ++ va_pl L f) sz)) 0 0 (va_A ([] ++ va_pl L f) sz) := by
  refine Met.ofW (cc := cX1_spread) (maxL := 5) (ret := none) (by decide) rfl ?_
  intro p e s m args below meth c s₁ B hml hv
  obtain ⟨rfl, hsz, hP, hK, hD0, hN⟩ := hv
  have hx := B.exec
  have hb := B.bytes
  have hr := B.returns
  have hts := atoms_spec (ws := wsX1_spread) B.pre
  have hown : s.vm.findClass RX1 = some m.cls := findClass_of_methodNamed B.named
  have hlocks := B.notSynchronized
  subst hsz
  have hin1 : ∀ w ∈ u_ws RX1 TX1 4, w ∈ wsX1_spread := by decide +kernel
  have hD := hD0.self (sz := s.heap.size)
  generalize hAe : va_A ([] ++ va_pl L f) s.heap.size = A at hD ⊢
  have hA : ∀ q : Nat, s.heap.size ≤ q → A q := fun q h => by rw [← hAe]; exact Or.inr h
  have hS : va_S A s.heap s.heap [] := va_S.rf
  have hP : va_P (dC, dI) vwCl ([] ++ va_pl L f) s.heap := hP
  have hl := lv_entry ([.ref h0, .ref e1]) (n := 5) (Nat.le_of_ble_eq_true rfl)
  rw [lg_entry_eq]
  generalize (lg_sl ([.ref h0, .ref e1]) ++ List.replicate (5 - (lg_sl ([.ref h0, .ref e1])).length) Slot.unset).toArray = ls at hl ⊢
  have hl : lv_has ls 5 [(0, .ref h0), (1, .ref e1)] := hl
  refine lv_iconst (v := 0) hx hb dX1_spread_0 (by decide) ?_
  refine lv_istore_n (lv' := [(2, .int 0), (0, .ref h0), (1, .ref e1)]) hx hb dX1_spread_1 rfl hl (by decide) rfl (fun ls hl => ?_)
  have HL : ∀ (n k : Nat), k ≤ 12 → 12 + 1 ≤ k + n → ∀ (f_1 : Nat → va_E) (H : Heap) (locs : List Loc), tO L ka cs f_1 → va_P (dC, dI) vwCl ([] ++ va_pl L f_1) H → va_D A ([] ++ va_pl L f_1) → va_S A s.heap H locs → ∀ ls : Array Slot, lv_has ls 5 [(0, .ref h0), (1, .ref e1), (2, .int (nI k))] → W p l e (headSpec wsX1_spread ({ frames := 3, cells := 0, slots := 0, locals := 68 })).room s m ([.ref h0, .ref e1]).toArray below meth c H locs 0 0 (MQ below (va_Qv (fun (_ : Unit) => True) (fun (_ : Unit) t9 => ∃ (f2 : Nat → va_E), (tO L ka cs f2) ∧ cQ dC dI ([] ++ va_pl L f2) [] A t9) A) ([.ref h0, .ref e1]).toArray s 0 0 A) (F0 m 2 ls []) := by
    intro n
    induction n with
    | zero => intro k h1 h2; exact absurd h2 (by omega)
    | succ n ih =>
      intro k hk hn f_1 H locs hT hP hD hS ls hl
      refine lv_iload_n hx hb dX1_spread_2 rfl (lv_at hl 2 rfl) ?_
      refine lv_bipush (v := 12) hx hb dX1_spread_3 (by decide) ?_
      refine lv_icmp_ge (tgt := 42) hx hb dX1_spread_5 (by decide) (fun c_2 => ?_) (fun c_2 => ?_)
      · have hke : k = 12 := by
          rcases Nat.lt_or_ge k 12 with q | q
          · exact absurd c_2 (nI_ge q (by decide))
          · omega
        refine lv_iconst (v := 1) hx hb dX1_spread_42 (by decide) ?_
        refine lv_istore_n (lv' := [(2, .int 1), (0, .ref h0), (1, .ref e1)]) hx hb dX1_spread_43 rfl hl (by decide) rfl (fun ls hl => ?_)
        refine lv_iconst (v := 0) hx hb dX1_spread_44 (by decide) ?_
        refine lv_istore_n (lv' := [(3, .int 0), (2, .int 1), (0, .ref h0), (1, .ref e1)]) hx hb dX1_spread_45 rfl hl (by decide) rfl (fun ls hl => ?_)
        have HL_j : ∀ (n_j j : Nat) (x2 : Int32), j ≤ 12 → 12 + 1 ≤ j + n_j → ∀ (f_3 : Nat → va_E) (H : Heap) (locs : List Loc), tO L ka cs f_3 → va_P (dC, dI) vwCl ([] ++ va_pl L f_3) H → va_D A ([] ++ va_pl L f_3) → va_S A s.heap H locs → ∀ ls : Array Slot, lv_has ls 5 [(0, .ref h0), (1, .ref e1), (2, .int x2), (3, .int (nI j))] → W p l e (headSpec wsX1_spread ({ frames := 3, cells := 0, slots := 0, locals := 68 })).room s m ([.ref h0, .ref e1]).toArray below meth c H locs 0 0 (MQ below (va_Qv (fun (_ : Unit) => True) (fun (_ : Unit) t9 => ∃ (f2 : Nat → va_E), (tO L ka cs f2) ∧ cQ dC dI ([] ++ va_pl L f2) [] A t9) A) ([.ref h0, .ref e1]).toArray s 0 0 A) (F0 m 46 ls []) := by
          intro n_j
          induction n_j with
          | zero => intro j x2 h1 h2; exact absurd h2 (by omega)
          | succ n_j ih_j =>
            intro j x2 hk_j hn_j f_3 H locs hT hP hD hS ls hl
            refine lv_iload_n hx hb dX1_spread_46 rfl (lv_at hl 3 rfl) ?_
            refine lv_bipush (v := 12) hx hb dX1_spread_47 (by decide) ?_
            refine lv_icmp_ge (tgt := 104) hx hb dX1_spread_49 (by decide) (fun c_4 => ?_) (fun c_4 => ?_)
            · have hke_j : j = 12 := by
                rcases Nat.lt_or_ge j 12 with q | q
                · exact absurd c_4 (nI_ge q (by decide))
                · omega
              have hP9 := hP.part (cx := []) [] rfl
              have hD9 := hD.part (cx := []) [] (by decide) rfl
              have hK9 := hK.sub (tys' := []) [] rfl
              refine W.widen (k := 0) (n := 0) (Nat.le_of_ble_eq_true rfl) (Nat.le_of_ble_eq_true rfl) ?_
              exact W.vret hx hb hr (fun t9 ht hW => ⟨⟨(), rfl, trivial, f_3, hT, by rw [ht]; exact hP9, va_K.moved hW.alike hK9, hD9⟩, hS.F ht⟩) hS.2.2 dX1_spread_104
            · have hlt_j : j < 12 := by
                rcases Nat.lt_or_ge j 12 with q | q
                · exact q
                · exact absurd (show nI 12 ≤ nI j from nI_le q (by omega)) c_4
              refine lv_iload_n hx hb dX1_spread_52 rfl (lv_at hl 2 rfl) ?_
              refine lv_if_eq (tgt := 104) hx hb dX1_spread_53 (by decide) (fun c_5 => ?_) (fun c_5 => ?_)
              · have hP9 := hP.part (cx := []) [] rfl
                have hD9 := hD.part (cx := []) [] (by decide) rfl
                have hK9 := hK.sub (tys' := []) [] rfl
                refine W.widen (k := 0) (n := 0) (Nat.le_of_ble_eq_true rfl) (Nat.le_of_ble_eq_true rfl) ?_
                exact W.vret hx hb hr (fun t9 ht hW => ⟨⟨(), rfl, trivial, f_3, hT, by rw [ht]; exact hP9, va_K.moved hW.alike hK9, hD9⟩, hS.F ht⟩) hS.2.2 dX1_spread_104
              · refine lv_iconst (v := 0) hx hb dX1_spread_56 (by decide) ?_
                refine lv_istore_n (lv' := [(2, .int 0), (0, .ref h0), (1, .ref e1), (3, .int (nI j))]) hx hb dX1_spread_57 rfl hl (by decide) rfl (fun ls hl => ?_)
                refine lv_iconst (v := 0) hx hb dX1_spread_58 (by decide) ?_
                refine lv_istore (lv' := [(4, .int 0), (2, .int 0), (0, .ref h0), (1, .ref e1), (3, .int (nI j))]) hx hb dX1_spread_59 hl (by decide) rfl (fun ls hl => ?_)
                have HL_i : ∀ (n_i i : Nat) (y2 : Int32), i ≤ 12 → 12 + 1 ≤ i + n_i → ∀ (f_6 : Nat → va_E) (H : Heap) (locs : List Loc), tO L ka cs f_6 → va_P (dC, dI) vwCl ([] ++ va_pl L f_6) H → va_D A ([] ++ va_pl L f_6) → va_S A s.heap H locs → ∀ ls : Array Slot, lv_has ls 5 [(0, .ref h0), (1, .ref e1), (2, .int y2), (3, .int (nI j)), (4, .int (nI i))] → W p l e (headSpec wsX1_spread ({ frames := 3, cells := 0, slots := 0, locals := 68 })).room s m ([.ref h0, .ref e1]).toArray below meth c H locs 0 0 (MQ below (va_Qv (fun (_ : Unit) => True) (fun (_ : Unit) t9 => ∃ (f2 : Nat → va_E), (tO L ka cs f2) ∧ cQ dC dI ([] ++ va_pl L f2) [] A t9) A) ([.ref h0, .ref e1]).toArray s 0 0 A) (F0 m 61 ls []) := by
                  intro n_i
                  induction n_i with
                  | zero => intro i y2 h1 h2; exact absurd h2 (by omega)
                  | succ n_i ih_i =>
                    intro i y2 hk_i hn_i f_6 H locs hT hP hD hS ls hl
                    refine lv_iload hx hb dX1_spread_61 (lv_at hl 4 rfl) ?_
                    refine lv_bipush (v := 12) hx hb dX1_spread_63 (by decide) ?_
                    refine lv_icmp_ge (tgt := 98) hx hb dX1_spread_65 (by decide) (fun c_7 => ?_) (fun c_7 => ?_)
                    · have hke_i : i = 12 := by
                        rcases Nat.lt_or_ge i 12 with q | q
                        · exact absurd c_7 (nI_ge q (by decide))
                        · omega
                      refine lv_iinc (v := nI (j + 1)) (lv' := [(3, .int (nI (j + 1))), (0, .ref h0), (1, .ref e1), (2, .int y2), (4, .int (nI i))]) hx hb dX1_spread_98 hl (k := 3) rfl (by exact (nI_1 j)) (by decide) rfl (fun ls hl => ?_)
                      refine lv_goto (tgt := 46) hx hb dX1_spread_101 (by decide) ?_
                      exact ih_j (j + 1) y2 (by omega) (by omega) _ _ _ hT (hP.part (cx := _) [] rfl) (hD.part (cx := _) [] (by decide) rfl) hS ls (lv_sub hl [1, 2, 3, 0] rfl)
                    · have hlt_i : i < 12 := by
                        rcases Nat.lt_or_ge i 12 with q | q
                        · exact q
                        · exact absurd (show nI 12 ≤ nI i from nI_le q (by omega)) c_7
                      refine lv_aload_n hx hb dX1_spread_68 rfl (lv_at hl 0 rfl) ?_
                      obtain ⟨o_9, o_10, o_11, o_12, hf_8, hk_o_9, hk_o_10, hk_o_11, hk_o_12⟩ := hT.get hk_h0
                      obtain ⟨q_13, hq_13⟩ := pl_at (X := []) (f := f_6) (e := .inr (1, [.ref o_9, .ref o_10, .ref o_11, .ref o_12])) hk_h0.1 hf_8
                      refine va_get (D := (dC, dI)) (ci := 1) (v := .ref o_11) (C := RX1) (T := TX1) (N := 4) hx hb hts hin1 hown hK hP q_13 hq_13 rfl 2 (by decide) (hts (.fieldLink RX1 20 "YamRiders$Leader" "pains" "[I") (by decide +kernel)) (fun _ h9 => h9) rfl dX1_spread_69 ?_
                      refine lv_iload hx hb dX1_spread_72 (lv_at hl 4 rfl) ?_
                      obtain ⟨g_15, hf_14⟩ := hT.get hk_o_11
                      obtain ⟨q_16, hq_16⟩ := pl_at (X := []) (f := f_6) (e := .inl (cs 0, 12, .inl g_15)) hk_o_11.1 hf_14
                      refine va_iald hx hb hK hP q_16 0 hq_16 rfl (vp_in_nI hlt_i (by decide)) dX1_spread_74 ?_
                      refine lv_topi (fun v_17 ev_17 => ?_)
                      refine lv_ldc (v := 1000000) hx hb hown (hts (.constant RX1 56 (1000000)) (by decide +kernel)) dX1_spread_75 ?_
                      refine lv_icmp_ge (tgt := 92) hx hb dX1_spread_77 (by decide) (fun c_18 => ?_) (fun c_18 => ?_)
                      · refine lv_iinc (v := nI (i + 1)) (lv' := [(4, .int (nI (i + 1))), (0, .ref h0), (1, .ref e1), (2, .int y2), (3, .int (nI j))]) hx hb dX1_spread_92 hl (k := 4) rfl (by exact (nI_1 i)) (by decide) rfl (fun ls hl => ?_)
                        refine lv_goto (tgt := 61) hx hb dX1_spread_95 (by decide) ?_
                        exact ih_i (i + 1) y2 (by omega) (by omega) _ _ _ hT (hP.part (cx := _) [] rfl) (hD.part (cx := _) [] (by decide) rfl) hS ls (lv_sub hl [1, 2, 3, 4, 0] rfl)
                      · refine lv_aload_n hx hb dX1_spread_80 rfl (lv_at hl 0 rfl) ?_
                        refine lv_iload hx hb dX1_spread_81 (lv_at hl 4 rfl) ?_
                        refine lv_aload_n hx hb dX1_spread_83 rfl (lv_at hl 1 rfl) ?_
                        have hPc := hP.part (cx := []) [] rfl
                        have hDc := hD.part (cx := []) [] (by decide) rfl
                        have hKc := hK
                        have hFc := va_freeP (cx := []) hD hS hA [] rfl
                        obtain ⟨q_19, hq_19⟩ := pl_at (X := []) (f := f_6) (e := .inr (1, [.ref o_9, .ref o_10, .ref o_11, .ref o_12])) hk_h0.1 hf_8
                        refine va_calli (va_runV (As := [.int (nI i), .ref e1]) (rest := []) ⟨hx, hb, hml, hown, hts⟩ (t_X1_spreadFrom l dC dI cs L ka f_6 h0 (nI i) e1 H.size hT hk_h0 hk_e1) (cwV 2 hts gX1_spread_X1_spreadFrom rfl rfl rfl (by decide +kernel) ⟨Nat.le_of_ble_eq_true rfl, Nat.le_of_ble_eq_true rfl⟩) ⟨c_blind, va_recv hKc hPc (ci := 1) (q0 := q_19) rfl hq_19, c_pre hPc hKc hDc hN⟩ rfl rfl hl.1 rfl (lv_room (Nat.le_of_ble_eq_true rfl)) dX1_spread_84 ⟨Nat.le_of_ble_eq_true rfl, Nat.le_of_ble_eq_true rfl⟩) hS (fun q _ h => hFc q h) hFc (fun r_20 u9 t9 H1 locs ht hvm hw hB hz1 hk1 hS => ?_)
                        obtain ⟨f_21, hf_x_22, hP1, hK1, hD1⟩ := hB
                        rw [ht] at hP1
                        have hK1 := va_K.moved hvm.symm hK1
                        obtain ⟨hP, hD⟩ := va_joinP (X := []) (cx := []) (wr := []) (rx := []) (pl := va_pl L f_6) (pl1 := va_pl L f_21) hP hD [] [] rfl rfl (by decide) (by decide) hk1 hFc hP1 hD1
                        have hT := hf_x_22
                        generalize H1 = H at hP hS ⊢
                        have hP : va_P (dC, dI) vwCl ([] ++ va_pl L f_21) H := hP
                        have hD : va_D A ([] ++ va_pl L f_21) := hD
                        refine W.widen (k := 0) (n := 0) (Nat.le_of_ble_eq_true rfl) (Nat.le_of_ble_eq_true rfl) ?_
                        have hw_23 := hw
                        refine lv_if_eq (tgt := 92) hx hb dX1_spread_87 (by decide) (fun c_24 => ?_) (fun c_24 => ?_)
                        · refine lv_iinc (v := nI (i + 1)) (lv' := [(4, .int (nI (i + 1))), (0, .ref h0), (1, .ref e1), (2, .int y2), (3, .int (nI j))]) hx hb dX1_spread_92 hl (k := 4) rfl (by exact (nI_1 i)) (by decide) rfl (fun ls hl => ?_)
                          refine lv_goto (tgt := 61) hx hb dX1_spread_95 (by decide) ?_
                          exact ih_i (i + 1) y2 (by omega) (by omega) _ _ _ hT (hP.part (cx := _) [] rfl) (hD.part (cx := _) [] (by decide) rfl) hS ls (lv_sub hl [1, 2, 3, 4, 0] rfl)
                        · refine lv_iconst (v := 1) hx hb dX1_spread_90 (by decide) ?_
                          refine lv_istore_n (lv' := [(2, .int 1), (0, .ref h0), (1, .ref e1), (3, .int (nI j)), (4, .int (nI i))]) hx hb dX1_spread_91 rfl hl (by decide) rfl (fun ls hl => ?_)
                          refine lv_iinc (v := nI (i + 1)) (lv' := [(4, .int (nI (i + 1))), (2, .int 1), (0, .ref h0), (1, .ref e1), (3, .int (nI j))]) hx hb dX1_spread_92 hl (k := 4) rfl (by exact (nI_1 i)) (by decide) rfl (fun ls hl => ?_)
                          refine lv_goto (tgt := 61) hx hb dX1_spread_95 (by decide) ?_
                          exact ih_i (i + 1) 1 (by omega) (by omega) _ _ _ hT (hP.part (cx := _) [] rfl) (hD.part (cx := _) [] (by decide) rfl) hS ls (lv_sub hl [2, 3, 1, 4, 0] rfl)
                exact HL_i 13 0 0 (by omega) (by omega) _ _ _ hT (hP.part (cx := _) [] rfl) (hD.part (cx := _) [] (by decide) rfl) hS ls (lv_sub hl [2, 3, 1, 4, 0] rfl)
        exact HL_j 13 0 1 (by omega) (by omega) _ _ _ hT (hP.part (cx := _) [] rfl) (hD.part (cx := _) [] (by decide) rfl) hS ls (lv_sub hl [2, 3, 1, 0] rfl)
      · have hlt : k < 12 := by
          rcases Nat.lt_or_ge k 12 with q | q
          · exact q
          · exact absurd (show nI 12 ≤ nI k from nI_le q (by omega)) c_2
        refine lv_aload_n hx hb dX1_spread_8 rfl (lv_at hl 0 rfl) ?_
        obtain ⟨o_26, o_27, o_28, o_29, hf_25, hk_o_26, hk_o_27, hk_o_28, hk_o_29⟩ := hT.get hk_h0
        obtain ⟨q_30, hq_30⟩ := pl_at (X := []) (f := f_1) (e := .inr (1, [.ref o_26, .ref o_27, .ref o_28, .ref o_29])) hk_h0.1 hf_25
        refine va_get (D := (dC, dI)) (ci := 1) (v := .ref o_28) (C := RX1) (T := TX1) (N := 4) hx hb hts hin1 hown hK hP q_30 hq_30 rfl 2 (by decide) (hts (.fieldLink RX1 20 "YamRiders$Leader" "pains" "[I") (by decide +kernel)) (fun _ h9 => h9) rfl dX1_spread_9 ?_
        refine lv_iload_n hx hb dX1_spread_12 rfl (lv_at hl 2 rfl) ?_
        refine lv_aload_n hx hb dX1_spread_13 rfl (lv_at hl 0 rfl) ?_
        obtain ⟨q_31, hq_31⟩ := pl_at (X := []) (f := f_1) (e := .inr (1, [.ref o_26, .ref o_27, .ref o_28, .ref o_29])) hk_h0.1 hf_25
        refine va_get (D := (dC, dI)) (ci := 1) (v := .ref o_26) (C := RX1) (T := TX1) (N := 4) hx hb hts hin1 hown hK hP q_31 hq_31 rfl 0 (by decide) (hts (.fieldLink RX1 9 "YamRiders$Leader" "spare" "[I") (by decide +kernel)) (fun _ h9 => h9) rfl dX1_spread_14 ?_
        refine lv_iload_n hx hb dX1_spread_17 rfl (lv_at hl 2 rfl) ?_
        obtain ⟨g_33, hf_32⟩ := hT.get hk_o_26
        obtain ⟨q_34, hq_34⟩ := pl_at (X := []) (f := f_1) (e := .inl (cs 0, 12, .inl g_33)) hk_o_26.1 hf_32
        refine va_iald hx hb hK hP q_34 0 hq_34 rfl (vp_in_nI hlt (by decide)) dX1_spread_18 ?_
        refine lv_topi (fun v_35 ev_35 => ?_)
        refine lv_if_le (tgt := 26) hx hb dX1_spread_19 (by decide) (fun c_36 => ?_) (fun c_36 => ?_)
        · refine lv_ldc (v := 1000000) hx hb hown (hts (.constant RX1 56 (1000000)) (by decide +kernel)) dX1_spread_26 ?_
          obtain ⟨g_38, hf_37⟩ := hT.get hk_o_28
          obtain ⟨q_39, hq_39⟩ := pl_at (X := []) (f := f_1) (e := .inl (cs 0, 12, .inl g_38)) hk_o_28.1 hf_37
          refine va_iast hx hb hK hP hD hS q_39 0 hq_39 rfl (vp_in_nI hlt (by decide)) dX1_spread_28 (fun H locs hP9 hD9 hS => ?_)
          have hs_40 := pl_st (.inl (cs 0, 12, .inl (upd g_38 (nI k).toNatClampNeg 1000000))) hD hk_o_28.1 hf_37 hq_39
          have hP9 : va_P (dC, dI) vwCl ((([] : va_W) ++ va_pl L f_1).set q_39 (o_28, .inl (cs 0, 12, .inl (upd g_38 (nI k).toNatClampNeg 1000000)))) H := hP9
          have hD9 : va_D A ((([] : va_W) ++ va_pl L f_1).set q_39 (o_28, .inl (cs 0, 12, .inl (upd g_38 (nI k).toNatClampNeg 1000000)))) := hD9
          rw [hs_40] at hP9 hD9
          have hT := hT.put (e := .inl (cs 0, 12, .inl (upd g_38 (nI k).toNatClampNeg 1000000))) hk_o_28 ⟨_, rfl⟩
          have hf_41 : va_up f_1 o_28 (.inl (cs 0, 12, .inl (upd g_38 (nI k).toNatClampNeg 1000000))) o_28 = .inl (cs 0, 12, .inl (upd g_38 (nI k).toNatClampNeg 1000000)) := va_up_self _ _ _
          have hP := hP9
          have hD := hD9
          clear hP9 hD9 hs_40
          generalize va_up f_1 o_28 (.inl (cs 0, 12, .inl (upd g_38 (nI k).toNatClampNeg 1000000))) = f_42 at hP hD hT hf_41
          generalize upd g_38 (nI k).toNatClampNeg 1000000 = g_43 at hf_41
          refine lv_aload_n hx hb dX1_spread_29 rfl (lv_at hl 0 rfl) ?_
          obtain ⟨o_45, o_46, o_47, o_48, hf_44, hk_o_45, hk_o_46, hk_o_47, hk_o_48⟩ := hT.get hk_h0
          obtain ⟨q_49, hq_49⟩ := pl_at (X := []) (f := f_42) (e := .inr (1, [.ref o_45, .ref o_46, .ref o_47, .ref o_48])) hk_h0.1 hf_44
          refine va_get (D := (dC, dI)) (ci := 1) (v := .ref o_48) (C := RX1) (T := TX1) (N := 4) hx hb hts hin1 hown hK hP q_49 hq_49 rfl 3 (by decide) (hts (.fieldLink RX1 23 "YamRiders$Leader" "from" "[I") (by decide +kernel)) (fun _ h9 => h9) rfl dX1_spread_30 ?_
          refine lv_iload_n hx hb dX1_spread_33 rfl (lv_at hl 2 rfl) ?_
          refine lv_iconst (v := (-1)) hx hb dX1_spread_34 (by decide) ?_
          obtain ⟨g_51, hf_50⟩ := hT.get hk_o_48
          obtain ⟨q_52, hq_52⟩ := pl_at (X := []) (f := f_42) (e := .inl (cs 0, 12, .inl g_51)) hk_o_48.1 hf_50
          refine va_iast hx hb hK hP hD hS q_52 0 hq_52 rfl (vp_in_nI hlt (by decide)) dX1_spread_35 (fun H locs hP9 hD9 hS => ?_)
          have hs_53 := pl_st (.inl (cs 0, 12, .inl (upd g_51 (nI k).toNatClampNeg (-1)))) hD hk_o_48.1 hf_50 hq_52
          have hP9 : va_P (dC, dI) vwCl ((([] : va_W) ++ va_pl L f_42).set q_52 (o_48, .inl (cs 0, 12, .inl (upd g_51 (nI k).toNatClampNeg (-1))))) H := hP9
          have hD9 : va_D A ((([] : va_W) ++ va_pl L f_42).set q_52 (o_48, .inl (cs 0, 12, .inl (upd g_51 (nI k).toNatClampNeg (-1))))) := hD9
          rw [hs_53] at hP9 hD9
          have hT := hT.put (e := .inl (cs 0, 12, .inl (upd g_51 (nI k).toNatClampNeg (-1)))) hk_o_48 ⟨_, rfl⟩
          have hf_54 : va_up f_42 o_48 (.inl (cs 0, 12, .inl (upd g_51 (nI k).toNatClampNeg (-1)))) o_48 = .inl (cs 0, 12, .inl (upd g_51 (nI k).toNatClampNeg (-1))) := va_up_self _ _ _
          have hP := hP9
          have hD := hD9
          clear hP9 hD9 hs_53
          generalize va_up f_42 o_48 (.inl (cs 0, 12, .inl (upd g_51 (nI k).toNatClampNeg (-1)))) = f_55 at hP hD hT hf_54
          generalize upd g_51 (nI k).toNatClampNeg (-1) = g_56 at hf_54
          refine lv_iinc (v := nI (k + 1)) (lv' := [(2, .int (nI (k + 1))), (0, .ref h0), (1, .ref e1)]) hx hb dX1_spread_36 hl (k := 2) rfl (by exact (nI_1 k)) (by decide) rfl (fun ls hl => ?_)
          refine lv_goto (tgt := 2) hx hb dX1_spread_39 (by decide) ?_
          exact ih (k + 1) (by omega) (by omega) _ _ _ hT (hP.part (cx := _) [] rfl) (hD.part (cx := _) [] (by decide) rfl) hS ls (lv_sub hl [1, 2, 0] rfl)
        · refine lv_iconst (v := 0) hx hb dX1_spread_22 (by decide) ?_
          refine lv_goto (tgt := 28) hx hb dX1_spread_23 (by decide) ?_
          obtain ⟨g_58, hf_57⟩ := hT.get hk_o_28
          obtain ⟨q_59, hq_59⟩ := pl_at (X := []) (f := f_1) (e := .inl (cs 0, 12, .inl g_58)) hk_o_28.1 hf_57
          refine va_iast hx hb hK hP hD hS q_59 0 hq_59 rfl (vp_in_nI hlt (by decide)) dX1_spread_28 (fun H locs hP9 hD9 hS => ?_)
          have hs_60 := pl_st (.inl (cs 0, 12, .inl (upd g_58 (nI k).toNatClampNeg 0))) hD hk_o_28.1 hf_57 hq_59
          have hP9 : va_P (dC, dI) vwCl ((([] : va_W) ++ va_pl L f_1).set q_59 (o_28, .inl (cs 0, 12, .inl (upd g_58 (nI k).toNatClampNeg 0)))) H := hP9
          have hD9 : va_D A ((([] : va_W) ++ va_pl L f_1).set q_59 (o_28, .inl (cs 0, 12, .inl (upd g_58 (nI k).toNatClampNeg 0)))) := hD9
          rw [hs_60] at hP9 hD9
          have hT := hT.put (e := .inl (cs 0, 12, .inl (upd g_58 (nI k).toNatClampNeg 0))) hk_o_28 ⟨_, rfl⟩
          have hf_61 : va_up f_1 o_28 (.inl (cs 0, 12, .inl (upd g_58 (nI k).toNatClampNeg 0))) o_28 = .inl (cs 0, 12, .inl (upd g_58 (nI k).toNatClampNeg 0)) := va_up_self _ _ _
          have hP := hP9
          have hD := hD9
          clear hP9 hD9 hs_60
          generalize va_up f_1 o_28 (.inl (cs 0, 12, .inl (upd g_58 (nI k).toNatClampNeg 0))) = f_62 at hP hD hT hf_61
          generalize upd g_58 (nI k).toNatClampNeg 0 = g_63 at hf_61
          refine lv_aload_n hx hb dX1_spread_29 rfl (lv_at hl 0 rfl) ?_
          obtain ⟨o_65, o_66, o_67, o_68, hf_64, hk_o_65, hk_o_66, hk_o_67, hk_o_68⟩ := hT.get hk_h0
          obtain ⟨q_69, hq_69⟩ := pl_at (X := []) (f := f_62) (e := .inr (1, [.ref o_65, .ref o_66, .ref o_67, .ref o_68])) hk_h0.1 hf_64
          refine va_get (D := (dC, dI)) (ci := 1) (v := .ref o_68) (C := RX1) (T := TX1) (N := 4) hx hb hts hin1 hown hK hP q_69 hq_69 rfl 3 (by decide) (hts (.fieldLink RX1 23 "YamRiders$Leader" "from" "[I") (by decide +kernel)) (fun _ h9 => h9) rfl dX1_spread_30 ?_
          refine lv_iload_n hx hb dX1_spread_33 rfl (lv_at hl 2 rfl) ?_
          refine lv_iconst (v := (-1)) hx hb dX1_spread_34 (by decide) ?_
          obtain ⟨g_71, hf_70⟩ := hT.get hk_o_68
          obtain ⟨q_72, hq_72⟩ := pl_at (X := []) (f := f_62) (e := .inl (cs 0, 12, .inl g_71)) hk_o_68.1 hf_70
          refine va_iast hx hb hK hP hD hS q_72 0 hq_72 rfl (vp_in_nI hlt (by decide)) dX1_spread_35 (fun H locs hP9 hD9 hS => ?_)
          have hs_73 := pl_st (.inl (cs 0, 12, .inl (upd g_71 (nI k).toNatClampNeg (-1)))) hD hk_o_68.1 hf_70 hq_72
          have hP9 : va_P (dC, dI) vwCl ((([] : va_W) ++ va_pl L f_62).set q_72 (o_68, .inl (cs 0, 12, .inl (upd g_71 (nI k).toNatClampNeg (-1))))) H := hP9
          have hD9 : va_D A ((([] : va_W) ++ va_pl L f_62).set q_72 (o_68, .inl (cs 0, 12, .inl (upd g_71 (nI k).toNatClampNeg (-1))))) := hD9
          rw [hs_73] at hP9 hD9
          have hT := hT.put (e := .inl (cs 0, 12, .inl (upd g_71 (nI k).toNatClampNeg (-1)))) hk_o_68 ⟨_, rfl⟩
          have hf_74 : va_up f_62 o_68 (.inl (cs 0, 12, .inl (upd g_71 (nI k).toNatClampNeg (-1)))) o_68 = .inl (cs 0, 12, .inl (upd g_71 (nI k).toNatClampNeg (-1))) := va_up_self _ _ _
          have hP := hP9
          have hD := hD9
          clear hP9 hD9 hs_73
          generalize va_up f_62 o_68 (.inl (cs 0, 12, .inl (upd g_71 (nI k).toNatClampNeg (-1)))) = f_75 at hP hD hT hf_74
          generalize upd g_71 (nI k).toNatClampNeg (-1) = g_76 at hf_74
          refine lv_iinc (v := nI (k + 1)) (lv' := [(2, .int (nI (k + 1))), (0, .ref h0), (1, .ref e1)]) hx hb dX1_spread_36 hl (k := 2) rfl (by exact (nI_1 k)) (by decide) rfl (fun ls hl => ?_)
          refine lv_goto (tgt := 2) hx hb dX1_spread_39 (by decide) ?_
          exact ih (k + 1) (by omega) (by omega) _ _ _ hT (hP.part (cx := _) [] rfl) (hD.part (cx := _) [] (by decide) rfl) hS ls (lv_sub hl [1, 2, 0] rfl)
  exact HL 13 0 (by omega) (by omega) _ _ _ hT (hP.part (cx := []) [] rfl) (hD.part (cx := []) [] (by decide) rfl) hS ls (lv_sub hl [1, 2, 0] rfl)

set_option maxHeartbeats 4000000 in
set_option maxRecDepth 100000 in
theorem t_X1_horsesAlong (l : Launch) (dC : Nat → ClassId) (dI : Nat → Nat → Nat) (cs : Nat → ClassId) (L : List Nat) (ka : Nat → Nat) (f : Nat → va_E) (h0 : Nat) (p0 : Int32) (sz : Nat) (hT : tO L ka cs f) (hk_h0 : tp L ka 1 h0) : Met l yX1_horsesAlong wsX1_horsesAlong ({ frames := 1, cells := 0, slots := 0, locals := 24 }) (va_Pc [.ref h0, .int p0] (cP dC dI ([] ++ va_pl L f) (tyC cs) sz)) (vp_Si (fun _ => True)) 0 0 (fun _ => False) := by
  refine Met.ofW (cc := cX1_horsesAlong) (maxL := 6) (ret := (some .int)) (by decide) rfl ?_
  intro p e s m args below meth c s₁ B hml hv
  obtain ⟨rfl, hsz, hP, hK, hD0, hN⟩ := hv
  have hx := B.exec
  have hb := B.bytes
  have hr := B.returns
  have hts := atoms_spec (ws := wsX1_horsesAlong) B.pre
  have hown : s.vm.findClass RX1 = some m.cls := findClass_of_methodNamed B.named
  have hlocks := B.notSynchronized
  subst hsz
  have hin1 : ∀ w ∈ u_ws RX1 TX1 4, w ∈ wsX1_horsesAlong := by decide +kernel
  have hD := hD0
  have hP : va_P (dC, dI) vwCl ([] ++ va_pl L f) s.heap := hP
  have hl := lv_entry ([.ref h0, .int p0]) (n := 6) (Nat.le_of_ble_eq_true rfl)
  rw [lg_entry_eq]
  generalize (lg_sl ([.ref h0, .int p0]) ++ List.replicate (6 - (lg_sl ([.ref h0, .int p0])).length) Slot.unset).toArray = ls at hl ⊢
  have hl : lv_has ls 6 [(0, .ref h0), (1, .int p0)] := hl
  refine lv_iload_n hx hb dX1_horsesAlong_0 rfl (lv_at hl 1 rfl) ?_
  have hPc := hP.sub (ws' := []) [] rfl
  have hDc := hD.sub (ws' := []) [] (by decide) rfl
  have hKc := hK.sub (tys' := []) [] rfl
  refine cs_i (va_runSN (As := [.int p0]) (rest := []) ⟨hx, hb, hml, hown, hts⟩ (c_X8_isStation l dC dI p0 s.heap.size) ⟨va_cnB 1 hts ggX1_horsesAlong_X8_isStation rfl rfl rfl (hN.1 (.methodLinkNest RX1 26 yX8_isStation "YamRiders") (by decide +kernel)) (hts (.initialized RX8) (by decide +kernel)) (by decide +kernel) ⟨Nat.le_of_ble_eq_true rfl, Nat.le_of_ble_eq_true rfl⟩, hts (.static yX8_isStation) (by decide +kernel), trivial⟩ ⟨c_blind, c_pre hPc hKc hDc hN⟩ rfl rfl hl.1 rfl (lv_room (Nat.le_of_ble_eq_true rfl)) dX1_horsesAlong_1 ⟨Nat.le_of_ble_eq_true rfl, Nat.le_of_ble_eq_true rfl⟩) (fun r_1 hr_1 => ?_)
  subst hr_1
  refine lv_if_ne (tgt := 9) hx hb dX1_horsesAlong_4 (by decide) (fun c_2 => ?_) (fun c_2 => ?_)
  · refine lv_aload_n hx hb dX1_horsesAlong_9 rfl (lv_at hl 0 rfl) ?_
    obtain ⟨o_4, o_5, o_6, o_7, hf_3, hk_o_4, hk_o_5, hk_o_6, hk_o_7⟩ := hT.get hk_h0
    obtain ⟨q_8, hq_8⟩ := pl_at (X := []) (f := f) (e := .inr (1, [.ref o_4, .ref o_5, .ref o_6, .ref o_7])) hk_h0.1 hf_3
    refine va_get (D := (dC, dI)) (ci := 1) (v := .ref o_4) (C := RX1) (T := TX1) (N := 4) hx hb hts hin1 hown hK hP q_8 hq_8 rfl 0 (by decide) (hts (.fieldLink RX1 9 "YamRiders$Leader" "spare" "[I") (by decide +kernel)) (fun _ h9 => h9) rfl dX1_horsesAlong_10 ?_
    refine lv_iload_n hx hb dX1_horsesAlong_13 rfl (lv_at hl 1 rfl) ?_
    obtain ⟨g_10, hf_9⟩ := hT.get hk_o_4
    obtain ⟨q_11, hq_11⟩ := pl_at (X := []) (f := f) (e := .inl (cs 0, 12, .inl g_10)) hk_o_4.1 hf_9
    refine va_iald hx hb hK hP q_11 0 hq_11 rfl (st_in c_2) dX1_horsesAlong_14 ?_
    refine lv_topi (fun v_12 ev_12 => ?_)
    refine lv_ineg hx hb dX1_horsesAlong_15 ?_
    refine lv_topi (fun v_13 ev_13 => ?_)
    refine lv_istore_n (lv' := [(2, .int v_13), (0, .ref h0), (1, .int p0)]) hx hb dX1_horsesAlong_16 rfl hl (by decide) rfl (fun ls hl => ?_)
    refine lv_iload_n hx hb dX1_horsesAlong_17 rfl (lv_at hl 2 rfl) ?_
    refine lv_istore_n (lv' := [(3, .int p0), (2, .int v_13), (0, .ref h0), (1, .int p0)]) hx hb dX1_horsesAlong_18 rfl hl (by decide) rfl (fun ls hl => ?_)
    refine lv_iconst (v := 0) hx hb dX1_horsesAlong_19 (by decide) ?_
    refine lv_istore (lv' := [(4, .int 0), (3, .int p0), (2, .int v_13), (0, .ref h0), (1, .int p0)]) hx hb dX1_horsesAlong_20 hl (by decide) rfl (fun ls hl => ?_)
    have HL : ∀ (n k : Nat) (x2 : Int32) (x3 : Int32), k ≤ 12 → 12 + 1 ≤ k + n → (¬ sp_st x3 = 0) → ∀ ls : Array Slot, lv_has ls 6 [(0, .ref h0), (1, .int p0), (2, .int x2), (3, .int x3), (4, .int (nI k))] → W p l e (headSpec wsX1_horsesAlong ({ frames := 1, cells := 0, slots := 0, locals := 24 })).room s m ([.ref h0, .int p0]).toArray below meth c s.heap [] 0 0 (MQ below (vp_Si (fun _ => True)) ([.ref h0, .int p0]).toArray s 0 0 (fun _ => False)) (F0 m 22 ls []) := by
      intro n
      induction n with
      | zero => intro k x2 x3 h1 h2; exact absurd h2 (by omega)
      | succ n ih =>
        intro k x2 x3 hk hn hst ls hl
        refine lv_iload hx hb dX1_horsesAlong_22 (lv_at hl 4 rfl) ?_
        refine lv_bipush (v := 12) hx hb dX1_horsesAlong_24 (by decide) ?_
        refine lv_icmp_ge (tgt := 84) hx hb dX1_horsesAlong_26 (by decide) (fun c_14 => ?_) (fun c_14 => ?_)
        · have hke : k = 12 := by
            rcases Nat.lt_or_ge k 12 with q | q
            · exact absurd c_14 (nI_ge q (by decide))
            · omega
          refine lv_iload_n hx hb dX1_horsesAlong_84 rfl (lv_at hl 2 rfl) ?_
          refine lv_aload_n hx hb dX1_horsesAlong_85 rfl (lv_at hl 0 rfl) ?_
          obtain ⟨q_15, hq_15⟩ := pl_at (X := []) (f := f) (e := .inr (1, [.ref o_4, .ref o_5, .ref o_6, .ref o_7])) hk_h0.1 hf_3
          refine va_get (D := (dC, dI)) (ci := 1) (v := .ref o_4) (C := RX1) (T := TX1) (N := 4) hx hb hts hin1 hown hK hP q_15 hq_15 rfl 0 (by decide) (hts (.fieldLink RX1 9 "YamRiders$Leader" "spare" "[I") (by decide +kernel)) (fun _ h9 => h9) rfl dX1_horsesAlong_86 ?_
          refine lv_iload_n hx hb dX1_horsesAlong_89 rfl (lv_at hl 3 rfl) ?_
          obtain ⟨q_16, hq_16⟩ := pl_at (X := []) (f := f) (e := .inl (cs 0, 12, .inl g_10)) hk_o_4.1 hf_9
          refine va_iald hx hb hK hP q_16 0 hq_16 rfl (st_in hst) dX1_horsesAlong_90 ?_
          refine lv_topi (fun v_17 ev_17 => ?_)
          refine va_mmin (x := x2) (y := v_17) hx hb (by rw [hml]; exact hl.1.symm) hown (hts (.methodLink RX1 71 Lib.Math.min.name) (by decide +kernel)) (hts (.static Lib.Math.min.name) (by decide +kernel)) (hts (.initialized "java/lang/Math") (by decide +kernel)) (hts (.code Lib.Math.min.name Lib.Math.min.code 2 (some .int)) (by decide +kernel)) (Nat.le_of_ble_eq_true rfl) (Nat.le_of_ble_eq_true rfl) (Nat.le_of_ble_eq_true rfl) (Nat.le_of_ble_eq_true rfl) dX1_horsesAlong_91 ?_
          refine lv_topi (fun v_18 ev_18 => ?_)
          exact W.iret (v := v_18) hx hb hr (fun t9 ht hW => ⟨_, rfl, trivial, ht⟩) (fun q h => nomatch h) dX1_horsesAlong_94
        · have hlt : k < 12 := by
            rcases Nat.lt_or_ge k 12 with q | q
            · exact q
            · exact absurd (show nI 12 ≤ nI k from nI_le q (by omega)) c_14
          refine lv_aload_n hx hb dX1_horsesAlong_29 rfl (lv_at hl 0 rfl) ?_
          obtain ⟨q_19, hq_19⟩ := pl_at (X := []) (f := f) (e := .inr (1, [.ref o_4, .ref o_5, .ref o_6, .ref o_7])) hk_h0.1 hf_3
          refine va_get (D := (dC, dI)) (ci := 1) (v := .ref o_7) (C := RX1) (T := TX1) (N := 4) hx hb hts hin1 hown hK hP q_19 hq_19 rfl 3 (by decide) (hts (.fieldLink RX1 23 "YamRiders$Leader" "from" "[I") (by decide +kernel)) (fun _ h9 => h9) rfl dX1_horsesAlong_30 ?_
          refine lv_iload_n hx hb dX1_horsesAlong_33 rfl (lv_at hl 3 rfl) ?_
          obtain ⟨g_21, hf_20⟩ := hT.get hk_o_7
          obtain ⟨q_22, hq_22⟩ := pl_at (X := []) (f := f) (e := .inl (cs 0, 12, .inl g_21)) hk_o_7.1 hf_20
          refine va_iald hx hb hK hP q_22 0 hq_22 rfl (st_in hst) dX1_horsesAlong_34 ?_
          refine lv_topi (fun v_23 ev_23 => ?_)
          have hPc := hP.sub (ws' := []) [] rfl
          have hDc := hD.sub (ws' := []) [] (by decide) rfl
          have hKc := hK.sub (tys' := []) [] rfl
          refine cs_i (va_runSN (As := [.int v_23]) (rest := []) ⟨hx, hb, hml, hown, hts⟩ (c_X8_isStation l dC dI v_23 s.heap.size) ⟨va_cnB 1 hts ggX1_horsesAlong_X8_isStation rfl rfl rfl (hN.1 (.methodLinkNest RX1 26 yX8_isStation "YamRiders") (by decide +kernel)) (hts (.initialized RX8) (by decide +kernel)) (by decide +kernel) ⟨Nat.le_of_ble_eq_true rfl, Nat.le_of_ble_eq_true rfl⟩, hts (.static yX8_isStation) (by decide +kernel), trivial⟩ ⟨c_blind, c_pre hPc hKc hDc hN⟩ rfl rfl hl.1 rfl (lv_room (Nat.le_of_ble_eq_true rfl)) dX1_horsesAlong_35 ⟨Nat.le_of_ble_eq_true rfl, Nat.le_of_ble_eq_true rfl⟩) (fun r_24 hr_24 => ?_)
          subst hr_24
          refine lv_if_eq (tgt := 84) hx hb dX1_horsesAlong_38 (by decide) (fun c_25 => ?_) (fun c_25 => ?_)
          · refine lv_iload_n hx hb dX1_horsesAlong_84 rfl (lv_at hl 2 rfl) ?_
            refine lv_aload_n hx hb dX1_horsesAlong_85 rfl (lv_at hl 0 rfl) ?_
            obtain ⟨q_26, hq_26⟩ := pl_at (X := []) (f := f) (e := .inr (1, [.ref o_4, .ref o_5, .ref o_6, .ref o_7])) hk_h0.1 hf_3
            refine va_get (D := (dC, dI)) (ci := 1) (v := .ref o_4) (C := RX1) (T := TX1) (N := 4) hx hb hts hin1 hown hK hP q_26 hq_26 rfl 0 (by decide) (hts (.fieldLink RX1 9 "YamRiders$Leader" "spare" "[I") (by decide +kernel)) (fun _ h9 => h9) rfl dX1_horsesAlong_86 ?_
            refine lv_iload_n hx hb dX1_horsesAlong_89 rfl (lv_at hl 3 rfl) ?_
            obtain ⟨q_27, hq_27⟩ := pl_at (X := []) (f := f) (e := .inl (cs 0, 12, .inl g_10)) hk_o_4.1 hf_9
            refine va_iald hx hb hK hP q_27 0 hq_27 rfl (st_in hst) dX1_horsesAlong_90 ?_
            refine lv_topi (fun v_28 ev_28 => ?_)
            refine va_mmin (x := x2) (y := v_28) hx hb (by rw [hml]; exact hl.1.symm) hown (hts (.methodLink RX1 71 Lib.Math.min.name) (by decide +kernel)) (hts (.static Lib.Math.min.name) (by decide +kernel)) (hts (.initialized "java/lang/Math") (by decide +kernel)) (hts (.code Lib.Math.min.name Lib.Math.min.code 2 (some .int)) (by decide +kernel)) (Nat.le_of_ble_eq_true rfl) (Nat.le_of_ble_eq_true rfl) (Nat.le_of_ble_eq_true rfl) (Nat.le_of_ble_eq_true rfl) dX1_horsesAlong_91 ?_
            refine lv_topi (fun v_29 ev_29 => ?_)
            exact W.iret (v := v_29) hx hb hr (fun t9 ht hW => ⟨_, rfl, trivial, ht⟩) (fun q h => nomatch h) dX1_horsesAlong_94
          · refine lv_aload_n hx hb dX1_horsesAlong_41 rfl (lv_at hl 0 rfl) ?_
            obtain ⟨q_30, hq_30⟩ := pl_at (X := []) (f := f) (e := .inr (1, [.ref o_4, .ref o_5, .ref o_6, .ref o_7])) hk_h0.1 hf_3
            refine va_get (D := (dC, dI)) (ci := 1) (v := .ref o_7) (C := RX1) (T := TX1) (N := 4) hx hb hts hin1 hown hK hP q_30 hq_30 rfl 3 (by decide) (hts (.fieldLink RX1 23 "YamRiders$Leader" "from" "[I") (by decide +kernel)) (fun _ h9 => h9) rfl dX1_horsesAlong_42 ?_
            refine lv_iload_n hx hb dX1_horsesAlong_45 rfl (lv_at hl 3 rfl) ?_
            obtain ⟨q_31, hq_31⟩ := pl_at (X := []) (f := f) (e := .inl (cs 0, 12, .inl g_21)) hk_o_7.1 hf_20
            refine va_iald hx hb hK hP q_31 0 hq_31 rfl (st_in hst) dX1_horsesAlong_46 ?_
            refine lv_topi (fun v_32 ev_32 => ?_)
            obtain rfl : v_23 = v_32 := ev_23.trans ev_32.symm
            refine lv_istore (lv' := [(5, .int v_23), (0, .ref h0), (1, .int p0), (2, .int x2), (3, .int x3), (4, .int (nI k))]) hx hb dX1_horsesAlong_47 hl (by decide) rfl (fun ls hl => ?_)
            refine lv_aload_n hx hb dX1_horsesAlong_49 rfl (lv_at hl 1 rfl) ?_
            obtain ⟨q_33, hq_33⟩ := pl_at (X := []) (f := f) (e := .inr (1, [.ref o_4, .ref o_5, .ref o_6, .ref o_7])) hk_h0.1 hf_3
            refine va_get (D := (dC, dI)) (ci := 1) (v := .ref o_5) (C := RX1) (T := TX1) (N := 4) hx hb hts hin1 hown hK hP q_33 hq_33 rfl 1 (by decide) (hts (.fieldLink RX1 17 "YamRiders$Leader" "led" "[[I") (by decide +kernel)) (fun _ h9 => h9) rfl dX1_horsesAlong_50 ?_
            refine lv_iload_n hx hb dX1_horsesAlong_53 rfl (lv_at hl 4 rfl) ?_
            obtain ⟨g_35, hf_34, hr_36⟩ := hT.get hk_o_5
            obtain ⟨q_37, hq_37⟩ := pl_at (X := []) (f := f) (e := .inl (cs 2, 12, .inr (.inr (.inr (.inr g_35))))) hk_o_5.1 hf_34
            obtain ⟨o_38, hr_o_38, hk_o_38⟩ := hr_36 x3.toNatClampNeg (in_lt (st_in hst))
            refine va_aldg hx hb hK hP q_37 2 hq_37 rfl (st_in hst) hr_o_38 dX1_horsesAlong_54 ?_
            refine lv_iload hx hb dX1_horsesAlong_55 (lv_at hl 0 rfl) ?_
            obtain ⟨g_40, hf_39⟩ := hT.get hk_o_38
            obtain ⟨q_41, hq_41⟩ := pl_at (X := []) (f := f) (e := .inl (cs 0, 12, .inl g_40)) hk_o_38.1 hf_39
            refine va_iald hx hb hK hP q_41 0 hq_41 rfl (st_in c_25) dX1_horsesAlong_57 ?_
            refine lv_topi (fun v_42 ev_42 => ?_)
            refine lv_if_le (tgt := 75) hx hb dX1_horsesAlong_58 (by decide) (fun c_43 => ?_) (fun c_43 => ?_)
            · refine lv_iload hx hb dX1_horsesAlong_75 (lv_at hl 0 rfl) ?_
              refine lv_istore_n (lv' := [(3, .int v_23), (5, .int v_23), (0, .ref h0), (1, .int p0), (2, .int x2), (4, .int (nI k))]) hx hb dX1_horsesAlong_77 rfl hl (by decide) rfl (fun ls hl => ?_)
              refine lv_iinc (v := nI (k + 1)) (lv' := [(4, .int (nI (k + 1))), (3, .int v_23), (5, .int v_23), (0, .ref h0), (1, .int p0), (2, .int x2)]) hx hb dX1_horsesAlong_78 hl (k := 5) rfl (by exact (nI_1 k)) (by decide) rfl (fun ls hl => ?_)
              refine lv_goto (tgt := 22) hx hb dX1_horsesAlong_81 (by decide) ?_
              exact ih (k + 1) x2 v_23 (by omega) (by omega) c_25 ls (lv_sub hl [3, 4, 5, 1, 0] rfl)
            · refine lv_iload_n hx hb dX1_horsesAlong_61 rfl (lv_at hl 3 rfl) ?_
              refine lv_aload_n hx hb dX1_horsesAlong_62 rfl (lv_at hl 1 rfl) ?_
              obtain ⟨q_44, hq_44⟩ := pl_at (X := []) (f := f) (e := .inr (1, [.ref o_4, .ref o_5, .ref o_6, .ref o_7])) hk_h0.1 hf_3
              refine va_get (D := (dC, dI)) (ci := 1) (v := .ref o_5) (C := RX1) (T := TX1) (N := 4) hx hb hts hin1 hown hK hP q_44 hq_44 rfl 1 (by decide) (hts (.fieldLink RX1 17 "YamRiders$Leader" "led" "[[I") (by decide +kernel)) (fun _ h9 => h9) rfl dX1_horsesAlong_63 ?_
              refine lv_iload_n hx hb dX1_horsesAlong_66 rfl (lv_at hl 4 rfl) ?_
              obtain ⟨q_45, hq_45⟩ := pl_at (X := []) (f := f) (e := .inl (cs 2, 12, .inr (.inr (.inr (.inr g_35))))) hk_o_5.1 hf_34
              refine va_aldg hx hb hK hP q_45 2 hq_45 rfl (st_in hst) hr_o_38 dX1_horsesAlong_67 ?_
              refine lv_iload hx hb dX1_horsesAlong_68 (lv_at hl 0 rfl) ?_
              obtain ⟨q_46, hq_46⟩ := pl_at (X := []) (f := f) (e := .inl (cs 0, 12, .inl g_40)) hk_o_38.1 hf_39
              refine va_iald hx hb hK hP q_46 0 hq_46 rfl (st_in c_25) dX1_horsesAlong_70 ?_
              refine lv_topi (fun v_47 ev_47 => ?_)
              obtain rfl : v_42 = v_47 := ev_42.trans ev_47.symm
              refine va_mmin (x := x2) (y := v_42) hx hb (by rw [hml]; exact hl.1.symm) hown (hts (.methodLink RX1 71 Lib.Math.min.name) (by decide +kernel)) (hts (.static Lib.Math.min.name) (by decide +kernel)) (hts (.initialized "java/lang/Math") (by decide +kernel)) (hts (.code Lib.Math.min.name Lib.Math.min.code 2 (some .int)) (by decide +kernel)) (Nat.le_of_ble_eq_true rfl) (Nat.le_of_ble_eq_true rfl) (Nat.le_of_ble_eq_true rfl) (Nat.le_of_ble_eq_true rfl) dX1_horsesAlong_71 ?_
              refine lv_topi (fun v_48 ev_48 => ?_)
              refine lv_istore_n (lv' := [(2, .int v_48), (5, .int v_23), (0, .ref h0), (1, .int p0), (3, .int x3), (4, .int (nI k))]) hx hb dX1_horsesAlong_74 rfl hl (by decide) rfl (fun ls hl => ?_)
              refine lv_iload hx hb dX1_horsesAlong_75 (lv_at hl 1 rfl) ?_
              refine lv_istore_n (lv' := [(3, .int v_23), (2, .int v_48), (5, .int v_23), (0, .ref h0), (1, .int p0), (4, .int (nI k))]) hx hb dX1_horsesAlong_77 rfl hl (by decide) rfl (fun ls hl => ?_)
              refine lv_iinc (v := nI (k + 1)) (lv' := [(4, .int (nI (k + 1))), (3, .int v_23), (2, .int v_48), (5, .int v_23), (0, .ref h0), (1, .int p0)]) hx hb dX1_horsesAlong_78 hl (k := 5) rfl (by exact (nI_1 k)) (by decide) rfl (fun ls hl => ?_)
              refine lv_goto (tgt := 22) hx hb dX1_horsesAlong_81 (by decide) ?_
              exact ih (k + 1) v_48 v_23 (by omega) (by omega) c_25 ls (lv_sub hl [4, 5, 2, 1, 0] rfl)
    exact HL 13 0 v_13 p0 (by omega) (by omega) c_2 ls (lv_sub hl [3, 4, 2, 1, 0] rfl)
  · refine lv_iconst (v := 0) hx hb dX1_horsesAlong_7 (by decide) ?_
    exact W.iret (v := 0) hx hb hr (fun t9 ht hW => ⟨_, rfl, trivial, ht⟩) (fun q h => nomatch h) dX1_horsesAlong_8

set_option maxHeartbeats 4000000 in
set_option maxRecDepth 100000 in
theorem t_X1_leadAlong (l : Launch) (dC : Nat → ClassId) (dI : Nat → Nat → Nat) (cs : Nat → ClassId) (L : List Nat) (ka : Nat → Nat) (f : Nat → va_E) (h0 : Nat) (p0 : Int32) (p1 : Int32) (sz : Nat) (hT : tO L ka cs f) (hk_h0 : tp L ka 1 h0) : Met l yX1_leadAlong wsX1_leadAlong ({ frames := 1, cells := 0, slots := 0, locals := 20 }) (va_Pc [.ref h0, .int p0, .int p1] (cP dC dI ([] ++ va_pl L f) (tyC cs) sz)) (va_Qv (fun (_ : Unit) => True) (fun (_ : Unit) t9 => ∃ (f2 : Nat → va_E), (tO L ka cs f2) ∧ cQ dC dI ([] ++ va_pl L f2) [] (va_A ([] ++ va_pl L f) sz) t9) (va_A ([] ++ va_pl L f) sz)) 0 0 (va_A ([] ++ va_pl L f) sz) := by
  refine Met.ofW (cc := cX1_leadAlong) (maxL := 6) (ret := none) (by decide) rfl ?_
  intro p e s m args below meth c s₁ B hml hv
  obtain ⟨rfl, hsz, hP, hK, hD0, hN⟩ := hv
  have hx := B.exec
  have hb := B.bytes
  have hr := B.returns
  have hts := atoms_spec (ws := wsX1_leadAlong) B.pre
  have hown : s.vm.findClass RX1 = some m.cls := findClass_of_methodNamed B.named
  have hlocks := B.notSynchronized
  subst hsz
  have hin1 : ∀ w ∈ u_ws RX1 TX1 4, w ∈ wsX1_leadAlong := by decide +kernel
  have hD := hD0.self (sz := s.heap.size)
  generalize hAe : va_A ([] ++ va_pl L f) s.heap.size = A at hD ⊢
  have hA : ∀ q : Nat, s.heap.size ≤ q → A q := fun q h => by rw [← hAe]; exact Or.inr h
  have hS : va_S A s.heap s.heap [] := va_S.rf
  have hP : va_P (dC, dI) vwCl ([] ++ va_pl L f) s.heap := hP
  have hl := lv_entry ([.ref h0, .int p0, .int p1]) (n := 6) (Nat.le_of_ble_eq_true rfl)
  rw [lg_entry_eq]
  generalize (lg_sl ([.ref h0, .int p0, .int p1]) ++ List.replicate (6 - (lg_sl ([.ref h0, .int p0, .int p1])).length) Slot.unset).toArray = ls at hl ⊢
  have hl : lv_has ls 6 [(0, .ref h0), (1, .int p0), (2, .int p1)] := hl
  refine lv_iload_n hx hb dX1_leadAlong_0 rfl (lv_at hl 1 rfl) ?_
  have hPc := hP.sub (ws' := []) [] rfl
  have hDc := hD.sub (ws' := []) [] (by decide) rfl
  have hKc := hK.sub (tys' := []) [] rfl
  refine cs_i (va_runSN (As := [.int p0]) (rest := []) ⟨hx, hb, hml, hown, hts⟩ (c_X8_isStation l dC dI p0 s.heap.size) ⟨va_cnB 1 hts ggX1_leadAlong_X8_isStation rfl rfl rfl (hN.1 (.methodLinkNest RX1 26 yX8_isStation "YamRiders") (by decide +kernel)) (hts (.initialized RX8) (by decide +kernel)) (by decide +kernel) ⟨Nat.le_of_ble_eq_true rfl, Nat.le_of_ble_eq_true rfl⟩, hts (.static yX8_isStation) (by decide +kernel), trivial⟩ ⟨c_blind, c_pre hPc hKc hDc hN⟩ rfl rfl hl.1 rfl (lv_room (Nat.le_of_ble_eq_true rfl)) dX1_leadAlong_1 ⟨Nat.le_of_ble_eq_true rfl, Nat.le_of_ble_eq_true rfl⟩) (fun r_1 hr_1 => ?_)
  subst hr_1
  refine lv_if_ne (tgt := 8) hx hb dX1_leadAlong_4 (by decide) (fun c_2 => ?_) (fun c_2 => ?_)
  · refine lv_aload_n hx hb dX1_leadAlong_8 rfl (lv_at hl 0 rfl) ?_
    obtain ⟨o_4, o_5, o_6, o_7, hf_3, hk_o_4, hk_o_5, hk_o_6, hk_o_7⟩ := hT.get hk_h0
    obtain ⟨q_8, hq_8⟩ := pl_at (X := []) (f := f) (e := .inr (1, [.ref o_4, .ref o_5, .ref o_6, .ref o_7])) hk_h0.1 hf_3
    refine va_get (D := (dC, dI)) (ci := 1) (v := .ref o_4) (C := RX1) (T := TX1) (N := 4) hx hb hts hin1 hown hK hP q_8 hq_8 rfl 0 (by decide) (hts (.fieldLink RX1 9 "YamRiders$Leader" "spare" "[I") (by decide +kernel)) (fun _ h9 => h9) rfl dX1_leadAlong_9 ?_
    refine lv_iload_n hx hb dX1_leadAlong_12 rfl (lv_at hl 1 rfl) ?_
    refine lv_dup2_11 hx hb dX1_leadAlong_13 rfl rfl ?_
    obtain ⟨g_10, hf_9⟩ := hT.get hk_o_4
    obtain ⟨q_11, hq_11⟩ := pl_at (X := []) (f := f) (e := .inl (cs 0, 12, .inl g_10)) hk_o_4.1 hf_9
    refine va_iald hx hb hK hP q_11 0 hq_11 rfl (st_in c_2) dX1_leadAlong_14 ?_
    refine lv_topi (fun v_12 ev_12 => ?_)
    refine lv_iload_n hx hb dX1_leadAlong_15 rfl (lv_at hl 2 rfl) ?_
    refine lv_iadd hx hb dX1_leadAlong_16 ?_
    refine lv_topi (fun v_13 ev_13 => ?_)
    obtain ⟨q_14, hq_14⟩ := pl_at (X := []) (f := f) (e := .inl (cs 0, 12, .inl g_10)) hk_o_4.1 hf_9
    refine va_iast hx hb hK hP hD hS q_14 0 hq_14 rfl (st_in c_2) dX1_leadAlong_17 (fun H locs hP9 hD9 hS => ?_)
    have hs_15 := pl_st (.inl (cs 0, 12, .inl (upd g_10 p0.toNatClampNeg v_13))) hD hk_o_4.1 hf_9 hq_14
    have hP9 : va_P (dC, dI) vwCl ((([] : va_W) ++ va_pl L f).set q_14 (o_4, .inl (cs 0, 12, .inl (upd g_10 p0.toNatClampNeg v_13)))) H := hP9
    have hD9 : va_D A ((([] : va_W) ++ va_pl L f).set q_14 (o_4, .inl (cs 0, 12, .inl (upd g_10 p0.toNatClampNeg v_13)))) := hD9
    rw [hs_15] at hP9 hD9
    have hT := hT.put (e := .inl (cs 0, 12, .inl (upd g_10 p0.toNatClampNeg v_13))) hk_o_4 ⟨_, rfl⟩
    have hf_16 : va_up f o_4 (.inl (cs 0, 12, .inl (upd g_10 p0.toNatClampNeg v_13))) o_4 = .inl (cs 0, 12, .inl (upd g_10 p0.toNatClampNeg v_13)) := va_up_self _ _ _
    have hP := hP9
    have hD := hD9
    clear hP9 hD9 hs_15
    generalize va_up f o_4 (.inl (cs 0, 12, .inl (upd g_10 p0.toNatClampNeg v_13))) = f_17 at hP hD hT hf_16
    generalize upd g_10 p0.toNatClampNeg v_13 = g_18 at hf_16
    refine lv_iload_n hx hb dX1_leadAlong_18 rfl (lv_at hl 1 rfl) ?_
    refine lv_istore_n (lv' := [(3, .int p0), (0, .ref h0), (1, .int p0), (2, .int p1)]) hx hb dX1_leadAlong_19 rfl hl (by decide) rfl (fun ls hl => ?_)
    refine lv_iconst (v := 0) hx hb dX1_leadAlong_20 (by decide) ?_
    refine lv_istore (lv' := [(4, .int 0), (3, .int p0), (0, .ref h0), (1, .int p0), (2, .int p1)]) hx hb dX1_leadAlong_21 hl (by decide) rfl (fun ls hl => ?_)
    have HL : ∀ (n k : Nat) (x3 : Int32), k ≤ 12 → 12 + 1 ≤ k + n → (¬ sp_st x3 = 0) → ∀ (f_19 : Nat → va_E) (H : Heap) (locs : List Loc), tO L ka cs f_19 → va_P (dC, dI) vwCl ([] ++ va_pl L f_19) H → va_D A ([] ++ va_pl L f_19) → va_S A s.heap H locs → ∀ ls : Array Slot, lv_has ls 6 [(0, .ref h0), (1, .int p0), (2, .int p1), (3, .int x3), (4, .int (nI k))] → W p l e (headSpec wsX1_leadAlong ({ frames := 1, cells := 0, slots := 0, locals := 20 })).room s m ([.ref h0, .int p0, .int p1]).toArray below meth c H locs 0 0 (MQ below (va_Qv (fun (_ : Unit) => True) (fun (_ : Unit) t9 => ∃ (f2 : Nat → va_E), (tO L ka cs f2) ∧ cQ dC dI ([] ++ va_pl L f2) [] A t9) A) ([.ref h0, .int p0, .int p1]).toArray s 0 0 A) (F0 m 23 ls []) := by
      intro n
      induction n with
      | zero => intro k x3 h1 h2; exact absurd h2 (by omega)
      | succ n ih =>
        intro k x3 hk hn hst f_19 H locs hT hP hD hS ls hl
        refine lv_iload hx hb dX1_leadAlong_23 (lv_at hl 4 rfl) ?_
        refine lv_bipush (v := 12) hx hb dX1_leadAlong_25 (by decide) ?_
        refine lv_icmp_ge (tgt := 100) hx hb dX1_leadAlong_27 (by decide) (fun c_20 => ?_) (fun c_20 => ?_)
        · have hke : k = 12 := by
            rcases Nat.lt_or_ge k 12 with q | q
            · exact absurd c_20 (nI_ge q (by decide))
            · omega
          refine lv_aload_n hx hb dX1_leadAlong_100 rfl (lv_at hl 0 rfl) ?_
          obtain ⟨o_22, o_23, o_24, o_25, hf_21, hk_o_22, hk_o_23, hk_o_24, hk_o_25⟩ := hT.get hk_h0
          obtain ⟨q_26, hq_26⟩ := pl_at (X := []) (f := f_19) (e := .inr (1, [.ref o_22, .ref o_23, .ref o_24, .ref o_25])) hk_h0.1 hf_21
          refine va_get (D := (dC, dI)) (ci := 1) (v := .ref o_22) (C := RX1) (T := TX1) (N := 4) hx hb hts hin1 hown hK hP q_26 hq_26 rfl 0 (by decide) (hts (.fieldLink RX1 9 "YamRiders$Leader" "spare" "[I") (by decide +kernel)) (fun _ h9 => h9) rfl dX1_leadAlong_101 ?_
          refine lv_iload_n hx hb dX1_leadAlong_104 rfl (lv_at hl 3 rfl) ?_
          refine lv_dup2_11 hx hb dX1_leadAlong_105 rfl rfl ?_
          obtain ⟨g_28, hf_27⟩ := hT.get hk_o_22
          obtain ⟨q_29, hq_29⟩ := pl_at (X := []) (f := f_19) (e := .inl (cs 0, 12, .inl g_28)) hk_o_22.1 hf_27
          refine va_iald hx hb hK hP q_29 0 hq_29 rfl (st_in hst) dX1_leadAlong_106 ?_
          refine lv_topi (fun v_30 ev_30 => ?_)
          refine lv_iload_n hx hb dX1_leadAlong_107 rfl (lv_at hl 2 rfl) ?_
          refine lv_isub hx hb dX1_leadAlong_108 ?_
          refine lv_topi (fun v_31 ev_31 => ?_)
          obtain ⟨q_32, hq_32⟩ := pl_at (X := []) (f := f_19) (e := .inl (cs 0, 12, .inl g_28)) hk_o_22.1 hf_27
          refine va_iast hx hb hK hP hD hS q_32 0 hq_32 rfl (st_in hst) dX1_leadAlong_109 (fun H locs hP9 hD9 hS => ?_)
          have hs_33 := pl_st (.inl (cs 0, 12, .inl (upd g_28 x3.toNatClampNeg v_31))) hD hk_o_22.1 hf_27 hq_32
          have hP9 : va_P (dC, dI) vwCl ((([] : va_W) ++ va_pl L f_19).set q_32 (o_22, .inl (cs 0, 12, .inl (upd g_28 x3.toNatClampNeg v_31)))) H := hP9
          have hD9 : va_D A ((([] : va_W) ++ va_pl L f_19).set q_32 (o_22, .inl (cs 0, 12, .inl (upd g_28 x3.toNatClampNeg v_31)))) := hD9
          rw [hs_33] at hP9 hD9
          have hT := hT.put (e := .inl (cs 0, 12, .inl (upd g_28 x3.toNatClampNeg v_31))) hk_o_22 ⟨_, rfl⟩
          have hf_34 : va_up f_19 o_22 (.inl (cs 0, 12, .inl (upd g_28 x3.toNatClampNeg v_31))) o_22 = .inl (cs 0, 12, .inl (upd g_28 x3.toNatClampNeg v_31)) := va_up_self _ _ _
          have hP := hP9
          have hD := hD9
          clear hP9 hD9 hs_33
          generalize va_up f_19 o_22 (.inl (cs 0, 12, .inl (upd g_28 x3.toNatClampNeg v_31))) = f_35 at hP hD hT hf_34
          generalize upd g_28 x3.toNatClampNeg v_31 = g_36 at hf_34
          have hP9 := hP.part (cx := []) [] rfl
          have hD9 := hD.part (cx := []) [] (by decide) rfl
          have hK9 := hK.sub (tys' := []) [] rfl
          refine W.widen (k := 0) (n := 0) (Nat.le_of_ble_eq_true rfl) (Nat.le_of_ble_eq_true rfl) ?_
          exact W.vret hx hb hr (fun t9 ht hW => ⟨⟨(), rfl, trivial, f_35, hT, by rw [ht]; exact hP9, va_K.moved hW.alike hK9, hD9⟩, hS.F ht⟩) hS.2.2 dX1_leadAlong_110
        · have hlt : k < 12 := by
            rcases Nat.lt_or_ge k 12 with q | q
            · exact q
            · exact absurd (show nI 12 ≤ nI k from nI_le q (by omega)) c_20
          refine lv_aload_n hx hb dX1_leadAlong_30 rfl (lv_at hl 0 rfl) ?_
          obtain ⟨o_38, o_39, o_40, o_41, hf_37, hk_o_38, hk_o_39, hk_o_40, hk_o_41⟩ := hT.get hk_h0
          obtain ⟨q_42, hq_42⟩ := pl_at (X := []) (f := f_19) (e := .inr (1, [.ref o_38, .ref o_39, .ref o_40, .ref o_41])) hk_h0.1 hf_37
          refine va_get (D := (dC, dI)) (ci := 1) (v := .ref o_41) (C := RX1) (T := TX1) (N := 4) hx hb hts hin1 hown hK hP q_42 hq_42 rfl 3 (by decide) (hts (.fieldLink RX1 23 "YamRiders$Leader" "from" "[I") (by decide +kernel)) (fun _ h9 => h9) rfl dX1_leadAlong_31 ?_
          refine lv_iload_n hx hb dX1_leadAlong_34 rfl (lv_at hl 3 rfl) ?_
          obtain ⟨g_44, hf_43⟩ := hT.get hk_o_41
          obtain ⟨q_45, hq_45⟩ := pl_at (X := []) (f := f_19) (e := .inl (cs 0, 12, .inl g_44)) hk_o_41.1 hf_43
          refine va_iald hx hb hK hP q_45 0 hq_45 rfl (st_in hst) dX1_leadAlong_35 ?_
          refine lv_topi (fun v_46 ev_46 => ?_)
          have hPc := hP.sub (ws' := []) [] rfl
          have hDc := hD.sub (ws' := []) [] (by decide) rfl
          have hKc := hK.sub (tys' := []) [] rfl
          refine cs_i (va_runSN (As := [.int v_46]) (rest := []) ⟨hx, hb, hml, hown, hts⟩ (c_X8_isStation l dC dI v_46 H.size) ⟨va_cnB 1 hts ggX1_leadAlong_X8_isStation rfl rfl rfl (hN.1 (.methodLinkNest RX1 26 yX8_isStation "YamRiders") (by decide +kernel)) (hts (.initialized RX8) (by decide +kernel)) (by decide +kernel) ⟨Nat.le_of_ble_eq_true rfl, Nat.le_of_ble_eq_true rfl⟩, hts (.static yX8_isStation) (by decide +kernel), trivial⟩ ⟨c_blind, c_pre hPc hKc hDc hN⟩ rfl rfl hl.1 rfl (lv_room (Nat.le_of_ble_eq_true rfl)) dX1_leadAlong_36 ⟨Nat.le_of_ble_eq_true rfl, Nat.le_of_ble_eq_true rfl⟩) (fun r_47 hr_47 => ?_)
          subst hr_47
          refine lv_if_eq (tgt := 100) hx hb dX1_leadAlong_39 (by decide) (fun c_48 => ?_) (fun c_48 => ?_)
          · refine lv_aload_n hx hb dX1_leadAlong_100 rfl (lv_at hl 0 rfl) ?_
            obtain ⟨q_49, hq_49⟩ := pl_at (X := []) (f := f_19) (e := .inr (1, [.ref o_38, .ref o_39, .ref o_40, .ref o_41])) hk_h0.1 hf_37
            refine va_get (D := (dC, dI)) (ci := 1) (v := .ref o_38) (C := RX1) (T := TX1) (N := 4) hx hb hts hin1 hown hK hP q_49 hq_49 rfl 0 (by decide) (hts (.fieldLink RX1 9 "YamRiders$Leader" "spare" "[I") (by decide +kernel)) (fun _ h9 => h9) rfl dX1_leadAlong_101 ?_
            refine lv_iload_n hx hb dX1_leadAlong_104 rfl (lv_at hl 3 rfl) ?_
            refine lv_dup2_11 hx hb dX1_leadAlong_105 rfl rfl ?_
            obtain ⟨g_51, hf_50⟩ := hT.get hk_o_38
            obtain ⟨q_52, hq_52⟩ := pl_at (X := []) (f := f_19) (e := .inl (cs 0, 12, .inl g_51)) hk_o_38.1 hf_50
            refine va_iald hx hb hK hP q_52 0 hq_52 rfl (st_in hst) dX1_leadAlong_106 ?_
            refine lv_topi (fun v_53 ev_53 => ?_)
            refine lv_iload_n hx hb dX1_leadAlong_107 rfl (lv_at hl 2 rfl) ?_
            refine lv_isub hx hb dX1_leadAlong_108 ?_
            refine lv_topi (fun v_54 ev_54 => ?_)
            obtain ⟨q_55, hq_55⟩ := pl_at (X := []) (f := f_19) (e := .inl (cs 0, 12, .inl g_51)) hk_o_38.1 hf_50
            refine va_iast hx hb hK hP hD hS q_55 0 hq_55 rfl (st_in hst) dX1_leadAlong_109 (fun H locs hP9 hD9 hS => ?_)
            have hs_56 := pl_st (.inl (cs 0, 12, .inl (upd g_51 x3.toNatClampNeg v_54))) hD hk_o_38.1 hf_50 hq_55
            have hP9 : va_P (dC, dI) vwCl ((([] : va_W) ++ va_pl L f_19).set q_55 (o_38, .inl (cs 0, 12, .inl (upd g_51 x3.toNatClampNeg v_54)))) H := hP9
            have hD9 : va_D A ((([] : va_W) ++ va_pl L f_19).set q_55 (o_38, .inl (cs 0, 12, .inl (upd g_51 x3.toNatClampNeg v_54)))) := hD9
            rw [hs_56] at hP9 hD9
            have hT := hT.put (e := .inl (cs 0, 12, .inl (upd g_51 x3.toNatClampNeg v_54))) hk_o_38 ⟨_, rfl⟩
            have hf_57 : va_up f_19 o_38 (.inl (cs 0, 12, .inl (upd g_51 x3.toNatClampNeg v_54))) o_38 = .inl (cs 0, 12, .inl (upd g_51 x3.toNatClampNeg v_54)) := va_up_self _ _ _
            have hP := hP9
            have hD := hD9
            clear hP9 hD9 hs_56
            generalize va_up f_19 o_38 (.inl (cs 0, 12, .inl (upd g_51 x3.toNatClampNeg v_54))) = f_58 at hP hD hT hf_57
            generalize upd g_51 x3.toNatClampNeg v_54 = g_59 at hf_57
            have hP9 := hP.part (cx := []) [] rfl
            have hD9 := hD.part (cx := []) [] (by decide) rfl
            have hK9 := hK.sub (tys' := []) [] rfl
            refine W.widen (k := 0) (n := 0) (Nat.le_of_ble_eq_true rfl) (Nat.le_of_ble_eq_true rfl) ?_
            exact W.vret hx hb hr (fun t9 ht hW => ⟨⟨(), rfl, trivial, f_58, hT, by rw [ht]; exact hP9, va_K.moved hW.alike hK9, hD9⟩, hS.F ht⟩) hS.2.2 dX1_leadAlong_110
          · refine lv_aload_n hx hb dX1_leadAlong_42 rfl (lv_at hl 0 rfl) ?_
            obtain ⟨q_60, hq_60⟩ := pl_at (X := []) (f := f_19) (e := .inr (1, [.ref o_38, .ref o_39, .ref o_40, .ref o_41])) hk_h0.1 hf_37
            refine va_get (D := (dC, dI)) (ci := 1) (v := .ref o_41) (C := RX1) (T := TX1) (N := 4) hx hb hts hin1 hown hK hP q_60 hq_60 rfl 3 (by decide) (hts (.fieldLink RX1 23 "YamRiders$Leader" "from" "[I") (by decide +kernel)) (fun _ h9 => h9) rfl dX1_leadAlong_43 ?_
            refine lv_iload_n hx hb dX1_leadAlong_46 rfl (lv_at hl 3 rfl) ?_
            obtain ⟨q_61, hq_61⟩ := pl_at (X := []) (f := f_19) (e := .inl (cs 0, 12, .inl g_44)) hk_o_41.1 hf_43
            refine va_iald hx hb hK hP q_61 0 hq_61 rfl (st_in hst) dX1_leadAlong_47 ?_
            refine lv_topi (fun v_62 ev_62 => ?_)
            obtain rfl : v_46 = v_62 := ev_46.trans ev_62.symm
            refine lv_istore (lv' := [(5, .int v_46), (0, .ref h0), (1, .int p0), (2, .int p1), (3, .int x3), (4, .int (nI k))]) hx hb dX1_leadAlong_48 hl (by decide) rfl (fun ls hl => ?_)
            refine lv_aload_n hx hb dX1_leadAlong_50 rfl (lv_at hl 1 rfl) ?_
            obtain ⟨q_63, hq_63⟩ := pl_at (X := []) (f := f_19) (e := .inr (1, [.ref o_38, .ref o_39, .ref o_40, .ref o_41])) hk_h0.1 hf_37
            refine va_get (D := (dC, dI)) (ci := 1) (v := .ref o_39) (C := RX1) (T := TX1) (N := 4) hx hb hts hin1 hown hK hP q_63 hq_63 rfl 1 (by decide) (hts (.fieldLink RX1 17 "YamRiders$Leader" "led" "[[I") (by decide +kernel)) (fun _ h9 => h9) rfl dX1_leadAlong_51 ?_
            refine lv_iload_n hx hb dX1_leadAlong_54 rfl (lv_at hl 4 rfl) ?_
            obtain ⟨g_65, hf_64, hr_66⟩ := hT.get hk_o_39
            obtain ⟨q_67, hq_67⟩ := pl_at (X := []) (f := f_19) (e := .inl (cs 2, 12, .inr (.inr (.inr (.inr g_65))))) hk_o_39.1 hf_64
            obtain ⟨o_68, hr_o_68, hk_o_68⟩ := hr_66 x3.toNatClampNeg (in_lt (st_in hst))
            refine va_aldg hx hb hK hP q_67 2 hq_67 rfl (st_in hst) hr_o_68 dX1_leadAlong_55 ?_
            refine lv_iload hx hb dX1_leadAlong_56 (lv_at hl 0 rfl) ?_
            obtain ⟨g_70, hf_69⟩ := hT.get hk_o_68
            obtain ⟨q_71, hq_71⟩ := pl_at (X := []) (f := f_19) (e := .inl (cs 0, 12, .inl g_70)) hk_o_68.1 hf_69
            refine va_iald hx hb hK hP q_71 0 hq_71 rfl (st_in c_48) dX1_leadAlong_58 ?_
            refine lv_topi (fun v_72 ev_72 => ?_)
            refine lv_if_le (tgt := 78) hx hb dX1_leadAlong_59 (by decide) (fun c_73 => ?_) (fun c_73 => ?_)
            · refine lv_aload_n hx hb dX1_leadAlong_78 rfl (lv_at hl 1 rfl) ?_
              obtain ⟨q_74, hq_74⟩ := pl_at (X := []) (f := f_19) (e := .inr (1, [.ref o_38, .ref o_39, .ref o_40, .ref o_41])) hk_h0.1 hf_37
              refine va_get (D := (dC, dI)) (ci := 1) (v := .ref o_39) (C := RX1) (T := TX1) (N := 4) hx hb hts hin1 hown hK hP q_74 hq_74 rfl 1 (by decide) (hts (.fieldLink RX1 17 "YamRiders$Leader" "led" "[[I") (by decide +kernel)) (fun _ h9 => h9) rfl dX1_leadAlong_79 ?_
              refine lv_iload hx hb dX1_leadAlong_82 (lv_at hl 0 rfl) ?_
              obtain ⟨q_75, hq_75⟩ := pl_at (X := []) (f := f_19) (e := .inl (cs 2, 12, .inr (.inr (.inr (.inr g_65))))) hk_o_39.1 hf_64
              obtain ⟨o_76, hr_o_76, hk_o_76⟩ := hr_66 v_46.toNatClampNeg (in_lt (st_in c_48))
              refine va_aldg hx hb hK hP q_75 2 hq_75 rfl (st_in c_48) hr_o_76 dX1_leadAlong_84 ?_
              refine lv_iload_n hx hb dX1_leadAlong_85 rfl (lv_at hl 4 rfl) ?_
              refine lv_dup2_11 hx hb dX1_leadAlong_86 rfl rfl ?_
              obtain ⟨g_78, hf_77⟩ := hT.get hk_o_76
              obtain ⟨q_79, hq_79⟩ := pl_at (X := []) (f := f_19) (e := .inl (cs 0, 12, .inl g_78)) hk_o_76.1 hf_77
              refine va_iald hx hb hK hP q_79 0 hq_79 rfl (st_in hst) dX1_leadAlong_87 ?_
              refine lv_topi (fun v_80 ev_80 => ?_)
              refine lv_iload_n hx hb dX1_leadAlong_88 rfl (lv_at hl 3 rfl) ?_
              refine lv_iadd hx hb dX1_leadAlong_89 ?_
              refine lv_topi (fun v_81 ev_81 => ?_)
              obtain ⟨q_82, hq_82⟩ := pl_at (X := []) (f := f_19) (e := .inl (cs 0, 12, .inl g_78)) hk_o_76.1 hf_77
              refine va_iast hx hb hK hP hD hS q_82 0 hq_82 rfl (st_in hst) dX1_leadAlong_90 (fun H locs hP9 hD9 hS => ?_)
              have hs_83 := pl_st (.inl (cs 0, 12, .inl (upd g_78 x3.toNatClampNeg v_81))) hD hk_o_76.1 hf_77 hq_82
              have hP9 : va_P (dC, dI) vwCl ((([] : va_W) ++ va_pl L f_19).set q_82 (o_76, .inl (cs 0, 12, .inl (upd g_78 x3.toNatClampNeg v_81)))) H := hP9
              have hD9 : va_D A ((([] : va_W) ++ va_pl L f_19).set q_82 (o_76, .inl (cs 0, 12, .inl (upd g_78 x3.toNatClampNeg v_81)))) := hD9
              rw [hs_83] at hP9 hD9
              have hT := hT.put (e := .inl (cs 0, 12, .inl (upd g_78 x3.toNatClampNeg v_81))) hk_o_76 ⟨_, rfl⟩
              have hf_84 : va_up f_19 o_76 (.inl (cs 0, 12, .inl (upd g_78 x3.toNatClampNeg v_81))) o_76 = .inl (cs 0, 12, .inl (upd g_78 x3.toNatClampNeg v_81)) := va_up_self _ _ _
              have hP := hP9
              have hD := hD9
              clear hP9 hD9 hs_83
              generalize va_up f_19 o_76 (.inl (cs 0, 12, .inl (upd g_78 x3.toNatClampNeg v_81))) = f_85 at hP hD hT hf_84
              generalize upd g_78 x3.toNatClampNeg v_81 = g_86 at hf_84
              refine lv_iload hx hb dX1_leadAlong_91 (lv_at hl 0 rfl) ?_
              refine lv_istore_n (lv' := [(3, .int v_46), (5, .int v_46), (0, .ref h0), (1, .int p0), (2, .int p1), (4, .int (nI k))]) hx hb dX1_leadAlong_93 rfl hl (by decide) rfl (fun ls hl => ?_)
              refine lv_iinc (v := nI (k + 1)) (lv' := [(4, .int (nI (k + 1))), (3, .int v_46), (5, .int v_46), (0, .ref h0), (1, .int p0), (2, .int p1)]) hx hb dX1_leadAlong_94 hl (k := 5) rfl (by exact (nI_1 k)) (by decide) rfl (fun ls hl => ?_)
              refine lv_goto (tgt := 23) hx hb dX1_leadAlong_97 (by decide) ?_
              exact ih (k + 1) v_46 (by omega) (by omega) c_48 _ _ _ hT (hP.part (cx := _) [] rfl) (hD.part (cx := _) [] (by decide) rfl) hS ls (lv_sub hl [3, 4, 5, 1, 0] rfl)
            · refine lv_aload_n hx hb dX1_leadAlong_62 rfl (lv_at hl 1 rfl) ?_
              obtain ⟨q_87, hq_87⟩ := pl_at (X := []) (f := f_19) (e := .inr (1, [.ref o_38, .ref o_39, .ref o_40, .ref o_41])) hk_h0.1 hf_37
              refine va_get (D := (dC, dI)) (ci := 1) (v := .ref o_39) (C := RX1) (T := TX1) (N := 4) hx hb hts hin1 hown hK hP q_87 hq_87 rfl 1 (by decide) (hts (.fieldLink RX1 17 "YamRiders$Leader" "led" "[[I") (by decide +kernel)) (fun _ h9 => h9) rfl dX1_leadAlong_63 ?_
              refine lv_iload_n hx hb dX1_leadAlong_66 rfl (lv_at hl 4 rfl) ?_
              obtain ⟨q_88, hq_88⟩ := pl_at (X := []) (f := f_19) (e := .inl (cs 2, 12, .inr (.inr (.inr (.inr g_65))))) hk_o_39.1 hf_64
              refine va_aldg hx hb hK hP q_88 2 hq_88 rfl (st_in hst) hr_o_68 dX1_leadAlong_67 ?_
              refine lv_iload hx hb dX1_leadAlong_68 (lv_at hl 0 rfl) ?_
              refine lv_dup2_11 hx hb dX1_leadAlong_70 rfl rfl ?_
              obtain ⟨q_89, hq_89⟩ := pl_at (X := []) (f := f_19) (e := .inl (cs 0, 12, .inl g_70)) hk_o_68.1 hf_69
              refine va_iald hx hb hK hP q_89 0 hq_89 rfl (st_in c_48) dX1_leadAlong_71 ?_
              refine lv_topi (fun v_90 ev_90 => ?_)
              obtain rfl : v_72 = v_90 := ev_72.trans ev_90.symm
              refine lv_iload_n hx hb dX1_leadAlong_72 rfl (lv_at hl 3 rfl) ?_
              refine lv_isub hx hb dX1_leadAlong_73 ?_
              refine lv_topi (fun v_91 ev_91 => ?_)
              obtain ⟨q_92, hq_92⟩ := pl_at (X := []) (f := f_19) (e := .inl (cs 0, 12, .inl g_70)) hk_o_68.1 hf_69
              refine va_iast hx hb hK hP hD hS q_92 0 hq_92 rfl (st_in c_48) dX1_leadAlong_74 (fun H locs hP9 hD9 hS => ?_)
              have hs_93 := pl_st (.inl (cs 0, 12, .inl (upd g_70 v_46.toNatClampNeg v_91))) hD hk_o_68.1 hf_69 hq_92
              have hP9 : va_P (dC, dI) vwCl ((([] : va_W) ++ va_pl L f_19).set q_92 (o_68, .inl (cs 0, 12, .inl (upd g_70 v_46.toNatClampNeg v_91)))) H := hP9
              have hD9 : va_D A ((([] : va_W) ++ va_pl L f_19).set q_92 (o_68, .inl (cs 0, 12, .inl (upd g_70 v_46.toNatClampNeg v_91)))) := hD9
              rw [hs_93] at hP9 hD9
              have hT := hT.put (e := .inl (cs 0, 12, .inl (upd g_70 v_46.toNatClampNeg v_91))) hk_o_68 ⟨_, rfl⟩
              have hf_94 : va_up f_19 o_68 (.inl (cs 0, 12, .inl (upd g_70 v_46.toNatClampNeg v_91))) o_68 = .inl (cs 0, 12, .inl (upd g_70 v_46.toNatClampNeg v_91)) := va_up_self _ _ _
              have hP := hP9
              have hD := hD9
              clear hP9 hD9 hs_93
              generalize va_up f_19 o_68 (.inl (cs 0, 12, .inl (upd g_70 v_46.toNatClampNeg v_91))) = f_95 at hP hD hT hf_94
              generalize upd g_70 v_46.toNatClampNeg v_91 = g_96 at hf_94
              refine lv_goto (tgt := 91) hx hb dX1_leadAlong_75 (by decide) ?_
              refine lv_iload hx hb dX1_leadAlong_91 (lv_at hl 0 rfl) ?_
              refine lv_istore_n (lv' := [(3, .int v_46), (5, .int v_46), (0, .ref h0), (1, .int p0), (2, .int p1), (4, .int (nI k))]) hx hb dX1_leadAlong_93 rfl hl (by decide) rfl (fun ls hl => ?_)
              refine lv_iinc (v := nI (k + 1)) (lv' := [(4, .int (nI (k + 1))), (3, .int v_46), (5, .int v_46), (0, .ref h0), (1, .int p0), (2, .int p1)]) hx hb dX1_leadAlong_94 hl (k := 5) rfl (by exact (nI_1 k)) (by decide) rfl (fun ls hl => ?_)
              refine lv_goto (tgt := 23) hx hb dX1_leadAlong_97 (by decide) ?_
              exact ih (k + 1) v_46 (by omega) (by omega) c_48 _ _ _ hT (hP.part (cx := _) [] rfl) (hD.part (cx := _) [] (by decide) rfl) hS ls (lv_sub hl [3, 4, 5, 1, 0] rfl)
    exact HL 13 0 p0 (by omega) (by omega) c_2 _ _ _ hT (hP.part (cx := _) [] rfl) (hD.part (cx := _) [] (by decide) rfl) hS ls (lv_sub hl [2, 3, 4, 1, 0] rfl)
  · have hP9 := hP.part (cx := []) [] rfl
    have hD9 := hD.part (cx := []) [] (by decide) rfl
    have hK9 := hK.sub (tys' := []) [] rfl
    refine W.widen (k := 0) (n := 0) (Nat.le_of_ble_eq_true rfl) (Nat.le_of_ble_eq_true rfl) ?_
    exact W.vret hx hb hr (fun t9 ht hW => ⟨⟨(), rfl, trivial, f, hT, by rw [ht]; exact hP9, va_K.moved hW.alike hK9, hD9⟩, hS.F ht⟩) hS.2.2 dX1_leadAlong_7

set_option maxHeartbeats 4000000 in
set_option maxRecDepth 100000 in
theorem t_X1_leastPains (l : Launch) (dC : Nat → ClassId) (dI : Nat → Nat → Nat) (cs : Nat → ClassId) (L : List Nat) (ka : Nat → Nat) (f : Nat → va_E) (h0 : Nat) (e1 : Nat) (sz : Nat) (hT : tO L ka cs f) (hk_h0 : tp L ka 1 h0) (hk_e1 : tp L ka 3 e1) : Met l yX1_leastPains wsX1_leastPains ({ frames := 4, cells := 0, slots := 0, locals := 92 }) (va_Pc [.ref h0, .ref e1] (cP dC dI ([] ++ va_pl L f) (tyC cs) sz)) (va_Qi (fun (r : Int32) (_ : Unit) => True) (fun (_ : Unit) t9 => ∃ (f2 : Nat → va_E), (tO L ka cs f2) ∧ cQ dC dI ([] ++ va_pl L f2) [] (va_A ([] ++ va_pl L f) sz) t9) (va_A ([] ++ va_pl L f) sz)) 0 0 (va_A ([] ++ va_pl L f) sz) := by
  refine Met.ofW (cc := cX1_leastPains) (maxL := 6) (ret := (some .int)) (by decide) rfl ?_
  intro p e s m args below meth c s₁ B hml hv
  obtain ⟨rfl, hsz, hP, hK, hD0, hN⟩ := hv
  have hx := B.exec
  have hb := B.bytes
  have hr := B.returns
  have hts := atoms_spec (ws := wsX1_leastPains) B.pre
  have hown : s.vm.findClass RX1 = some m.cls := findClass_of_methodNamed B.named
  have hlocks := B.notSynchronized
  subst hsz
  have hin1 : ∀ w ∈ u_ws RX1 TX1 4, w ∈ wsX1_leastPains := by decide +kernel
  have hD := hD0.self (sz := s.heap.size)
  generalize hAe : va_A ([] ++ va_pl L f) s.heap.size = A at hD ⊢
  have hA : ∀ q : Nat, s.heap.size ≤ q → A q := fun q h => by rw [← hAe]; exact Or.inr h
  have hS : va_S A s.heap s.heap [] := va_S.rf
  have hP : va_P (dC, dI) vwCl ([] ++ va_pl L f) s.heap := hP
  have hl := lv_entry ([.ref h0, .ref e1]) (n := 6) (Nat.le_of_ble_eq_true rfl)
  rw [lg_entry_eq]
  generalize (lg_sl ([.ref h0, .ref e1]) ++ List.replicate (6 - (lg_sl ([.ref h0, .ref e1])).length) Slot.unset).toArray = ls at hl ⊢
  have hl : lv_has ls 6 [(0, .ref h0), (1, .ref e1)] := hl
  refine lv_iconst (v := 0) hx hb dX1_leastPains_0 (by decide) ?_
  refine lv_istore_n (lv' := [(2, .int 0), (0, .ref h0), (1, .ref e1)]) hx hb dX1_leastPains_1 rfl hl (by decide) rfl (fun ls hl => ?_)
  have HL : ∀ (n k : Nat), k ≤ 12 → 12 + 1 ≤ k + n → ∀ (f_1 : Nat → va_E) (H : Heap) (locs : List Loc), tO L ka cs f_1 → va_P (dC, dI) vwCl ([] ++ va_pl L f_1) H → va_D A ([] ++ va_pl L f_1) → va_S A s.heap H locs → ∀ ls : Array Slot, lv_has ls 6 [(0, .ref h0), (1, .ref e1), (2, .int (nI k))] → W p l e (headSpec wsX1_leastPains ({ frames := 4, cells := 0, slots := 0, locals := 92 })).room s m ([.ref h0, .ref e1]).toArray below meth c H locs 0 0 (MQ below (va_Qi (fun (r : Int32) (_ : Unit) => True) (fun (_ : Unit) t9 => ∃ (f2 : Nat → va_E), (tO L ka cs f2) ∧ cQ dC dI ([] ++ va_pl L f2) [] A t9) A) ([.ref h0, .ref e1]).toArray s 0 0 A) (F0 m 2 ls []) := by
    intro n
    induction n with
    | zero => intro k h1 h2; exact absurd h2 (by omega)
    | succ n ih =>
      intro k hk hn f_1 H locs hT hP hD hS ls hl
      refine lv_iload_n hx hb dX1_leastPains_2 rfl (lv_at hl 2 rfl) ?_
      refine lv_bipush (v := 12) hx hb dX1_leastPains_3 (by decide) ?_
      refine lv_icmp_ge (tgt := 24) hx hb dX1_leastPains_5 (by decide) (fun c_2 => ?_) (fun c_2 => ?_)
      · have hke : k = 12 := by
          rcases Nat.lt_or_ge k 12 with q | q
          · exact absurd c_2 (nI_ge q (by decide))
          · omega
        refine lv_iconst (v := 0) hx hb dX1_leastPains_24 (by decide) ?_
        refine lv_istore_n (lv' := [(2, .int 0), (0, .ref h0), (1, .ref e1)]) hx hb dX1_leastPains_25 rfl hl (by decide) rfl (fun ls hl => ?_)
        refine lv_iconst (v := 0) hx hb dX1_leastPains_26 (by decide) ?_
        refine lv_istore_n (lv' := [(3, .int 0), (2, .int 0), (0, .ref h0), (1, .ref e1)]) hx hb dX1_leastPains_27 rfl hl (by decide) rfl (fun ls hl => ?_)
        have HL_j : ∀ (n_j j : Nat) (x2 : Int32), j ≤ 61 → 61 + 1 ≤ j + n_j → ∀ (f_3 : Nat → va_E) (H : Heap) (locs : List Loc), tO L ka cs f_3 → va_P (dC, dI) vwCl ([] ++ va_pl L f_3) H → va_D A ([] ++ va_pl L f_3) → va_S A s.heap H locs → ∀ ls : Array Slot, lv_has ls 6 [(0, .ref h0), (1, .ref e1), (2, .int x2), (3, .int (nI j))] → W p l e (headSpec wsX1_leastPains ({ frames := 4, cells := 0, slots := 0, locals := 92 })).room s m ([.ref h0, .ref e1]).toArray below meth c H locs 0 0 (MQ below (va_Qi (fun (r : Int32) (_ : Unit) => True) (fun (_ : Unit) t9 => ∃ (f2 : Nat → va_E), (tO L ka cs f2) ∧ cQ dC dI ([] ++ va_pl L f2) [] A t9) A) ([.ref h0, .ref e1]).toArray s 0 0 A) (F0 m 28 ls []) := by
          intro n_j
          induction n_j with
          | zero => intro j x2 h1 h2; exact absurd h2 (by omega)
          | succ n_j ih_j =>
            intro j x2 hk_j hn_j f_3 H locs hT hP hD hS ls hl
            refine lv_iload_n hx hb dX1_leastPains_28 rfl (lv_at hl 3 rfl) ?_
            refine lv_bipush (v := 60) hx hb dX1_leastPains_29 (by decide) ?_
            refine lv_icmp_gt (tgt := 98) hx hb dX1_leastPains_31 (by decide) (fun c_4 => ?_) (fun c_4 => ?_)
            · refine lv_iload_n hx hb dX1_leastPains_98 rfl (lv_at hl 2 rfl) ?_
              have hP9 := hP.part (cx := []) [] rfl
              have hD9 := hD.part (cx := []) [] (by decide) rfl
              have hK9 := hK.sub (tys' := []) [] rfl
              refine W.widen (k := 0) (n := 0) (Nat.le_of_ble_eq_true rfl) (Nat.le_of_ble_eq_true rfl) ?_
              exact W.iret (v := x2) hx hb hr (fun t9 ht hW => ⟨⟨_, (), rfl, trivial, f_3, hT, by rw [ht]; exact hP9, va_K.moved hW.alike hK9, hD9⟩, hS.F ht⟩) hS.2.2 dX1_leastPains_99
            · refine lv_aload_n hx hb dX1_leastPains_34 rfl (lv_at hl 0 rfl) ?_
              have hPc := hP.part (cx := []) [] rfl
              have hDc := hD.part (cx := []) [] (by decide) rfl
              have hKc := hK
              obtain ⟨o_6, o_7, o_8, o_9, hf_5, hk_o_6, hk_o_7, hk_o_8, hk_o_9⟩ := hT.get hk_h0
              obtain ⟨q_10, hq_10⟩ := pl_at (X := []) (f := f_3) (e := .inr (1, [.ref o_6, .ref o_7, .ref o_8, .ref o_9])) hk_h0.1 hf_5
              refine cs_i (va_runV (As := []) (rest := []) ⟨hx, hb, hml, hown, hts⟩ (t_X1_isAnyShort l dC dI cs L ka f_3 h0 H.size hT hk_h0) (cwV 0 hts gX1_leastPains_X1_isAnyShort rfl rfl rfl (by decide +kernel) ⟨Nat.le_of_ble_eq_true rfl, Nat.le_of_ble_eq_true rfl⟩) ⟨c_blind, va_recv hKc hPc (ci := 1) (q0 := q_10) rfl hq_10, c_pre hPc hKc hDc hN⟩ rfl rfl hl.1 rfl (lv_room (Nat.le_of_ble_eq_true rfl)) dX1_leastPains_35 ⟨Nat.le_of_ble_eq_true rfl, Nat.le_of_ble_eq_true rfl⟩) (fun r_11 hr_11 => ?_)
              refine lv_if_eq (tgt := 98) hx hb dX1_leastPains_38 (by decide) (fun c_12 => ?_) (fun c_12 => ?_)
              · refine lv_iload_n hx hb dX1_leastPains_98 rfl (lv_at hl 2 rfl) ?_
                have hP9 := hP.part (cx := []) [] rfl
                have hD9 := hD.part (cx := []) [] (by decide) rfl
                have hK9 := hK.sub (tys' := []) [] rfl
                refine W.widen (k := 0) (n := 0) (Nat.le_of_ble_eq_true rfl) (Nat.le_of_ble_eq_true rfl) ?_
                exact W.iret (v := x2) hx hb hr (fun t9 ht hW => ⟨⟨_, (), rfl, trivial, f_3, hT, by rw [ht]; exact hP9, va_K.moved hW.alike hK9, hD9⟩, hS.F ht⟩) hS.2.2 dX1_leastPains_99
              · refine lv_aload_n hx hb dX1_leastPains_41 rfl (lv_at hl 0 rfl) ?_
                refine lv_aload_n hx hb dX1_leastPains_42 rfl (lv_at hl 1 rfl) ?_
                have hPc := hP.part (cx := []) [] rfl
                have hDc := hD.part (cx := []) [] (by decide) rfl
                have hKc := hK
                have hFc := va_freeP (cx := []) hD hS hA [] rfl
                obtain ⟨q_13, hq_13⟩ := pl_at (X := []) (f := f_3) (e := .inr (1, [.ref o_6, .ref o_7, .ref o_8, .ref o_9])) hk_h0.1 hf_5
                refine va_callv (va_runV (As := [.ref e1]) (rest := []) ⟨hx, hb, hml, hown, hts⟩ (t_X1_spread l dC dI cs L ka f_3 h0 e1 H.size hT hk_h0 hk_e1) (cwV 1 hts gX1_leastPains_X1_spread rfl rfl rfl (by decide +kernel) ⟨Nat.le_of_ble_eq_true rfl, Nat.le_of_ble_eq_true rfl⟩) ⟨c_blind, va_recv hKc hPc (ci := 1) (q0 := q_13) rfl hq_13, c_pre hPc hKc hDc hN⟩ rfl rfl hl.1 rfl (lv_room (Nat.le_of_ble_eq_true rfl)) dX1_leastPains_43 ⟨Nat.le_of_ble_eq_true rfl, Nat.le_of_ble_eq_true rfl⟩) hS (fun q _ h => hFc q h) hFc (fun u9 t9 H1 locs ht hvm hw hB hz1 hk1 hS => ?_)
                obtain ⟨f_15, hf_x_16, hP1, hK1, hD1⟩ := hB
                rw [ht] at hP1
                have hK1 := va_K.moved hvm.symm hK1
                obtain ⟨hP, hD⟩ := va_joinP (X := []) (cx := []) (wr := []) (rx := []) (pl := va_pl L f_3) (pl1 := va_pl L f_15) hP hD [] [] rfl rfl (by decide) (by decide) hk1 hFc hP1 hD1
                have hT := hf_x_16
                generalize H1 = H at hP hS ⊢
                have hP : va_P (dC, dI) vwCl ([] ++ va_pl L f_15) H := hP
                have hD : va_D A ([] ++ va_pl L f_15) := hD
                refine W.widen (k := 0) (n := 0) (Nat.le_of_ble_eq_true rfl) (Nat.le_of_ble_eq_true rfl) ?_
                refine lv_aload_n hx hb dX1_leastPains_46 rfl (lv_at hl 0 rfl) ?_
                have hPc := hP.part (cx := []) [] rfl
                have hDc := hD.part (cx := []) [] (by decide) rfl
                have hKc := hK
                obtain ⟨o_18, o_19, o_20, o_21, hf_17, hk_o_18, hk_o_19, hk_o_20, hk_o_21⟩ := hT.get hk_h0
                obtain ⟨q_22, hq_22⟩ := pl_at (X := []) (f := f_15) (e := .inr (1, [.ref o_18, .ref o_19, .ref o_20, .ref o_21])) hk_h0.1 hf_17
                refine cs_i (va_runV (As := []) (rest := []) ⟨hx, hb, hml, hown, hts⟩ (t_X1_nearestShort l dC dI cs L ka f_15 h0 H.size hT hk_h0) (cwV 0 hts gX1_leastPains_X1_nearestShort rfl rfl rfl (by decide +kernel) ⟨Nat.le_of_ble_eq_true rfl, Nat.le_of_ble_eq_true rfl⟩) ⟨c_blind, va_recv hKc hPc (ci := 1) (q0 := q_22) rfl hq_22, c_pre hPc hKc hDc hN⟩ rfl rfl hl.1 rfl (lv_room (Nat.le_of_ble_eq_true rfl)) dX1_leastPains_47 ⟨Nat.le_of_ble_eq_true rfl, Nat.le_of_ble_eq_true rfl⟩) (fun r_23 hr_23 => ?_)
                refine lv_istore (lv' := [(4, .int r_23), (0, .ref h0), (1, .ref e1), (2, .int x2), (3, .int (nI j))]) hx hb dX1_leastPains_50 hl (by decide) rfl (fun ls hl => ?_)
                refine lv_iload hx hb dX1_leastPains_52 (lv_at hl 0 rfl) ?_
                have hPc := hP.sub (ws' := []) [] rfl
                have hDc := hD.sub (ws' := []) [] (by decide) rfl
                have hKc := hK.sub (tys' := []) [] rfl
                refine cs_i (va_runSN (As := [.int r_23]) (rest := []) ⟨hx, hb, hml, hown, hts⟩ (c_X8_isStation l dC dI r_23 H.size) ⟨va_cnB 1 hts ggX1_leastPains_X8_isStation rfl rfl rfl (hN.1 (.methodLinkNest RX1 26 yX8_isStation "YamRiders") (by decide +kernel)) (hts (.initialized RX8) (by decide +kernel)) (by decide +kernel) ⟨Nat.le_of_ble_eq_true rfl, Nat.le_of_ble_eq_true rfl⟩, hts (.static yX8_isStation) (by decide +kernel), trivial⟩ ⟨c_blind, c_pre hPc hKc hDc hN⟩ rfl rfl hl.1 rfl (lv_room (Nat.le_of_ble_eq_true rfl)) dX1_leastPains_54 ⟨Nat.le_of_ble_eq_true rfl, Nat.le_of_ble_eq_true rfl⟩) (fun r_24 hr_24 => ?_)
                subst hr_24
                refine lv_if_ne (tgt := 63) hx hb dX1_leastPains_57 (by decide) (fun c_25 => ?_) (fun c_25 => ?_)
                · refine lv_aload_n hx hb dX1_leastPains_63 rfl (lv_at hl 1 rfl) ?_
                  refine lv_iload hx hb dX1_leastPains_64 (lv_at hl 0 rfl) ?_
                  have hPc := hP.part (cx := []) [] rfl
                  have hDc := hD.part (cx := []) [] (by decide) rfl
                  have hKc := hK
                  obtain ⟨q_26, hq_26⟩ := pl_at (X := []) (f := f_15) (e := .inr (1, [.ref o_18, .ref o_19, .ref o_20, .ref o_21])) hk_h0.1 hf_17
                  refine cs_i (va_runV (As := [.int r_23]) (rest := []) ⟨hx, hb, hml, hown, hts⟩ (t_X1_horsesAlong l dC dI cs L ka f_15 h0 r_23 H.size hT hk_h0) (cwV 1 hts gX1_leastPains_X1_horsesAlong rfl rfl rfl (by decide +kernel) ⟨Nat.le_of_ble_eq_true rfl, Nat.le_of_ble_eq_true rfl⟩) ⟨c_blind, va_recv hKc hPc (ci := 1) (q0 := q_26) rfl hq_26, c_pre hPc hKc hDc hN⟩ rfl rfl hl.1 rfl (lv_room (Nat.le_of_ble_eq_true rfl)) dX1_leastPains_66 ⟨Nat.le_of_ble_eq_true rfl, Nat.le_of_ble_eq_true rfl⟩) (fun r_27 hr_27 => ?_)
                  refine lv_istore (lv' := [(5, .int r_27), (4, .int r_23), (0, .ref h0), (1, .ref e1), (2, .int x2), (3, .int (nI j))]) hx hb dX1_leastPains_69 hl (by decide) rfl (fun ls hl => ?_)
                  refine lv_iload_n hx hb dX1_leastPains_71 rfl (lv_at hl 4 rfl) ?_
                  refine lv_iload hx hb dX1_leastPains_72 (lv_at hl 0 rfl) ?_
                  refine lv_aload_n hx hb dX1_leastPains_74 rfl (lv_at hl 2 rfl) ?_
                  obtain ⟨q_28, hq_28⟩ := pl_at (X := []) (f := f_15) (e := .inr (1, [.ref o_18, .ref o_19, .ref o_20, .ref o_21])) hk_h0.1 hf_17
                  refine va_get (D := (dC, dI)) (ci := 1) (v := .ref o_20) (C := RX1) (T := TX1) (N := 4) hx hb hts hin1 hown hK hP q_28 hq_28 rfl 2 (by decide) (hts (.fieldLink RX1 20 "YamRiders$Leader" "pains" "[I") (by decide +kernel)) (fun _ h9 => h9) rfl dX1_leastPains_75 ?_
                  refine lv_iload hx hb dX1_leastPains_78 (lv_at hl 1 rfl) ?_
                  obtain ⟨g_30, hf_29⟩ := hT.get hk_o_20
                  obtain ⟨q_31, hq_31⟩ := pl_at (X := []) (f := f_15) (e := .inl (cs 0, 12, .inl g_30)) hk_o_20.1 hf_29
                  refine va_iald hx hb hK hP q_31 0 hq_31 rfl (st_in c_25) dX1_leastPains_80 ?_
                  refine lv_topi (fun v_32 ev_32 => ?_)
                  refine lv_imul hx hb dX1_leastPains_81 ?_
                  refine lv_topi (fun v_33 ev_33 => ?_)
                  refine lv_iadd hx hb dX1_leastPains_82 ?_
                  refine lv_topi (fun v_34 ev_34 => ?_)
                  refine lv_istore_n (lv' := [(2, .int v_34), (5, .int r_27), (4, .int r_23), (0, .ref h0), (1, .ref e1), (3, .int (nI j))]) hx hb dX1_leastPains_83 rfl hl (by decide) rfl (fun ls hl => ?_)
                  refine lv_aload_n hx hb dX1_leastPains_84 rfl (lv_at hl 3 rfl) ?_
                  refine lv_iload hx hb dX1_leastPains_85 (lv_at hl 2 rfl) ?_
                  refine lv_iload hx hb dX1_leastPains_87 (lv_at hl 1 rfl) ?_
                  have hPc := hP.part (cx := []) [] rfl
                  have hDc := hD.part (cx := []) [] (by decide) rfl
                  have hKc := hK
                  have hFc := va_freeP (cx := []) hD hS hA [] rfl
                  obtain ⟨q_35, hq_35⟩ := pl_at (X := []) (f := f_15) (e := .inr (1, [.ref o_18, .ref o_19, .ref o_20, .ref o_21])) hk_h0.1 hf_17
                  refine va_callv (va_runV (As := [.int r_23, .int r_27]) (rest := []) ⟨hx, hb, hml, hown, hts⟩ (t_X1_leadAlong l dC dI cs L ka f_15 h0 r_23 r_27 H.size hT hk_h0) (cwV 2 hts gX1_leastPains_X1_leadAlong rfl rfl rfl (by decide +kernel) ⟨Nat.le_of_ble_eq_true rfl, Nat.le_of_ble_eq_true rfl⟩) ⟨c_blind, va_recv hKc hPc (ci := 1) (q0 := q_35) rfl hq_35, c_pre hPc hKc hDc hN⟩ rfl rfl hl.1 rfl (lv_room (Nat.le_of_ble_eq_true rfl)) dX1_leastPains_89 ⟨Nat.le_of_ble_eq_true rfl, Nat.le_of_ble_eq_true rfl⟩) hS (fun q _ h => hFc q h) hFc (fun u9 t9 H1 locs ht hvm hw hB hz1 hk1 hS => ?_)
                  obtain ⟨f_37, hf_x_38, hP1, hK1, hD1⟩ := hB
                  rw [ht] at hP1
                  have hK1 := va_K.moved hvm.symm hK1
                  obtain ⟨hP, hD⟩ := va_joinP (X := []) (cx := []) (wr := []) (rx := []) (pl := va_pl L f_15) (pl1 := va_pl L f_37) hP hD [] [] rfl rfl (by decide) (by decide) hk1 hFc hP1 hD1
                  have hT := hf_x_38
                  generalize H1 = H at hP hS ⊢
                  have hP : va_P (dC, dI) vwCl ([] ++ va_pl L f_37) H := hP
                  have hD : va_D A ([] ++ va_pl L f_37) := hD
                  refine W.widen (k := 0) (n := 0) (Nat.le_of_ble_eq_true rfl) (Nat.le_of_ble_eq_true rfl) ?_
                  refine lv_iinc (v := nI (j + 1)) (lv' := [(3, .int (nI (j + 1))), (2, .int v_34), (5, .int r_27), (4, .int r_23), (0, .ref h0), (1, .ref e1)]) hx hb dX1_leastPains_92 hl (k := 5) rfl (by exact (nI_1 j)) (by decide) rfl (fun ls hl => ?_)
                  refine lv_goto (tgt := 28) hx hb dX1_leastPains_95 (by decide) ?_
                  have hj9 : j ≤ 60 := gt_n (n := 60) c_4 (by decide) (by omega)
                  exact ih_j (j + 1) v_34 (by omega) (by omega) _ _ _ hT (hP.part (cx := _) [] rfl) (hD.part (cx := _) [] (by decide) rfl) hS ls (lv_sub hl [4, 5, 1, 0] rfl)
                · refine lv_bipush (v := (-2)) hx hb dX1_leastPains_60 (by decide) ?_
                  have hP9 := hP.part (cx := []) [] rfl
                  have hD9 := hD.part (cx := []) [] (by decide) rfl
                  have hK9 := hK.sub (tys' := []) [] rfl
                  refine W.widen (k := 0) (n := 0) (Nat.le_of_ble_eq_true rfl) (Nat.le_of_ble_eq_true rfl) ?_
                  exact W.iret (v := (-2)) hx hb hr (fun t9 ht hW => ⟨⟨_, (), rfl, trivial, f_15, hT, by rw [ht]; exact hP9, va_K.moved hW.alike hK9, hD9⟩, hS.F ht⟩) hS.2.2 dX1_leastPains_62
        exact HL_j 62 0 0 (by omega) (by omega) _ _ _ hT (hP.part (cx := _) [] rfl) (hD.part (cx := _) [] (by decide) rfl) hS ls (lv_sub hl [2, 3, 1, 0] rfl)
      · have hlt : k < 12 := by
          rcases Nat.lt_or_ge k 12 with q | q
          · exact q
          · exact absurd (show nI 12 ≤ nI k from nI_le q (by omega)) c_2
        refine lv_aload_n hx hb dX1_leastPains_8 rfl (lv_at hl 0 rfl) ?_
        obtain ⟨o_40, o_41, o_42, o_43, hf_39, hk_o_40, hk_o_41, hk_o_42, hk_o_43⟩ := hT.get hk_h0
        obtain ⟨q_44, hq_44⟩ := pl_at (X := []) (f := f_1) (e := .inr (1, [.ref o_40, .ref o_41, .ref o_42, .ref o_43])) hk_h0.1 hf_39
        refine va_get (D := (dC, dI)) (ci := 1) (v := .ref o_41) (C := RX1) (T := TX1) (N := 4) hx hb hts hin1 hown hK hP q_44 hq_44 rfl 1 (by decide) (hts (.fieldLink RX1 17 "YamRiders$Leader" "led" "[[I") (by decide +kernel)) (fun _ h9 => h9) rfl dX1_leastPains_9 ?_
        refine lv_iload_n hx hb dX1_leastPains_12 rfl (lv_at hl 2 rfl) ?_
        obtain ⟨g_46, hf_45, hr_47⟩ := hT.get hk_o_41
        obtain ⟨q_48, hq_48⟩ := pl_at (X := []) (f := f_1) (e := .inl (cs 2, 12, .inr (.inr (.inr (.inr g_46))))) hk_o_41.1 hf_45
        obtain ⟨o_49, hr_o_49, hk_o_49⟩ := hr_47 (nI k).toNatClampNeg (in_lt (vp_in_nI hlt (by decide)))
        refine va_aldg hx hb hK hP q_48 2 hq_48 rfl (vp_in_nI hlt (by decide)) hr_o_49 dX1_leastPains_13 ?_
        refine lv_iconst (v := 0) hx hb dX1_leastPains_14 (by decide) ?_
        have hPc := hP.part (cx := []) [] rfl
        have hDc := hD.part (cx := []) [] (by decide) rfl
        have hKc := hK
        have hFc := va_freeP (cx := []) hD hS hA [] rfl
        refine va_callv (va_runS (As := [.ref o_49, .int 0]) (rest := []) ⟨hx, hb, hml, hown, hts⟩ (t_J7_fill l dC dI cs L ka f_1 o_49 0 H.size hT hk_o_49) (va_cwS 2 hts gX1_leastPains_J7_fill_53178 rfl rfl rfl (by decide +kernel) ⟨Nat.le_of_ble_eq_true rfl, Nat.le_of_ble_eq_true rfl⟩) ⟨c_blind, c_pre hPc hKc hDc hN⟩ rfl rfl hl.1 rfl (lv_room (Nat.le_of_ble_eq_true rfl)) dX1_leastPains_15 ⟨Nat.le_of_ble_eq_true rfl, Nat.le_of_ble_eq_true rfl⟩) hS (fun q _ h => hFc q h) hFc (fun u9 t9 H1 locs ht hvm hw hB hz1 hk1 hS => ?_)
        obtain ⟨f_51, hf_x_52, hP1, hK1, hD1⟩ := hB
        rw [ht] at hP1
        have hK1 := va_K.moved hvm.symm hK1
        obtain ⟨hP, hD⟩ := va_joinP (X := []) (cx := []) (wr := []) (rx := []) (pl := va_pl L f_1) (pl1 := va_pl L f_51) hP hD [] [] rfl rfl (by decide) (by decide) hk1 hFc hP1 hD1
        have hT := hf_x_52
        generalize H1 = H at hP hS ⊢
        have hP : va_P (dC, dI) vwCl ([] ++ va_pl L f_51) H := hP
        have hD : va_D A ([] ++ va_pl L f_51) := hD
        refine W.widen (k := 0) (n := 0) (Nat.le_of_ble_eq_true rfl) (Nat.le_of_ble_eq_true rfl) ?_
        refine lv_iinc (v := nI (k + 1)) (lv' := [(2, .int (nI (k + 1))), (0, .ref h0), (1, .ref e1)]) hx hb dX1_leastPains_18 hl (k := 2) rfl (by exact (nI_1 k)) (by decide) rfl (fun ls hl => ?_)
        refine lv_goto (tgt := 2) hx hb dX1_leastPains_21 (by decide) ?_
        exact ih (k + 1) (by omega) (by omega) _ _ _ hT (hP.part (cx := _) [] rfl) (hD.part (cx := _) [] (by decide) rfl) hS ls (lv_sub hl [1, 2, 0] rfl)
  exact HL 13 0 (by omega) (by omega) _ _ _ hT (hP.part (cx := []) [] rfl) (hD.part (cx := []) [] (by decide) rfl) hS ls (lv_sub hl [1, 2, 0] rfl)
