theorem gt_n {k n : Nat} (h : ¬ nI n < nI k) (hn : n < 2 ^ 31) (hk : k < 2 ^ 31) : k ≤ n := (nI_leI hk hn).mp (Int32.not_lt.mp h)

set_option maxHeartbeats 4000000 in
set_option maxRecDepth 100000 in
theorem t_J7_fill (l : Launch) (dC : Nat → ClassId) (dI : Nat → Nat → Nat) (cs : Nat → ClassId) (L : List Nat) (ka : Nat → Nat) (f : Nat → va_E) (b1 : Nat) (p0 : Int32) (sz : Nat) (hT : tO L ka cs f) (hk_b1 : tp L ka 10 b1) : Met l yJ7_fill_53178 wsJ7_fill_53178 ({ frames := 0, cells := 0, slots := 0, locals := 0 }) (va_Pc [.ref b1, .int p0] (cP dC dI ([] ++ va_pl L f) (tyC cs) sz)) (va_Qv (fun (_ : Unit) => True) (fun (_ : Unit) t9 => ∃ (f2 : Nat → va_E), (tO L ka cs f2) ∧ cQ dC dI ([] ++ va_pl L f2) [] (va_A ([] ++ va_pl L f) sz) t9) (va_A ([] ++ va_pl L f) sz)) 0 0 (va_A ([] ++ va_pl L f) sz) := by
  refine Met.ofW (cc := cJ7_fill_53178) (maxL := 4) (ret := none) (by decide) rfl ?_
  intro p e s m args below meth c s₁ B hml hv
  obtain ⟨rfl, hsz, hP, hK, hD0, hN⟩ := hv
  have hx := B.exec
  have hb := B.bytes
  have hr := B.returns
  have hts := atoms_spec (ws := wsJ7_fill_53178) B.pre
  have hown : s.vm.findClass RJ7 = some m.cls := findClass_of_methodNamed B.named
  have hlocks := B.notSynchronized
  subst hsz
  have hD := hD0.self (sz := s.heap.size)
  generalize hAe : va_A ([] ++ va_pl L f) s.heap.size = A at hD ⊢
  have hA : ∀ q : Nat, s.heap.size ≤ q → A q := fun q h => by rw [← hAe]; exact Or.inr h
  have hS : va_S A s.heap s.heap [] := va_S.rf
  have hP : va_P (dC, dI) vwCl ([] ++ va_pl L f) s.heap := hP
  have hl := lv_entry ([.ref b1, .int p0]) (n := 4) (Nat.le_of_ble_eq_true rfl)
  rw [lg_entry_eq]
  generalize (lg_sl ([.ref b1, .int p0]) ++ List.replicate (4 - (lg_sl ([.ref b1, .int p0])).length) Slot.unset).toArray = ls at hl ⊢
  have hl : lv_has ls 4 [(0, .ref b1), (1, .int p0)] := hl
  refine lv_iconst (v := 0) hx hb dJ7_fill_53178_0 (by decide) ?_
  refine lv_istore_n (lv' := [(2, .int 0), (0, .ref b1), (1, .int p0)]) hx hb dJ7_fill_53178_1 rfl hl (by decide) rfl (fun ls hl => ?_)
  refine lv_aload_n hx hb dJ7_fill_53178_2 rfl (lv_at hl 1 rfl) ?_
  obtain ⟨g_2, hf_1⟩ := hT.get hk_b1
  obtain ⟨q_3, hq_3⟩ := pl_at (X := []) (f := f) (e := .inl (cs 0, 12, .inl g_2)) hk_b1.1 hf_1
  refine va_alen (v := 12) hx hb hK hP q_3 0 hq_3 rfl rfl dJ7_fill_53178_3 ?_
  refine lv_istore_n (lv' := [(3, .int 12), (2, .int 0), (0, .ref b1), (1, .int p0)]) hx hb dJ7_fill_53178_4 rfl hl (by decide) rfl (fun ls hl => ?_)
  have HL : ∀ (n k : Nat), k ≤ 12 → 12 + 1 ≤ k + n → ∀ (f_4 : Nat → va_E) (H : Heap) (locs : List Loc), tO L ka cs f_4 → va_P (dC, dI) vwCl ([] ++ va_pl L f_4) H → va_D A ([] ++ va_pl L f_4) → va_S A s.heap H locs → ∀ ls : Array Slot, lv_has ls 4 [(0, .ref b1), (1, .int p0), (2, .int (nI k)), (3, .int 12)] → W p l e (headSpec wsJ7_fill_53178 ({ frames := 0, cells := 0, slots := 0, locals := 0 })).room s m ([.ref b1, .int p0]).toArray below meth c H locs 0 0 (MQ below (va_Qv (fun (_ : Unit) => True) (fun (_ : Unit) t9 => ∃ (f2 : Nat → va_E), (tO L ka cs f2) ∧ cQ dC dI ([] ++ va_pl L f2) [] A t9) A) ([.ref b1, .int p0]).toArray s 0 0 A) (F0 m 5 ls []) := by
    intro n
    induction n with
    | zero => intro k h1 h2; exact absurd h2 (by omega)
    | succ n ih =>
      intro k hk hn f_4 H locs hT hP hD hS ls hl
      refine lv_iload_n hx hb dJ7_fill_53178_5 rfl (lv_at hl 2 rfl) ?_
      refine lv_iload_n hx hb dJ7_fill_53178_6 rfl (lv_at hl 3 rfl) ?_
      refine lv_icmp_ge (tgt := 20) hx hb dJ7_fill_53178_7 (by decide) (fun c_5 => ?_) (fun c_5 => ?_)
      · have hke : k = 12 := by
          rcases Nat.lt_or_ge k 12 with q | q
          · exact absurd c_5 (nI_ge q (by decide))
          · omega
        have hP9 := hP.part (cx := []) [] rfl
        have hD9 := hD.part (cx := []) [] (by decide) rfl
        have hK9 := hK.sub (tys' := []) [] rfl
        refine W.widen (k := 0) (n := 0) (Nat.le_of_ble_eq_true rfl) (Nat.le_of_ble_eq_true rfl) ?_
        exact W.vret hx hb hr (fun t9 ht hW => ⟨⟨(), rfl, trivial, f_4, hT, by rw [ht]; exact hP9, va_K.moved hW.alike hK9, hD9⟩, hS.F ht⟩) hS.2.2 dJ7_fill_53178_20
      · have hlt : k < 12 := by
          rcases Nat.lt_or_ge k 12 with q | q
          · exact q
          · exact absurd (show nI 12 ≤ nI k from nI_le q (by omega)) c_5
        refine lv_aload_n hx hb dJ7_fill_53178_10 rfl (lv_at hl 0 rfl) ?_
        refine lv_iload_n hx hb dJ7_fill_53178_11 rfl (lv_at hl 2 rfl) ?_
        refine lv_iload_n hx hb dJ7_fill_53178_12 rfl (lv_at hl 1 rfl) ?_
        obtain ⟨g_7, hf_6⟩ := hT.get hk_b1
        obtain ⟨q_8, hq_8⟩ := pl_at (X := []) (f := f_4) (e := .inl (cs 0, 12, .inl g_7)) hk_b1.1 hf_6
        refine va_iast hx hb hK hP hD hS q_8 0 hq_8 rfl (vp_in_nI hlt (by decide)) dJ7_fill_53178_13 (fun H locs hP9 hD9 hS => ?_)
        have hs_9 := pl_st (.inl (cs 0, 12, .inl (upd g_7 (nI k).toNatClampNeg p0))) hD hk_b1.1 hf_6 hq_8
        have hP9 : va_P (dC, dI) vwCl ((([] : va_W) ++ va_pl L f_4).set q_8 (b1, .inl (cs 0, 12, .inl (upd g_7 (nI k).toNatClampNeg p0)))) H := hP9
        have hD9 : va_D A ((([] : va_W) ++ va_pl L f_4).set q_8 (b1, .inl (cs 0, 12, .inl (upd g_7 (nI k).toNatClampNeg p0)))) := hD9
        rw [hs_9] at hP9 hD9
        have hT := hT.put (e := .inl (cs 0, 12, .inl (upd g_7 (nI k).toNatClampNeg p0))) hk_b1 ⟨_, rfl⟩
        have hf_10 : va_up f_4 b1 (.inl (cs 0, 12, .inl (upd g_7 (nI k).toNatClampNeg p0))) b1 = .inl (cs 0, 12, .inl (upd g_7 (nI k).toNatClampNeg p0)) := va_up_self _ _ _
        have hP := hP9
        have hD := hD9
        clear hP9 hD9 hs_9
        generalize va_up f_4 b1 (.inl (cs 0, 12, .inl (upd g_7 (nI k).toNatClampNeg p0))) = f_11 at hP hD hT hf_10
        generalize upd g_7 (nI k).toNatClampNeg p0 = g_12 at hf_10
        refine lv_iinc (v := nI (k + 1)) (lv' := [(2, .int (nI (k + 1))), (0, .ref b1), (1, .int p0), (3, .int 12)]) hx hb dJ7_fill_53178_14 hl (k := 2) rfl (by exact (nI_1 k)) (by decide) rfl (fun ls hl => ?_)
        refine lv_goto (tgt := 5) hx hb dJ7_fill_53178_17 (by decide) ?_
        exact ih (k + 1) (by omega) (by omega) _ _ _ hT (hP.part (cx := _) [] rfl) (hD.part (cx := _) [] (by decide) rfl) hS ls (lv_sub hl [1, 2, 0, 3] rfl)
  exact HL 13 0 (by omega) (by omega) _ _ _ hT (hP.part (cx := []) [] rfl) (hD.part (cx := []) [] (by decide) rfl) hS ls (lv_sub hl [2, 3, 1, 0] rfl)

set_option maxHeartbeats 4000000 in
set_option maxRecDepth 100000 in
theorem t_X3_setSnow (l : Launch) (dC : Nat → ClassId) (dI : Nat → Nat → Nat) (cs : Nat → ClassId) (L : List Nat) (ka : Nat → Nat) (f : Nat → va_E) (h0 : Nat) (p0 : Int32) (p1 : Int32) (p2 : Int32) (sz : Nat) (hT : tO L ka cs f) (hk_h0 : tp L ka 3 h0) : Met l yX3_setSnow wsX3_setSnow ({ frames := 1, cells := 0, slots := 0, locals := 20 }) (va_Pc [.ref h0, .int p0, .int p1, .int p2] (cP dC dI ([] ++ va_pl L f) (tyC cs) sz)) (va_Qv (fun (_ : Unit) => True) (fun (_ : Unit) t9 => ∃ (f2 : Nat → va_E), (tO L ka cs f2) ∧ cQ dC dI ([] ++ va_pl L f2) [] (va_A ([] ++ va_pl L f) sz) t9) (va_A ([] ++ va_pl L f) sz)) 0 0 (va_A ([] ++ va_pl L f) sz) := by
  refine Met.ofW (cc := cX3_setSnow) (maxL := 4) (ret := none) (by decide) rfl ?_
  intro p e s m args below meth c s₁ B hml hv
  obtain ⟨rfl, hsz, hP, hK, hD0, hN⟩ := hv
  have hx := B.exec
  have hb := B.bytes
  have hr := B.returns
  have hts := atoms_spec (ws := wsX3_setSnow) B.pre
  have hown : s.vm.findClass RX3 = some m.cls := findClass_of_methodNamed B.named
  have hlocks := B.notSynchronized
  subst hsz
  have hin3 : ∀ w ∈ u_ws RX3 TX3 5, w ∈ wsX3_setSnow := by decide +kernel
  have hD := hD0.self (sz := s.heap.size)
  generalize hAe : va_A ([] ++ va_pl L f) s.heap.size = A at hD ⊢
  have hA : ∀ q : Nat, s.heap.size ≤ q → A q := fun q h => by rw [← hAe]; exact Or.inr h
  have hS : va_S A s.heap s.heap [] := va_S.rf
  have hP : va_P (dC, dI) vwCl ([] ++ va_pl L f) s.heap := hP
  have hl := lv_entry ([.ref h0, .int p0, .int p1, .int p2]) (n := 4) (Nat.le_of_ble_eq_true rfl)
  rw [lg_entry_eq]
  generalize (lg_sl ([.ref h0, .int p0, .int p1, .int p2]) ++ List.replicate (4 - (lg_sl ([.ref h0, .int p0, .int p1, .int p2])).length) Slot.unset).toArray = ls at hl ⊢
  have hl : lv_has ls 4 [(0, .ref h0), (1, .int p0), (2, .int p1), (3, .int p2)] := hl
  refine lv_iload_n hx hb dX3_setSnow_0 rfl (lv_at hl 1 rfl) ?_
  have hPc := hP.sub (ws' := []) [] rfl
  have hDc := hD.sub (ws' := []) [] (by decide) rfl
  have hKc := hK.sub (tys' := []) [] rfl
  refine cs_i (va_runSN (As := [.int p0]) (rest := []) ⟨hx, hb, hml, hown, hts⟩ (c_X8_isStation l dC dI p0 s.heap.size) ⟨va_cnB 1 hts ggX3_setSnow_X8_isStation rfl rfl rfl (hN.1 (.methodLinkNest RX3 30 yX8_isStation "YamRiders") (by decide +kernel)) (hts (.initialized RX8) (by decide +kernel)) (by decide +kernel) ⟨Nat.le_of_ble_eq_true rfl, Nat.le_of_ble_eq_true rfl⟩, hts (.static yX8_isStation) (by decide +kernel), trivial⟩ ⟨c_blind, c_pre hPc hKc hDc hN⟩ rfl rfl hl.1 rfl (lv_room (Nat.le_of_ble_eq_true rfl)) dX3_setSnow_1 ⟨Nat.le_of_ble_eq_true rfl, Nat.le_of_ble_eq_true rfl⟩) (fun r_1 hr_1 => ?_)
  subst hr_1
  refine lv_if_eq (tgt := 32) hx hb dX3_setSnow_4 (by decide) (fun c_2 => ?_) (fun c_2 => ?_)
  · have hP9 := hP.part (cx := []) [] rfl
    have hD9 := hD.part (cx := []) [] (by decide) rfl
    have hK9 := hK.sub (tys' := []) [] rfl
    refine W.widen (k := 0) (n := 0) (Nat.le_of_ble_eq_true rfl) (Nat.le_of_ble_eq_true rfl) ?_
    exact W.vret hx hb hr (fun t9 ht hW => ⟨⟨(), rfl, trivial, f, hT, by rw [ht]; exact hP9, va_K.moved hW.alike hK9, hD9⟩, hS.F ht⟩) hS.2.2 dX3_setSnow_32
  · refine lv_iload_n hx hb dX3_setSnow_7 rfl (lv_at hl 2 rfl) ?_
    have hPc := hP.sub (ws' := []) [] rfl
    have hDc := hD.sub (ws' := []) [] (by decide) rfl
    have hKc := hK.sub (tys' := []) [] rfl
    refine cs_i (va_runSN (As := [.int p1]) (rest := []) ⟨hx, hb, hml, hown, hts⟩ (c_X8_isStation l dC dI p1 s.heap.size) ⟨va_cnB 1 hts ggX3_setSnow_X8_isStation rfl rfl rfl (hN.1 (.methodLinkNest RX3 30 yX8_isStation "YamRiders") (by decide +kernel)) (hts (.initialized RX8) (by decide +kernel)) (by decide +kernel) ⟨Nat.le_of_ble_eq_true rfl, Nat.le_of_ble_eq_true rfl⟩, hts (.static yX8_isStation) (by decide +kernel), trivial⟩ ⟨c_blind, c_pre hPc hKc hDc hN⟩ rfl rfl hl.1 rfl (lv_room (Nat.le_of_ble_eq_true rfl)) dX3_setSnow_8 ⟨Nat.le_of_ble_eq_true rfl, Nat.le_of_ble_eq_true rfl⟩) (fun r_3 hr_3 => ?_)
    subst hr_3
    refine lv_if_eq (tgt := 32) hx hb dX3_setSnow_11 (by decide) (fun c_4 => ?_) (fun c_4 => ?_)
    · have hP9 := hP.part (cx := []) [] rfl
      have hD9 := hD.part (cx := []) [] (by decide) rfl
      have hK9 := hK.sub (tys' := []) [] rfl
      refine W.widen (k := 0) (n := 0) (Nat.le_of_ble_eq_true rfl) (Nat.le_of_ble_eq_true rfl) ?_
      exact W.vret hx hb hr (fun t9 ht hW => ⟨⟨(), rfl, trivial, f, hT, by rw [ht]; exact hP9, va_K.moved hW.alike hK9, hD9⟩, hS.F ht⟩) hS.2.2 dX3_setSnow_32
    · refine lv_aload_n hx hb dX3_setSnow_14 rfl (lv_at hl 0 rfl) ?_
      obtain ⟨o_6, o_7, o_8, o_9, o_10, hf_5, hk_o_6, hk_o_7, hk_o_8, hk_o_9, hk_o_10⟩ := hT.get hk_h0
      obtain ⟨q_11, hq_11⟩ := pl_at (X := []) (f := f) (e := .inr (3, [.ref o_6, .ref o_7, .ref o_8, .ref o_9, .ref o_10])) hk_h0.1 hf_5
      refine va_get (D := (dC, dI)) (ci := 3) (v := .ref o_7) (C := RX3) (T := TX3) (N := 5) hx hb hts hin3 hown hK hP q_11 hq_11 rfl 1 (by decide) (hts (.fieldLink RX3 16 "YamRiders$Roads" "snowOn" "[[I") (by decide +kernel)) (fun _ h9 => h9) rfl dX3_setSnow_15 ?_
      refine lv_iload_n hx hb dX3_setSnow_18 rfl (lv_at hl 1 rfl) ?_
      obtain ⟨g_13, hf_12, hr_14⟩ := hT.get hk_o_7
      obtain ⟨q_15, hq_15⟩ := pl_at (X := []) (f := f) (e := .inl (cs 2, 12, .inr (.inr (.inr (.inr g_13))))) hk_o_7.1 hf_12
      obtain ⟨o_16, hr_o_16, hk_o_16⟩ := hr_14 p0.toNatClampNeg (in_lt (st_in c_2))
      refine va_aldg hx hb hK hP q_15 2 hq_15 rfl (st_in c_2) hr_o_16 dX3_setSnow_19 ?_
      refine lv_iload_n hx hb dX3_setSnow_20 rfl (lv_at hl 2 rfl) ?_
      refine lv_iload_n hx hb dX3_setSnow_21 rfl (lv_at hl 3 rfl) ?_
      obtain ⟨g_18, hf_17⟩ := hT.get hk_o_16
      obtain ⟨q_19, hq_19⟩ := pl_at (X := []) (f := f) (e := .inl (cs 0, 12, .inl g_18)) hk_o_16.1 hf_17
      refine va_iast hx hb hK hP hD hS q_19 0 hq_19 rfl (st_in c_4) dX3_setSnow_22 (fun H locs hP9 hD9 hS => ?_)
      have hs_20 := pl_st (.inl (cs 0, 12, .inl (upd g_18 p1.toNatClampNeg p2))) hD hk_o_16.1 hf_17 hq_19
      have hP9 : va_P (dC, dI) vwCl ((([] : va_W) ++ va_pl L f).set q_19 (o_16, .inl (cs 0, 12, .inl (upd g_18 p1.toNatClampNeg p2)))) H := hP9
      have hD9 : va_D A ((([] : va_W) ++ va_pl L f).set q_19 (o_16, .inl (cs 0, 12, .inl (upd g_18 p1.toNatClampNeg p2)))) := hD9
      rw [hs_20] at hP9 hD9
      have hT := hT.put (e := .inl (cs 0, 12, .inl (upd g_18 p1.toNatClampNeg p2))) hk_o_16 ⟨_, rfl⟩
      have hf_21 : va_up f o_16 (.inl (cs 0, 12, .inl (upd g_18 p1.toNatClampNeg p2))) o_16 = .inl (cs 0, 12, .inl (upd g_18 p1.toNatClampNeg p2)) := va_up_self _ _ _
      have hP := hP9
      have hD := hD9
      clear hP9 hD9 hs_20
      generalize va_up f o_16 (.inl (cs 0, 12, .inl (upd g_18 p1.toNatClampNeg p2))) = f_22 at hP hD hT hf_21
      generalize upd g_18 p1.toNatClampNeg p2 = g_23 at hf_21
      refine lv_aload_n hx hb dX3_setSnow_23 rfl (lv_at hl 0 rfl) ?_
      obtain ⟨o_25, o_26, o_27, o_28, o_29, hf_24, hk_o_25, hk_o_26, hk_o_27, hk_o_28, hk_o_29⟩ := hT.get hk_h0
      obtain ⟨q_30, hq_30⟩ := pl_at (X := []) (f := f_22) (e := .inr (3, [.ref o_25, .ref o_26, .ref o_27, .ref o_28, .ref o_29])) hk_h0.1 hf_24
      refine va_get (D := (dC, dI)) (ci := 3) (v := .ref o_26) (C := RX3) (T := TX3) (N := 5) hx hb hts hin3 hown hK hP q_30 hq_30 rfl 1 (by decide) (hts (.fieldLink RX3 16 "YamRiders$Roads" "snowOn" "[[I") (by decide +kernel)) (fun _ h9 => h9) rfl dX3_setSnow_24 ?_
      refine lv_iload_n hx hb dX3_setSnow_27 rfl (lv_at hl 2 rfl) ?_
      obtain ⟨g_32, hf_31, hr_33⟩ := hT.get hk_o_26
      obtain ⟨q_34, hq_34⟩ := pl_at (X := []) (f := f_22) (e := .inl (cs 2, 12, .inr (.inr (.inr (.inr g_32))))) hk_o_26.1 hf_31
      obtain ⟨o_35, hr_o_35, hk_o_35⟩ := hr_33 p1.toNatClampNeg (in_lt (st_in c_4))
      refine va_aldg hx hb hK hP q_34 2 hq_34 rfl (st_in c_4) hr_o_35 dX3_setSnow_28 ?_
      refine lv_iload_n hx hb dX3_setSnow_29 rfl (lv_at hl 1 rfl) ?_
      refine lv_iload_n hx hb dX3_setSnow_30 rfl (lv_at hl 3 rfl) ?_
      obtain ⟨g_37, hf_36⟩ := hT.get hk_o_35
      obtain ⟨q_38, hq_38⟩ := pl_at (X := []) (f := f_22) (e := .inl (cs 0, 12, .inl g_37)) hk_o_35.1 hf_36
      refine va_iast hx hb hK hP hD hS q_38 0 hq_38 rfl (st_in c_2) dX3_setSnow_31 (fun H locs hP9 hD9 hS => ?_)
      have hs_39 := pl_st (.inl (cs 0, 12, .inl (upd g_37 p0.toNatClampNeg p2))) hD hk_o_35.1 hf_36 hq_38
      have hP9 : va_P (dC, dI) vwCl ((([] : va_W) ++ va_pl L f_22).set q_38 (o_35, .inl (cs 0, 12, .inl (upd g_37 p0.toNatClampNeg p2)))) H := hP9
      have hD9 : va_D A ((([] : va_W) ++ va_pl L f_22).set q_38 (o_35, .inl (cs 0, 12, .inl (upd g_37 p0.toNatClampNeg p2)))) := hD9
      rw [hs_39] at hP9 hD9
      have hT := hT.put (e := .inl (cs 0, 12, .inl (upd g_37 p0.toNatClampNeg p2))) hk_o_35 ⟨_, rfl⟩
      have hf_40 : va_up f_22 o_35 (.inl (cs 0, 12, .inl (upd g_37 p0.toNatClampNeg p2))) o_35 = .inl (cs 0, 12, .inl (upd g_37 p0.toNatClampNeg p2)) := va_up_self _ _ _
      have hP := hP9
      have hD := hD9
      clear hP9 hD9 hs_39
      generalize va_up f_22 o_35 (.inl (cs 0, 12, .inl (upd g_37 p0.toNatClampNeg p2))) = f_41 at hP hD hT hf_40
      generalize upd g_37 p0.toNatClampNeg p2 = g_42 at hf_40
      have hP9 := hP.part (cx := []) [] rfl
      have hD9 := hD.part (cx := []) [] (by decide) rfl
      have hK9 := hK.sub (tys' := []) [] rfl
      refine W.widen (k := 0) (n := 0) (Nat.le_of_ble_eq_true rfl) (Nat.le_of_ble_eq_true rfl) ?_
      exact W.vret hx hb hr (fun t9 ht hW => ⟨⟨(), rfl, trivial, f_41, hT, by rw [ht]; exact hP9, va_K.moved hW.alike hK9, hD9⟩, hS.F ht⟩) hS.2.2 dX3_setSnow_32

set_option maxHeartbeats 4000000 in
set_option maxRecDepth 100000 in
theorem t_X3_lay (l : Launch) (dC : Nat → ClassId) (dI : Nat → Nat → Nat) (cs : Nat → ClassId) (L : List Nat) (ka : Nat → Nat) (f : Nat → va_E) (h0 : Nat) (p0 : Int32) (p1 : Int32) (p2 : Int32) (sz : Nat) (hT : tO L ka cs f) (hk_h0 : tp L ka 3 h0) : Met l yX3_lay wsX3_lay ({ frames := 2, cells := 0, slots := 0, locals := 43 }) (va_Pc [.ref h0, .int p0, .int p1, .int p2] (cP dC dI ([] ++ va_pl L f) (tyC cs) sz)) (va_Qv (fun (_ : Unit) => True) (fun (_ : Unit) t9 => ∃ (f2 : Nat → va_E), (tO L ka cs f2) ∧ cQ dC dI ([] ++ va_pl L f2) [] (va_A ([] ++ va_pl L f) sz) t9) (va_A ([] ++ va_pl L f) sz)) 0 0 (va_A ([] ++ va_pl L f) sz) := by
  refine Met.ofW (cc := cX3_lay) (maxL := 4) (ret := none) (by decide) rfl ?_
  intro p e s m args below meth c s₁ B hml hv
  obtain ⟨rfl, hsz, hP, hK, hD0, hN⟩ := hv
  have hx := B.exec
  have hb := B.bytes
  have hr := B.returns
  have hts := atoms_spec (ws := wsX3_lay) B.pre
  have hown : s.vm.findClass RX3 = some m.cls := findClass_of_methodNamed B.named
  have hlocks := B.notSynchronized
  subst hsz
  have hin3 : ∀ w ∈ u_ws RX3 TX3 5, w ∈ wsX3_lay := by decide +kernel
  have hD := hD0.self (sz := s.heap.size)
  generalize hAe : va_A ([] ++ va_pl L f) s.heap.size = A at hD ⊢
  have hA : ∀ q : Nat, s.heap.size ≤ q → A q := fun q h => by rw [← hAe]; exact Or.inr h
  have hS : va_S A s.heap s.heap [] := va_S.rf
  have hP : va_P (dC, dI) vwCl ([] ++ va_pl L f) s.heap := hP
  have hl := lv_entry ([.ref h0, .int p0, .int p1, .int p2]) (n := 4) (Nat.le_of_ble_eq_true rfl)
  rw [lg_entry_eq]
  generalize (lg_sl ([.ref h0, .int p0, .int p1, .int p2]) ++ List.replicate (4 - (lg_sl ([.ref h0, .int p0, .int p1, .int p2])).length) Slot.unset).toArray = ls at hl ⊢
  have hl : lv_has ls 4 [(0, .ref h0), (1, .int p0), (2, .int p1), (3, .int p2)] := hl
  refine lv_iload_n hx hb dX3_lay_0 rfl (lv_at hl 1 rfl) ?_
  have hPc := hP.sub (ws' := []) [] rfl
  have hDc := hD.sub (ws' := []) [] (by decide) rfl
  have hKc := hK.sub (tys' := []) [] rfl
  refine cs_i (va_runSN (As := [.int p0]) (rest := []) ⟨hx, hb, hml, hown, hts⟩ (c_X8_isStation l dC dI p0 s.heap.size) ⟨va_cnB 1 hts ggX3_lay_X8_isStation rfl rfl rfl (hN.1 (.methodLinkNest RX3 30 yX8_isStation "YamRiders") (by decide +kernel)) (hts (.initialized RX8) (by decide +kernel)) (by decide +kernel) ⟨Nat.le_of_ble_eq_true rfl, Nat.le_of_ble_eq_true rfl⟩, hts (.static yX8_isStation) (by decide +kernel), trivial⟩ ⟨c_blind, c_pre hPc hKc hDc hN⟩ rfl rfl hl.1 rfl (lv_room (Nat.le_of_ble_eq_true rfl)) dX3_lay_1 ⟨Nat.le_of_ble_eq_true rfl, Nat.le_of_ble_eq_true rfl⟩) (fun r_1 hr_1 => ?_)
  subst hr_1
  refine lv_if_eq (tgt := 39) hx hb dX3_lay_4 (by decide) (fun c_2 => ?_) (fun c_2 => ?_)
  · have hP9 := hP.part (cx := []) [] rfl
    have hD9 := hD.part (cx := []) [] (by decide) rfl
    have hK9 := hK.sub (tys' := []) [] rfl
    refine W.widen (k := 0) (n := 0) (Nat.le_of_ble_eq_true rfl) (Nat.le_of_ble_eq_true rfl) ?_
    exact W.vret hx hb hr (fun t9 ht hW => ⟨⟨(), rfl, trivial, f, hT, by rw [ht]; exact hP9, va_K.moved hW.alike hK9, hD9⟩, hS.F ht⟩) hS.2.2 dX3_lay_39
  · refine lv_iload_n hx hb dX3_lay_7 rfl (lv_at hl 2 rfl) ?_
    have hPc := hP.sub (ws' := []) [] rfl
    have hDc := hD.sub (ws' := []) [] (by decide) rfl
    have hKc := hK.sub (tys' := []) [] rfl
    refine cs_i (va_runSN (As := [.int p1]) (rest := []) ⟨hx, hb, hml, hown, hts⟩ (c_X8_isStation l dC dI p1 s.heap.size) ⟨va_cnB 1 hts ggX3_lay_X8_isStation rfl rfl rfl (hN.1 (.methodLinkNest RX3 30 yX8_isStation "YamRiders") (by decide +kernel)) (hts (.initialized RX8) (by decide +kernel)) (by decide +kernel) ⟨Nat.le_of_ble_eq_true rfl, Nat.le_of_ble_eq_true rfl⟩, hts (.static yX8_isStation) (by decide +kernel), trivial⟩ ⟨c_blind, c_pre hPc hKc hDc hN⟩ rfl rfl hl.1 rfl (lv_room (Nat.le_of_ble_eq_true rfl)) dX3_lay_8 ⟨Nat.le_of_ble_eq_true rfl, Nat.le_of_ble_eq_true rfl⟩) (fun r_3 hr_3 => ?_)
    subst hr_3
    refine lv_if_eq (tgt := 39) hx hb dX3_lay_11 (by decide) (fun c_4 => ?_) (fun c_4 => ?_)
    · have hP9 := hP.part (cx := []) [] rfl
      have hD9 := hD.part (cx := []) [] (by decide) rfl
      have hK9 := hK.sub (tys' := []) [] rfl
      refine W.widen (k := 0) (n := 0) (Nat.le_of_ble_eq_true rfl) (Nat.le_of_ble_eq_true rfl) ?_
      exact W.vret hx hb hr (fun t9 ht hW => ⟨⟨(), rfl, trivial, f, hT, by rw [ht]; exact hP9, va_K.moved hW.alike hK9, hD9⟩, hS.F ht⟩) hS.2.2 dX3_lay_39
    · refine lv_aload_n hx hb dX3_lay_14 rfl (lv_at hl 0 rfl) ?_
      obtain ⟨o_6, o_7, o_8, o_9, o_10, hf_5, hk_o_6, hk_o_7, hk_o_8, hk_o_9, hk_o_10⟩ := hT.get hk_h0
      obtain ⟨q_11, hq_11⟩ := pl_at (X := []) (f := f) (e := .inr (3, [.ref o_6, .ref o_7, .ref o_8, .ref o_9, .ref o_10])) hk_h0.1 hf_5
      refine va_get (D := (dC, dI)) (ci := 3) (v := .ref o_6) (C := RX3) (T := TX3) (N := 5) hx hb hts hin3 hown hK hP q_11 hq_11 rfl 0 (by decide) (hts (.fieldLink RX3 11 "YamRiders$Roads" "hoursOf" "[[I") (by decide +kernel)) (fun _ h9 => h9) rfl dX3_lay_15 ?_
      refine lv_iload_n hx hb dX3_lay_18 rfl (lv_at hl 1 rfl) ?_
      obtain ⟨g_13, hf_12, hr_14⟩ := hT.get hk_o_6
      obtain ⟨q_15, hq_15⟩ := pl_at (X := []) (f := f) (e := .inl (cs 2, 12, .inr (.inr (.inr (.inr g_13))))) hk_o_6.1 hf_12
      obtain ⟨o_16, hr_o_16, hk_o_16⟩ := hr_14 p0.toNatClampNeg (in_lt (st_in c_2))
      refine va_aldg hx hb hK hP q_15 2 hq_15 rfl (st_in c_2) hr_o_16 dX3_lay_19 ?_
      refine lv_iload_n hx hb dX3_lay_20 rfl (lv_at hl 2 rfl) ?_
      refine lv_iload_n hx hb dX3_lay_21 rfl (lv_at hl 3 rfl) ?_
      obtain ⟨g_18, hf_17⟩ := hT.get hk_o_16
      obtain ⟨q_19, hq_19⟩ := pl_at (X := []) (f := f) (e := .inl (cs 0, 12, .inl g_18)) hk_o_16.1 hf_17
      refine va_iast hx hb hK hP hD hS q_19 0 hq_19 rfl (st_in c_4) dX3_lay_22 (fun H locs hP9 hD9 hS => ?_)
      have hs_20 := pl_st (.inl (cs 0, 12, .inl (upd g_18 p1.toNatClampNeg p2))) hD hk_o_16.1 hf_17 hq_19
      have hP9 : va_P (dC, dI) vwCl ((([] : va_W) ++ va_pl L f).set q_19 (o_16, .inl (cs 0, 12, .inl (upd g_18 p1.toNatClampNeg p2)))) H := hP9
      have hD9 : va_D A ((([] : va_W) ++ va_pl L f).set q_19 (o_16, .inl (cs 0, 12, .inl (upd g_18 p1.toNatClampNeg p2)))) := hD9
      rw [hs_20] at hP9 hD9
      have hT := hT.put (e := .inl (cs 0, 12, .inl (upd g_18 p1.toNatClampNeg p2))) hk_o_16 ⟨_, rfl⟩
      have hf_21 : va_up f o_16 (.inl (cs 0, 12, .inl (upd g_18 p1.toNatClampNeg p2))) o_16 = .inl (cs 0, 12, .inl (upd g_18 p1.toNatClampNeg p2)) := va_up_self _ _ _
      have hP := hP9
      have hD := hD9
      clear hP9 hD9 hs_20
      generalize va_up f o_16 (.inl (cs 0, 12, .inl (upd g_18 p1.toNatClampNeg p2))) = f_22 at hP hD hT hf_21
      generalize upd g_18 p1.toNatClampNeg p2 = g_23 at hf_21
      refine lv_aload_n hx hb dX3_lay_23 rfl (lv_at hl 0 rfl) ?_
      obtain ⟨o_25, o_26, o_27, o_28, o_29, hf_24, hk_o_25, hk_o_26, hk_o_27, hk_o_28, hk_o_29⟩ := hT.get hk_h0
      obtain ⟨q_30, hq_30⟩ := pl_at (X := []) (f := f_22) (e := .inr (3, [.ref o_25, .ref o_26, .ref o_27, .ref o_28, .ref o_29])) hk_h0.1 hf_24
      refine va_get (D := (dC, dI)) (ci := 3) (v := .ref o_25) (C := RX3) (T := TX3) (N := 5) hx hb hts hin3 hown hK hP q_30 hq_30 rfl 0 (by decide) (hts (.fieldLink RX3 11 "YamRiders$Roads" "hoursOf" "[[I") (by decide +kernel)) (fun _ h9 => h9) rfl dX3_lay_24 ?_
      refine lv_iload_n hx hb dX3_lay_27 rfl (lv_at hl 2 rfl) ?_
      obtain ⟨g_32, hf_31, hr_33⟩ := hT.get hk_o_25
      obtain ⟨q_34, hq_34⟩ := pl_at (X := []) (f := f_22) (e := .inl (cs 2, 12, .inr (.inr (.inr (.inr g_32))))) hk_o_25.1 hf_31
      obtain ⟨o_35, hr_o_35, hk_o_35⟩ := hr_33 p1.toNatClampNeg (in_lt (st_in c_4))
      refine va_aldg hx hb hK hP q_34 2 hq_34 rfl (st_in c_4) hr_o_35 dX3_lay_28 ?_
      refine lv_iload_n hx hb dX3_lay_29 rfl (lv_at hl 1 rfl) ?_
      refine lv_iload_n hx hb dX3_lay_30 rfl (lv_at hl 3 rfl) ?_
      obtain ⟨g_37, hf_36⟩ := hT.get hk_o_35
      obtain ⟨q_38, hq_38⟩ := pl_at (X := []) (f := f_22) (e := .inl (cs 0, 12, .inl g_37)) hk_o_35.1 hf_36
      refine va_iast hx hb hK hP hD hS q_38 0 hq_38 rfl (st_in c_2) dX3_lay_31 (fun H locs hP9 hD9 hS => ?_)
      have hs_39 := pl_st (.inl (cs 0, 12, .inl (upd g_37 p0.toNatClampNeg p2))) hD hk_o_35.1 hf_36 hq_38
      have hP9 : va_P (dC, dI) vwCl ((([] : va_W) ++ va_pl L f_22).set q_38 (o_35, .inl (cs 0, 12, .inl (upd g_37 p0.toNatClampNeg p2)))) H := hP9
      have hD9 : va_D A ((([] : va_W) ++ va_pl L f_22).set q_38 (o_35, .inl (cs 0, 12, .inl (upd g_37 p0.toNatClampNeg p2)))) := hD9
      rw [hs_39] at hP9 hD9
      have hT := hT.put (e := .inl (cs 0, 12, .inl (upd g_37 p0.toNatClampNeg p2))) hk_o_35 ⟨_, rfl⟩
      have hf_40 : va_up f_22 o_35 (.inl (cs 0, 12, .inl (upd g_37 p0.toNatClampNeg p2))) o_35 = .inl (cs 0, 12, .inl (upd g_37 p0.toNatClampNeg p2)) := va_up_self _ _ _
      have hP := hP9
      have hD := hD9
      clear hP9 hD9 hs_39
      generalize va_up f_22 o_35 (.inl (cs 0, 12, .inl (upd g_37 p0.toNatClampNeg p2))) = f_41 at hP hD hT hf_40
      generalize upd g_37 p0.toNatClampNeg p2 = g_42 at hf_40
      refine lv_aload_n hx hb dX3_lay_32 rfl (lv_at hl 0 rfl) ?_
      refine lv_iload_n hx hb dX3_lay_33 rfl (lv_at hl 1 rfl) ?_
      refine lv_iload_n hx hb dX3_lay_34 rfl (lv_at hl 2 rfl) ?_
      refine lv_iconst (v := 0) hx hb dX3_lay_35 (by decide) ?_
      have hPc := hP.part (cx := []) [] rfl
      have hDc := hD.part (cx := []) [] (by decide) rfl
      have hKc := hK
      have hFc := va_freeP (cx := []) hD hS hA [] rfl
      obtain ⟨o_44, o_45, o_46, o_47, o_48, hf_43, hk_o_44, hk_o_45, hk_o_46, hk_o_47, hk_o_48⟩ := hT.get hk_h0
      obtain ⟨q_49, hq_49⟩ := pl_at (X := []) (f := f_41) (e := .inr (3, [.ref o_44, .ref o_45, .ref o_46, .ref o_47, .ref o_48])) hk_h0.1 hf_43
      refine va_callv (va_runV (As := [.int p0, .int p1, .int 0]) (rest := []) ⟨hx, hb, hml, hown, hts⟩ (t_X3_setSnow l dC dI cs L ka f_41 h0 p0 p1 0 H.size hT hk_h0) (cwV 3 hts gX3_lay_X3_setSnow rfl rfl rfl (by decide +kernel) ⟨Nat.le_of_ble_eq_true rfl, Nat.le_of_ble_eq_true rfl⟩) ⟨c_blind, va_recv hKc hPc (ci := 3) (q0 := q_49) rfl hq_49, c_pre hPc hKc hDc hN⟩ rfl rfl hl.1 rfl (lv_room (Nat.le_of_ble_eq_true rfl)) dX3_lay_36 ⟨Nat.le_of_ble_eq_true rfl, Nat.le_of_ble_eq_true rfl⟩) hS (fun q _ h => hFc q h) hFc (fun u9 t9 H1 locs ht hvm hw hB hz1 hk1 hS => ?_)
      obtain ⟨f_51, hf_x_52, hP1, hK1, hD1⟩ := hB
      rw [ht] at hP1
      have hK1 := va_K.moved hvm.symm hK1
      obtain ⟨hP, hD⟩ := va_joinP (X := []) (cx := []) (wr := []) (rx := []) (pl := va_pl L f_41) (pl1 := va_pl L f_51) hP hD [] [] rfl rfl (by decide) (by decide) hk1 hFc hP1 hD1
      have hT := hf_x_52
      generalize H1 = H at hP hS ⊢
      have hP : va_P (dC, dI) vwCl ([] ++ va_pl L f_51) H := hP
      have hD : va_D A ([] ++ va_pl L f_51) := hD
      refine W.widen (k := 0) (n := 0) (Nat.le_of_ble_eq_true rfl) (Nat.le_of_ble_eq_true rfl) ?_
      have hP9 := hP.part (cx := []) [] rfl
      have hD9 := hD.part (cx := []) [] (by decide) rfl
      have hK9 := hK.sub (tys' := []) [] rfl
      refine W.widen (k := 0) (n := 0) (Nat.le_of_ble_eq_true rfl) (Nat.le_of_ble_eq_true rfl) ?_
      exact W.vret hx hb hr (fun t9 ht hW => ⟨⟨(), rfl, trivial, f_51, hT, by rw [ht]; exact hP9, va_K.moved hW.alike hK9, hD9⟩, hS.F ht⟩) hS.2.2 dX3_lay_39

set_option maxHeartbeats 4000000 in
set_option maxRecDepth 100000 in
theorem t_X3_timeBetween (l : Launch) (dC : Nat → ClassId) (dI : Nat → Nat → Nat) (cs : Nat → ClassId) (L : List Nat) (ka : Nat → Nat) (f : Nat → va_E) (h0 : Nat) (p0 : Int32) (p1 : Int32) (sz : Nat) (hT : tO L ka cs f) (hk_h0 : tp L ka 3 h0) : Met l yX3_timeBetween wsX3_timeBetween ({ frames := 1, cells := 0, slots := 0, locals := 20 }) (va_Pc [.ref h0, .int p0, .int p1] (cP dC dI ([] ++ va_pl L f) (tyC cs) sz)) (vp_Si (fun _ => True)) 0 0 (fun _ => False) := by
  refine Met.ofW (cc := cX3_timeBetween) (maxL := 3) (ret := (some .int)) (by decide) rfl ?_
  intro p e s m args below meth c s₁ B hml hv
  obtain ⟨rfl, hsz, hP, hK, hD0, hN⟩ := hv
  have hx := B.exec
  have hb := B.bytes
  have hr := B.returns
  have hts := atoms_spec (ws := wsX3_timeBetween) B.pre
  have hown : s.vm.findClass RX3 = some m.cls := findClass_of_methodNamed B.named
  have hlocks := B.notSynchronized
  subst hsz
  have hin3 : ∀ w ∈ u_ws RX3 TX3 5, w ∈ wsX3_timeBetween := by decide +kernel
  have hD := hD0
  have hP : va_P (dC, dI) vwCl ([] ++ va_pl L f) s.heap := hP
  have hl := lv_entry ([.ref h0, .int p0, .int p1]) (n := 3) (Nat.le_of_ble_eq_true rfl)
  rw [lg_entry_eq]
  generalize (lg_sl ([.ref h0, .int p0, .int p1]) ++ List.replicate (3 - (lg_sl ([.ref h0, .int p0, .int p1])).length) Slot.unset).toArray = ls at hl ⊢
  have hl : lv_has ls 3 [(0, .ref h0), (1, .int p0), (2, .int p1)] := hl
  refine lv_iload_n hx hb dX3_timeBetween_0 rfl (lv_at hl 1 rfl) ?_
  have hPc := hP.sub (ws' := []) [] rfl
  have hDc := hD.sub (ws' := []) [] (by decide) rfl
  have hKc := hK.sub (tys' := []) [] rfl
  refine cs_i (va_runSN (As := [.int p0]) (rest := []) ⟨hx, hb, hml, hown, hts⟩ (c_X8_isStation l dC dI p0 s.heap.size) ⟨va_cnB 1 hts ggX3_timeBetween_X8_isStation rfl rfl rfl (hN.1 (.methodLinkNest RX3 30 yX8_isStation "YamRiders") (by decide +kernel)) (hts (.initialized RX8) (by decide +kernel)) (by decide +kernel) ⟨Nat.le_of_ble_eq_true rfl, Nat.le_of_ble_eq_true rfl⟩, hts (.static yX8_isStation) (by decide +kernel), trivial⟩ ⟨c_blind, c_pre hPc hKc hDc hN⟩ rfl rfl hl.1 rfl (lv_room (Nat.le_of_ble_eq_true rfl)) dX3_timeBetween_1 ⟨Nat.le_of_ble_eq_true rfl, Nat.le_of_ble_eq_true rfl⟩) (fun r_1 hr_1 => ?_)
  subst hr_1
  refine lv_if_eq (tgt := 25) hx hb dX3_timeBetween_4 (by decide) (fun c_2 => ?_) (fun c_2 => ?_)
  · refine lv_iconst (v := (-1)) hx hb dX3_timeBetween_25 (by decide) ?_
    exact W.iret (v := (-1)) hx hb hr (fun t9 ht hW => ⟨_, rfl, trivial, ht⟩) (fun q h => nomatch h) dX3_timeBetween_26
  · refine lv_iload_n hx hb dX3_timeBetween_7 rfl (lv_at hl 2 rfl) ?_
    have hPc := hP.sub (ws' := []) [] rfl
    have hDc := hD.sub (ws' := []) [] (by decide) rfl
    have hKc := hK.sub (tys' := []) [] rfl
    refine cs_i (va_runSN (As := [.int p1]) (rest := []) ⟨hx, hb, hml, hown, hts⟩ (c_X8_isStation l dC dI p1 s.heap.size) ⟨va_cnB 1 hts ggX3_timeBetween_X8_isStation rfl rfl rfl (hN.1 (.methodLinkNest RX3 30 yX8_isStation "YamRiders") (by decide +kernel)) (hts (.initialized RX8) (by decide +kernel)) (by decide +kernel) ⟨Nat.le_of_ble_eq_true rfl, Nat.le_of_ble_eq_true rfl⟩, hts (.static yX8_isStation) (by decide +kernel), trivial⟩ ⟨c_blind, c_pre hPc hKc hDc hN⟩ rfl rfl hl.1 rfl (lv_room (Nat.le_of_ble_eq_true rfl)) dX3_timeBetween_8 ⟨Nat.le_of_ble_eq_true rfl, Nat.le_of_ble_eq_true rfl⟩) (fun r_3 hr_3 => ?_)
    subst hr_3
    refine lv_if_eq (tgt := 25) hx hb dX3_timeBetween_11 (by decide) (fun c_4 => ?_) (fun c_4 => ?_)
    · refine lv_iconst (v := (-1)) hx hb dX3_timeBetween_25 (by decide) ?_
      exact W.iret (v := (-1)) hx hb hr (fun t9 ht hW => ⟨_, rfl, trivial, ht⟩) (fun q h => nomatch h) dX3_timeBetween_26
    · refine lv_aload_n hx hb dX3_timeBetween_14 rfl (lv_at hl 0 rfl) ?_
      obtain ⟨o_6, o_7, o_8, o_9, o_10, hf_5, hk_o_6, hk_o_7, hk_o_8, hk_o_9, hk_o_10⟩ := hT.get hk_h0
      obtain ⟨q_11, hq_11⟩ := pl_at (X := []) (f := f) (e := .inr (3, [.ref o_6, .ref o_7, .ref o_8, .ref o_9, .ref o_10])) hk_h0.1 hf_5
      refine va_get (D := (dC, dI)) (ci := 3) (v := .ref o_6) (C := RX3) (T := TX3) (N := 5) hx hb hts hin3 hown hK hP q_11 hq_11 rfl 0 (by decide) (hts (.fieldLink RX3 11 "YamRiders$Roads" "hoursOf" "[[I") (by decide +kernel)) (fun _ h9 => h9) rfl dX3_timeBetween_15 ?_
      refine lv_iload_n hx hb dX3_timeBetween_18 rfl (lv_at hl 1 rfl) ?_
      obtain ⟨g_13, hf_12, hr_14⟩ := hT.get hk_o_6
      obtain ⟨q_15, hq_15⟩ := pl_at (X := []) (f := f) (e := .inl (cs 2, 12, .inr (.inr (.inr (.inr g_13))))) hk_o_6.1 hf_12
      obtain ⟨o_16, hr_o_16, hk_o_16⟩ := hr_14 p0.toNatClampNeg (in_lt (st_in c_2))
      refine va_aldg hx hb hK hP q_15 2 hq_15 rfl (st_in c_2) hr_o_16 dX3_timeBetween_19 ?_
      refine lv_iload_n hx hb dX3_timeBetween_20 rfl (lv_at hl 2 rfl) ?_
      obtain ⟨g_18, hf_17⟩ := hT.get hk_o_16
      obtain ⟨q_19, hq_19⟩ := pl_at (X := []) (f := f) (e := .inl (cs 0, 12, .inl g_18)) hk_o_16.1 hf_17
      refine va_iald hx hb hK hP q_19 0 hq_19 rfl (st_in c_4) dX3_timeBetween_21 ?_
      refine lv_topi (fun v_20 ev_20 => ?_)
      refine lv_if_ne (tgt := 27) hx hb dX3_timeBetween_22 (by decide) (fun c_21 => ?_) (fun c_21 => ?_)
      · refine lv_aload_n hx hb dX3_timeBetween_27 rfl (lv_at hl 0 rfl) ?_
        obtain ⟨q_22, hq_22⟩ := pl_at (X := []) (f := f) (e := .inr (3, [.ref o_6, .ref o_7, .ref o_8, .ref o_9, .ref o_10])) hk_h0.1 hf_5
        refine va_get (D := (dC, dI)) (ci := 3) (v := .ref o_6) (C := RX3) (T := TX3) (N := 5) hx hb hts hin3 hown hK hP q_22 hq_22 rfl 0 (by decide) (hts (.fieldLink RX3 11 "YamRiders$Roads" "hoursOf" "[[I") (by decide +kernel)) (fun _ h9 => h9) rfl dX3_timeBetween_28 ?_
        refine lv_iload_n hx hb dX3_timeBetween_31 rfl (lv_at hl 1 rfl) ?_
        obtain ⟨q_23, hq_23⟩ := pl_at (X := []) (f := f) (e := .inl (cs 2, 12, .inr (.inr (.inr (.inr g_13))))) hk_o_6.1 hf_12
        refine va_aldg hx hb hK hP q_23 2 hq_23 rfl (st_in c_2) hr_o_16 dX3_timeBetween_32 ?_
        refine lv_iload_n hx hb dX3_timeBetween_33 rfl (lv_at hl 2 rfl) ?_
        obtain ⟨q_24, hq_24⟩ := pl_at (X := []) (f := f) (e := .inl (cs 0, 12, .inl g_18)) hk_o_16.1 hf_17
        refine va_iald hx hb hK hP q_24 0 hq_24 rfl (st_in c_4) dX3_timeBetween_34 ?_
        refine lv_topi (fun v_25 ev_25 => ?_)
        obtain rfl : v_20 = v_25 := ev_20.trans ev_25.symm
        refine lv_aload_n hx hb dX3_timeBetween_35 rfl (lv_at hl 0 rfl) ?_
        obtain ⟨q_26, hq_26⟩ := pl_at (X := []) (f := f) (e := .inr (3, [.ref o_6, .ref o_7, .ref o_8, .ref o_9, .ref o_10])) hk_h0.1 hf_5
        refine va_get (D := (dC, dI)) (ci := 3) (v := .ref o_7) (C := RX3) (T := TX3) (N := 5) hx hb hts hin3 hown hK hP q_26 hq_26 rfl 1 (by decide) (hts (.fieldLink RX3 16 "YamRiders$Roads" "snowOn" "[[I") (by decide +kernel)) (fun _ h9 => h9) rfl dX3_timeBetween_36 ?_
        refine lv_iload_n hx hb dX3_timeBetween_39 rfl (lv_at hl 1 rfl) ?_
        obtain ⟨g_28, hf_27, hr_29⟩ := hT.get hk_o_7
        obtain ⟨q_30, hq_30⟩ := pl_at (X := []) (f := f) (e := .inl (cs 2, 12, .inr (.inr (.inr (.inr g_28))))) hk_o_7.1 hf_27
        obtain ⟨o_31, hr_o_31, hk_o_31⟩ := hr_29 p0.toNatClampNeg (in_lt (st_in c_2))
        refine va_aldg hx hb hK hP q_30 2 hq_30 rfl (st_in c_2) hr_o_31 dX3_timeBetween_40 ?_
        refine lv_iload_n hx hb dX3_timeBetween_41 rfl (lv_at hl 2 rfl) ?_
        obtain ⟨g_33, hf_32⟩ := hT.get hk_o_31
        obtain ⟨q_34, hq_34⟩ := pl_at (X := []) (f := f) (e := .inl (cs 0, 12, .inl g_33)) hk_o_31.1 hf_32
        refine va_iald hx hb hK hP q_34 0 hq_34 rfl (st_in c_4) dX3_timeBetween_42 ?_
        refine lv_topi (fun v_35 ev_35 => ?_)
        refine lv_iadd hx hb dX3_timeBetween_43 ?_
        refine lv_topi (fun v_36 ev_36 => ?_)
        exact W.iret (v := v_36) hx hb hr (fun t9 ht hW => ⟨_, rfl, trivial, ht⟩) (fun q h => nomatch h) dX3_timeBetween_44
      · refine lv_iconst (v := (-1)) hx hb dX3_timeBetween_25 (by decide) ?_
        exact W.iret (v := (-1)) hx hb hr (fun t9 ht hW => ⟨_, rfl, trivial, ht⟩) (fun q h => nomatch h) dX3_timeBetween_26

set_option maxHeartbeats 4000000 in
set_option maxRecDepth 100000 in
theorem t_X3_stepFrom (l : Launch) (dC : Nat → ClassId) (dI : Nat → Nat → Nat) (cs : Nat → ClassId) (L : List Nat) (ka : Nat → Nat) (f : Nat → va_E) (h0 : Nat) (p0 : Int32) (sz : Nat) (hT : tO L ka cs f) (hk_h0 : tp L ka 3 h0) : Met l yX3_stepFrom wsX3_stepFrom ({ frames := 2, cells := 0, slots := 0, locals := 42 }) (va_Pc [.ref h0, .int p0] (cP dC dI ([] ++ va_pl L f) (tyC cs) sz)) (vp_Si (fun _ => True)) 0 0 (fun _ => False) := by
  refine Met.ofW (cc := cX3_stepFrom) (maxL := 4) (ret := (some .int)) (by decide) rfl ?_
  intro p e s m args below meth c s₁ B hml hv
  obtain ⟨rfl, hsz, hP, hK, hD0, hN⟩ := hv
  have hx := B.exec
  have hb := B.bytes
  have hr := B.returns
  have hts := atoms_spec (ws := wsX3_stepFrom) B.pre
  have hown : s.vm.findClass RX3 = some m.cls := findClass_of_methodNamed B.named
  have hlocks := B.notSynchronized
  subst hsz
  have hin3 : ∀ w ∈ u_ws RX3 TX3 5, w ∈ wsX3_stepFrom := by decide +kernel
  have hD := hD0
  have hP : va_P (dC, dI) vwCl ([] ++ va_pl L f) s.heap := hP
  have hl := lv_entry ([.ref h0, .int p0]) (n := 4) (Nat.le_of_ble_eq_true rfl)
  rw [lg_entry_eq]
  generalize (lg_sl ([.ref h0, .int p0]) ++ List.replicate (4 - (lg_sl ([.ref h0, .int p0])).length) Slot.unset).toArray = ls at hl ⊢
  have hl : lv_has ls 4 [(0, .ref h0), (1, .int p0)] := hl
  refine lv_iload_n hx hb dX3_stepFrom_0 rfl (lv_at hl 1 rfl) ?_
  have hPc := hP.sub (ws' := []) [] rfl
  have hDc := hD.sub (ws' := []) [] (by decide) rfl
  have hKc := hK.sub (tys' := []) [] rfl
  refine cs_i (va_runSN (As := [.int p0]) (rest := []) ⟨hx, hb, hml, hown, hts⟩ (c_X8_isStation l dC dI p0 s.heap.size) ⟨va_cnB 1 hts ggX3_stepFrom_X8_isStation rfl rfl rfl (hN.1 (.methodLinkNest RX3 30 yX8_isStation "YamRiders") (by decide +kernel)) (hts (.initialized RX8) (by decide +kernel)) (by decide +kernel) ⟨Nat.le_of_ble_eq_true rfl, Nat.le_of_ble_eq_true rfl⟩, hts (.static yX8_isStation) (by decide +kernel), trivial⟩ ⟨c_blind, c_pre hPc hKc hDc hN⟩ rfl rfl hl.1 rfl (lv_room (Nat.le_of_ble_eq_true rfl)) dX3_stepFrom_1 ⟨Nat.le_of_ble_eq_true rfl, Nat.le_of_ble_eq_true rfl⟩) (fun r_1 hr_1 => ?_)
  subst hr_1
  refine lv_if_eq (tgt := 52) hx hb dX3_stepFrom_4 (by decide) (fun c_2 => ?_) (fun c_2 => ?_)
  · refine lv_iload_n hx hb dX3_stepFrom_52 rfl (lv_at hl 1 rfl) ?_
    exact W.iret (v := p0) hx hb hr (fun t9 ht hW => ⟨_, rfl, trivial, ht⟩) (fun q h => nomatch h) dX3_stepFrom_53
  · refine lv_iconst (v := 0) hx hb dX3_stepFrom_7 (by decide) ?_
    refine lv_istore_n (lv' := [(2, .int 0), (0, .ref h0), (1, .int p0)]) hx hb dX3_stepFrom_8 rfl hl (by decide) rfl (fun ls hl => ?_)
    have HL : ∀ (n k : Nat), k ≤ 12 → 12 + 1 ≤ k + n → ∀ ls : Array Slot, lv_has ls 4 [(0, .ref h0), (1, .int p0), (2, .int (nI k))] → W p l e (headSpec wsX3_stepFrom ({ frames := 2, cells := 0, slots := 0, locals := 42 })).room s m ([.ref h0, .int p0]).toArray below meth c s.heap [] 0 0 (MQ below (vp_Si (fun _ => True)) ([.ref h0, .int p0]).toArray s 0 0 (fun _ => False)) (F0 m 9 ls []) := by
      intro n
      induction n with
      | zero => intro k h1 h2; exact absurd h2 (by omega)
      | succ n ih =>
        intro k hk hn ls hl
        refine lv_iload_n hx hb dX3_stepFrom_9 rfl (lv_at hl 2 rfl) ?_
        refine lv_bipush (v := 12) hx hb dX3_stepFrom_10 (by decide) ?_
        refine lv_icmp_ge (tgt := 52) hx hb dX3_stepFrom_12 (by decide) (fun c_3 => ?_) (fun c_3 => ?_)
        · have hke : k = 12 := by
            rcases Nat.lt_or_ge k 12 with q | q
            · exact absurd c_3 (nI_ge q (by decide))
            · omega
          refine lv_iload_n hx hb dX3_stepFrom_52 rfl (lv_at hl 1 rfl) ?_
          exact W.iret (v := p0) hx hb hr (fun t9 ht hW => ⟨_, rfl, trivial, ht⟩) (fun q h => nomatch h) dX3_stepFrom_53
        · have hlt : k < 12 := by
            rcases Nat.lt_or_ge k 12 with q | q
            · exact q
            · exact absurd (show nI 12 ≤ nI k from nI_le q (by omega)) c_3
          refine lv_aload_n hx hb dX3_stepFrom_15 rfl (lv_at hl 0 rfl) ?_
          refine lv_iload_n hx hb dX3_stepFrom_16 rfl (lv_at hl 1 rfl) ?_
          refine lv_iload_n hx hb dX3_stepFrom_17 rfl (lv_at hl 2 rfl) ?_
          have hPc := hP.part (cx := []) [] rfl
          have hDc := hD.part (cx := []) [] (by decide) rfl
          have hKc := hK
          obtain ⟨o_5, o_6, o_7, o_8, o_9, hf_4, hk_o_5, hk_o_6, hk_o_7, hk_o_8, hk_o_9⟩ := hT.get hk_h0
          obtain ⟨q_10, hq_10⟩ := pl_at (X := []) (f := f) (e := .inr (3, [.ref o_5, .ref o_6, .ref o_7, .ref o_8, .ref o_9])) hk_h0.1 hf_4
          refine cs_i (va_runV (As := [.int p0, .int (nI k)]) (rest := []) ⟨hx, hb, hml, hown, hts⟩ (t_X3_timeBetween l dC dI cs L ka f h0 p0 (nI k) s.heap.size hT hk_h0) (cwV 2 hts gX3_stepFrom_X3_timeBetween rfl rfl rfl (by decide +kernel) ⟨Nat.le_of_ble_eq_true rfl, Nat.le_of_ble_eq_true rfl⟩) ⟨c_blind, va_recv hKc hPc (ci := 3) (q0 := q_10) rfl hq_10, c_pre hPc hKc hDc hN⟩ rfl rfl hl.1 rfl (lv_room (Nat.le_of_ble_eq_true rfl)) dX3_stepFrom_18 ⟨Nat.le_of_ble_eq_true rfl, Nat.le_of_ble_eq_true rfl⟩) (fun r_11 hr_11 => ?_)
          refine lv_istore_n (lv' := [(3, .int r_11), (0, .ref h0), (1, .int p0), (2, .int (nI k))]) hx hb dX3_stepFrom_21 rfl hl (by decide) rfl (fun ls hl => ?_)
          refine lv_iload_n hx hb dX3_stepFrom_22 rfl (lv_at hl 0 rfl) ?_
          refine lv_iconst (v := (-1)) hx hb dX3_stepFrom_23 (by decide) ?_
          refine lv_icmp_eq (tgt := 46) hx hb dX3_stepFrom_24 (by decide) (fun c_12 => ?_) (fun c_12 => ?_)
          · refine lv_iinc (v := nI (k + 1)) (lv' := [(2, .int (nI (k + 1))), (3, .int r_11), (0, .ref h0), (1, .int p0)]) hx hb dX3_stepFrom_46 hl (k := 3) rfl (by exact (nI_1 k)) (by decide) rfl (fun ls hl => ?_)
            refine lv_goto (tgt := 9) hx hb dX3_stepFrom_49 (by decide) ?_
            exact ih (k + 1) (by omega) (by omega) ls (lv_sub hl [2, 3, 0] rfl)
          · refine lv_aload_n hx hb dX3_stepFrom_27 rfl (lv_at hl 1 rfl) ?_
            obtain ⟨q_13, hq_13⟩ := pl_at (X := []) (f := f) (e := .inr (3, [.ref o_5, .ref o_6, .ref o_7, .ref o_8, .ref o_9])) hk_h0.1 hf_4
            refine va_get (D := (dC, dI)) (ci := 3) (v := .ref o_7) (C := RX3) (T := TX3) (N := 5) hx hb hts hin3 hown hK hP q_13 hq_13 rfl 2 (by decide) (hts (.fieldLink RX3 19 "YamRiders$Roads" "toGoal" "[I") (by decide +kernel)) (fun _ h9 => h9) rfl dX3_stepFrom_28 ?_
            refine lv_iload_n hx hb dX3_stepFrom_31 rfl (lv_at hl 3 rfl) ?_
            obtain ⟨g_15, hf_14⟩ := hT.get hk_o_7
            obtain ⟨q_16, hq_16⟩ := pl_at (X := []) (f := f) (e := .inl (cs 0, 12, .inl g_15)) hk_o_7.1 hf_14
            refine va_iald hx hb hK hP q_16 0 hq_16 rfl (vp_in_nI hlt (by decide)) dX3_stepFrom_32 ?_
            refine lv_topi (fun v_17 ev_17 => ?_)
            refine lv_iload_n hx hb dX3_stepFrom_33 rfl (lv_at hl 0 rfl) ?_
            refine lv_iadd hx hb dX3_stepFrom_34 ?_
            refine lv_topi (fun v_18 ev_18 => ?_)
            refine lv_aload_n hx hb dX3_stepFrom_35 rfl (lv_at hl 1 rfl) ?_
            obtain ⟨q_19, hq_19⟩ := pl_at (X := []) (f := f) (e := .inr (3, [.ref o_5, .ref o_6, .ref o_7, .ref o_8, .ref o_9])) hk_h0.1 hf_4
            refine va_get (D := (dC, dI)) (ci := 3) (v := .ref o_7) (C := RX3) (T := TX3) (N := 5) hx hb hts hin3 hown hK hP q_19 hq_19 rfl 2 (by decide) (hts (.fieldLink RX3 19 "YamRiders$Roads" "toGoal" "[I") (by decide +kernel)) (fun _ h9 => h9) rfl dX3_stepFrom_36 ?_
            refine lv_iload_n hx hb dX3_stepFrom_39 rfl (lv_at hl 2 rfl) ?_
            obtain ⟨q_20, hq_20⟩ := pl_at (X := []) (f := f) (e := .inl (cs 0, 12, .inl g_15)) hk_o_7.1 hf_14
            refine va_iald hx hb hK hP q_20 0 hq_20 rfl (st_in c_2) dX3_stepFrom_40 ?_
            refine lv_topi (fun v_21 ev_21 => ?_)
            refine lv_icmp_ne (tgt := 46) hx hb dX3_stepFrom_41 (by decide) (fun c_22 => ?_) (fun c_22 => ?_)
            · refine lv_iinc (v := nI (k + 1)) (lv' := [(2, .int (nI (k + 1))), (3, .int r_11), (0, .ref h0), (1, .int p0)]) hx hb dX3_stepFrom_46 hl (k := 3) rfl (by exact (nI_1 k)) (by decide) rfl (fun ls hl => ?_)
              refine lv_goto (tgt := 9) hx hb dX3_stepFrom_49 (by decide) ?_
              exact ih (k + 1) (by omega) (by omega) ls (lv_sub hl [2, 3, 0] rfl)
            · refine lv_iload_n hx hb dX3_stepFrom_44 rfl (lv_at hl 3 rfl) ?_
              exact W.iret (v := nI k) hx hb hr (fun t9 ht hW => ⟨_, rfl, trivial, ht⟩) (fun q h => nomatch h) dX3_stepFrom_45
    exact HL 13 0 (by omega) (by omega) ls (lv_sub hl [1, 2, 0] rfl)

set_option maxHeartbeats 4000000 in
set_option maxRecDepth 100000 in
theorem t_X3_nearestUnsettled (l : Launch) (dC : Nat → ClassId) (dI : Nat → Nat → Nat) (cs : Nat → ClassId) (L : List Nat) (ka : Nat → Nat) (f : Nat → va_E) (h0 : Nat) (sz : Nat) (hT : tO L ka cs f) (hk_h0 : tp L ka 3 h0) : Met l yX3_nearestUnsettled wsX3_nearestUnsettled ({ frames := 0, cells := 0, slots := 0, locals := 0 }) (va_Pc [.ref h0] (cP dC dI ([] ++ va_pl L f) (tyC cs) sz)) (vp_Si (fun _ => True)) 0 0 (fun _ => False) := by
  refine Met.ofW (cc := cX3_nearestUnsettled) (maxL := 4) (ret := (some .int)) (by decide) rfl ?_
  intro p e s m args below meth c s₁ B hml hv
  obtain ⟨rfl, hsz, hP, hK, hD0, hN⟩ := hv
  have hx := B.exec
  have hb := B.bytes
  have hr := B.returns
  have hts := atoms_spec (ws := wsX3_nearestUnsettled) B.pre
  have hown : s.vm.findClass RX3 = some m.cls := findClass_of_methodNamed B.named
  have hlocks := B.notSynchronized
  subst hsz
  have hin3 : ∀ w ∈ u_ws RX3 TX3 5, w ∈ wsX3_nearestUnsettled := by decide +kernel
  have hD := hD0
  have hP : va_P (dC, dI) vwCl ([] ++ va_pl L f) s.heap := hP
  have hl := lv_entry ([.ref h0]) (n := 4) (Nat.le_of_ble_eq_true rfl)
  rw [lg_entry_eq]
  generalize (lg_sl ([.ref h0]) ++ List.replicate (4 - (lg_sl ([.ref h0])).length) Slot.unset).toArray = ls at hl ⊢
  have hl : lv_has ls 4 [(0, .ref h0)] := hl
  refine lv_iconst (v := (-1)) hx hb dX3_nearestUnsettled_0 (by decide) ?_
  refine lv_istore_n (lv' := [(1, .int (-1)), (0, .ref h0)]) hx hb dX3_nearestUnsettled_1 rfl hl (by decide) rfl (fun ls hl => ?_)
  refine lv_ldc (v := 1000000) hx hb hown (hts (.constant RX3 42 (1000000)) (by decide +kernel)) dX3_nearestUnsettled_2 ?_
  refine lv_istore_n (lv' := [(2, .int 1000000), (1, .int (-1)), (0, .ref h0)]) hx hb dX3_nearestUnsettled_4 rfl hl (by decide) rfl (fun ls hl => ?_)
  refine lv_iconst (v := 0) hx hb dX3_nearestUnsettled_5 (by decide) ?_
  refine lv_istore_n (lv' := [(3, .int 0), (2, .int 1000000), (1, .int (-1)), (0, .ref h0)]) hx hb dX3_nearestUnsettled_6 rfl hl (by decide) rfl (fun ls hl => ?_)
  have HL : ∀ (n k : Nat) (x1 : Int32) (x2 : Int32), k ≤ 12 → 12 + 1 ≤ k + n → ∀ ls : Array Slot, lv_has ls 4 [(0, .ref h0), (1, .int x1), (2, .int x2), (3, .int (nI k))] → W p l e (headSpec wsX3_nearestUnsettled ({ frames := 0, cells := 0, slots := 0, locals := 0 })).room s m ([.ref h0]).toArray below meth c s.heap [] 0 0 (MQ below (vp_Si (fun _ => True)) ([.ref h0]).toArray s 0 0 (fun _ => False)) (F0 m 7 ls []) := by
    intro n
    induction n with
    | zero => intro k x1 x2 h1 h2; exact absurd h2 (by omega)
    | succ n ih =>
      intro k x1 x2 hk hn ls hl
      refine lv_iload_n hx hb dX3_nearestUnsettled_7 rfl (lv_at hl 3 rfl) ?_
      refine lv_bipush (v := 12) hx hb dX3_nearestUnsettled_8 (by decide) ?_
      refine lv_icmp_ge (tgt := 47) hx hb dX3_nearestUnsettled_10 (by decide) (fun c_1 => ?_) (fun c_1 => ?_)
      · have hke : k = 12 := by
          rcases Nat.lt_or_ge k 12 with q | q
          · exact absurd c_1 (nI_ge q (by decide))
          · omega
        refine lv_iload_n hx hb dX3_nearestUnsettled_47 rfl (lv_at hl 1 rfl) ?_
        exact W.iret (v := x1) hx hb hr (fun t9 ht hW => ⟨_, rfl, trivial, ht⟩) (fun q h => nomatch h) dX3_nearestUnsettled_48
      · have hlt : k < 12 := by
          rcases Nat.lt_or_ge k 12 with q | q
          · exact q
          · exact absurd (show nI 12 ≤ nI k from nI_le q (by omega)) c_1
        refine lv_aload_n hx hb dX3_nearestUnsettled_13 rfl (lv_at hl 0 rfl) ?_
        obtain ⟨o_3, o_4, o_5, o_6, o_7, hf_2, hk_o_3, hk_o_4, hk_o_5, hk_o_6, hk_o_7⟩ := hT.get hk_h0
        obtain ⟨q_8, hq_8⟩ := pl_at (X := []) (f := f) (e := .inr (3, [.ref o_3, .ref o_4, .ref o_5, .ref o_6, .ref o_7])) hk_h0.1 hf_2
        refine va_get (D := (dC, dI)) (ci := 3) (v := .ref o_6) (C := RX3) (T := TX3) (N := 5) hx hb hts hin3 hown hK hP q_8 hq_8 rfl 3 (by decide) (hts (.fieldLink RX3 23 "YamRiders$Roads" "settled" "[Z") (by decide +kernel)) (fun _ h9 => h9) rfl dX3_nearestUnsettled_14 ?_
        refine lv_iload_n hx hb dX3_nearestUnsettled_17 rfl (lv_at hl 3 rfl) ?_
        obtain ⟨g_10, hf_9⟩ := hT.get hk_o_6
        obtain ⟨q_11, hq_11⟩ := pl_at (X := []) (f := f) (e := .inl (cs 1, 12, .inl g_10)) hk_o_6.1 hf_9
        refine va_zald hx hb hK hP q_11 1 hq_11 rfl (vp_in_nI hlt (by decide)) dX3_nearestUnsettled_18 ?_
        refine lv_topi (fun v_12 ev_12 => ?_)
        refine lv_if_ne (tgt := 41) hx hb dX3_nearestUnsettled_19 (by decide) (fun c_13 => ?_) (fun c_13 => ?_)
        · refine lv_iinc (v := nI (k + 1)) (lv' := [(3, .int (nI (k + 1))), (0, .ref h0), (1, .int x1), (2, .int x2)]) hx hb dX3_nearestUnsettled_41 hl (k := 3) rfl (by exact (nI_1 k)) (by decide) rfl (fun ls hl => ?_)
          refine lv_goto (tgt := 7) hx hb dX3_nearestUnsettled_44 (by decide) ?_
          exact ih (k + 1) x1 x2 (by omega) (by omega) ls (lv_sub hl [1, 2, 3, 0] rfl)
        · refine lv_aload_n hx hb dX3_nearestUnsettled_22 rfl (lv_at hl 0 rfl) ?_
          obtain ⟨q_14, hq_14⟩ := pl_at (X := []) (f := f) (e := .inr (3, [.ref o_3, .ref o_4, .ref o_5, .ref o_6, .ref o_7])) hk_h0.1 hf_2
          refine va_get (D := (dC, dI)) (ci := 3) (v := .ref o_5) (C := RX3) (T := TX3) (N := 5) hx hb hts hin3 hown hK hP q_14 hq_14 rfl 2 (by decide) (hts (.fieldLink RX3 19 "YamRiders$Roads" "toGoal" "[I") (by decide +kernel)) (fun _ h9 => h9) rfl dX3_nearestUnsettled_23 ?_
          refine lv_iload_n hx hb dX3_nearestUnsettled_26 rfl (lv_at hl 3 rfl) ?_
          obtain ⟨g_16, hf_15⟩ := hT.get hk_o_5
          obtain ⟨q_17, hq_17⟩ := pl_at (X := []) (f := f) (e := .inl (cs 0, 12, .inl g_16)) hk_o_5.1 hf_15
          refine va_iald hx hb hK hP q_17 0 hq_17 rfl (vp_in_nI hlt (by decide)) dX3_nearestUnsettled_27 ?_
          refine lv_topi (fun v_18 ev_18 => ?_)
          refine lv_iload_n hx hb dX3_nearestUnsettled_28 rfl (lv_at hl 2 rfl) ?_
          refine lv_icmp_ge (tgt := 41) hx hb dX3_nearestUnsettled_29 (by decide) (fun c_19 => ?_) (fun c_19 => ?_)
          · refine lv_iinc (v := nI (k + 1)) (lv' := [(3, .int (nI (k + 1))), (0, .ref h0), (1, .int x1), (2, .int x2)]) hx hb dX3_nearestUnsettled_41 hl (k := 3) rfl (by exact (nI_1 k)) (by decide) rfl (fun ls hl => ?_)
            refine lv_goto (tgt := 7) hx hb dX3_nearestUnsettled_44 (by decide) ?_
            exact ih (k + 1) x1 x2 (by omega) (by omega) ls (lv_sub hl [1, 2, 3, 0] rfl)
          · refine lv_iload_n hx hb dX3_nearestUnsettled_32 rfl (lv_at hl 3 rfl) ?_
            refine lv_istore_n (lv' := [(1, .int (nI k)), (0, .ref h0), (2, .int x2), (3, .int (nI k))]) hx hb dX3_nearestUnsettled_33 rfl hl (by decide) rfl (fun ls hl => ?_)
            refine lv_aload_n hx hb dX3_nearestUnsettled_34 rfl (lv_at hl 1 rfl) ?_
            obtain ⟨q_20, hq_20⟩ := pl_at (X := []) (f := f) (e := .inr (3, [.ref o_3, .ref o_4, .ref o_5, .ref o_6, .ref o_7])) hk_h0.1 hf_2
            refine va_get (D := (dC, dI)) (ci := 3) (v := .ref o_5) (C := RX3) (T := TX3) (N := 5) hx hb hts hin3 hown hK hP q_20 hq_20 rfl 2 (by decide) (hts (.fieldLink RX3 19 "YamRiders$Roads" "toGoal" "[I") (by decide +kernel)) (fun _ h9 => h9) rfl dX3_nearestUnsettled_35 ?_
            refine lv_iload_n hx hb dX3_nearestUnsettled_38 rfl (lv_at hl 3 rfl) ?_
            obtain ⟨q_21, hq_21⟩ := pl_at (X := []) (f := f) (e := .inl (cs 0, 12, .inl g_16)) hk_o_5.1 hf_15
            refine va_iald hx hb hK hP q_21 0 hq_21 rfl (vp_in_nI hlt (by decide)) dX3_nearestUnsettled_39 ?_
            refine lv_topi (fun v_22 ev_22 => ?_)
            obtain rfl : v_18 = v_22 := ev_18.trans ev_22.symm
            refine lv_istore_n (lv' := [(2, .int v_18), (1, .int (nI k)), (0, .ref h0), (3, .int (nI k))]) hx hb dX3_nearestUnsettled_40 rfl hl (by decide) rfl (fun ls hl => ?_)
            refine lv_iinc (v := nI (k + 1)) (lv' := [(3, .int (nI (k + 1))), (2, .int v_18), (1, .int (nI k)), (0, .ref h0)]) hx hb dX3_nearestUnsettled_41 hl (k := 3) rfl (by exact (nI_1 k)) (by decide) rfl (fun ls hl => ?_)
            refine lv_goto (tgt := 7) hx hb dX3_nearestUnsettled_44 (by decide) ?_
            exact ih (k + 1) (nI k) v_18 (by omega) (by omega) ls (lv_sub hl [3, 2, 1, 0] rfl)
  exact HL 13 0 (-1) 1000000 (by omega) (by omega) ls (lv_sub hl [3, 2, 1, 0] rfl)

set_option maxHeartbeats 4000000 in
set_option maxRecDepth 100000 in
theorem t_X3_settle (l : Launch) (dC : Nat → ClassId) (dI : Nat → Nat → Nat) (cs : Nat → ClassId) (L : List Nat) (ka : Nat → Nat) (f : Nat → va_E) (h0 : Nat) (p0 : Int32) (sz : Nat) (hT : tO L ka cs f) (hk_h0 : tp L ka 3 h0) : Met l yX3_settle wsX3_settle ({ frames := 2, cells := 0, slots := 0, locals := 42 }) (va_Pc [.ref h0, .int p0] (cP dC dI ([] ++ va_pl L f) (tyC cs) sz)) (va_Qv (fun (_ : Unit) => True) (fun (_ : Unit) t9 => ∃ (f2 : Nat → va_E), (tO L ka cs f2) ∧ cQ dC dI ([] ++ va_pl L f2) [] (va_A ([] ++ va_pl L f) sz) t9) (va_A ([] ++ va_pl L f) sz)) 0 0 (va_A ([] ++ va_pl L f) sz) := by
  refine Met.ofW (cc := cX3_settle) (maxL := 4) (ret := none) (by decide) rfl ?_
  intro p e s m args below meth c s₁ B hml hv
  obtain ⟨rfl, hsz, hP, hK, hD0, hN⟩ := hv
  have hx := B.exec
  have hb := B.bytes
  have hr := B.returns
  have hts := atoms_spec (ws := wsX3_settle) B.pre
  have hown : s.vm.findClass RX3 = some m.cls := findClass_of_methodNamed B.named
  have hlocks := B.notSynchronized
  subst hsz
  have hin3 : ∀ w ∈ u_ws RX3 TX3 5, w ∈ wsX3_settle := by decide +kernel
  have hD := hD0.self (sz := s.heap.size)
  generalize hAe : va_A ([] ++ va_pl L f) s.heap.size = A at hD ⊢
  have hA : ∀ q : Nat, s.heap.size ≤ q → A q := fun q h => by rw [← hAe]; exact Or.inr h
  have hS : va_S A s.heap s.heap [] := va_S.rf
  have hP : va_P (dC, dI) vwCl ([] ++ va_pl L f) s.heap := hP
  have hl := lv_entry ([.ref h0, .int p0]) (n := 4) (Nat.le_of_ble_eq_true rfl)
  rw [lg_entry_eq]
  generalize (lg_sl ([.ref h0, .int p0]) ++ List.replicate (4 - (lg_sl ([.ref h0, .int p0])).length) Slot.unset).toArray = ls at hl ⊢
  have hl : lv_has ls 4 [(0, .ref h0), (1, .int p0)] := hl
  refine lv_iload_n hx hb dX3_settle_0 rfl (lv_at hl 1 rfl) ?_
  have hPc := hP.sub (ws' := []) [] rfl
  have hDc := hD.sub (ws' := []) [] (by decide) rfl
  have hKc := hK.sub (tys' := []) [] rfl
  refine cs_i (va_runSN (As := [.int p0]) (rest := []) ⟨hx, hb, hml, hown, hts⟩ (c_X8_isStation l dC dI p0 s.heap.size) ⟨va_cnB 1 hts ggX3_settle_X8_isStation rfl rfl rfl (hN.1 (.methodLinkNest RX3 30 yX8_isStation "YamRiders") (by decide +kernel)) (hts (.initialized RX8) (by decide +kernel)) (by decide +kernel) ⟨Nat.le_of_ble_eq_true rfl, Nat.le_of_ble_eq_true rfl⟩, hts (.static yX8_isStation) (by decide +kernel), trivial⟩ ⟨c_blind, c_pre hPc hKc hDc hN⟩ rfl rfl hl.1 rfl (lv_room (Nat.le_of_ble_eq_true rfl)) dX3_settle_1 ⟨Nat.le_of_ble_eq_true rfl, Nat.le_of_ble_eq_true rfl⟩) (fun r_1 hr_1 => ?_)
  subst hr_1
  refine lv_if_ne (tgt := 8) hx hb dX3_settle_4 (by decide) (fun c_2 => ?_) (fun c_2 => ?_)
  · refine lv_aload_n hx hb dX3_settle_8 rfl (lv_at hl 0 rfl) ?_
    obtain ⟨o_4, o_5, o_6, o_7, o_8, hf_3, hk_o_4, hk_o_5, hk_o_6, hk_o_7, hk_o_8⟩ := hT.get hk_h0
    obtain ⟨q_9, hq_9⟩ := pl_at (X := []) (f := f) (e := .inr (3, [.ref o_4, .ref o_5, .ref o_6, .ref o_7, .ref o_8])) hk_h0.1 hf_3
    refine va_get (D := (dC, dI)) (ci := 3) (v := .ref o_7) (C := RX3) (T := TX3) (N := 5) hx hb hts hin3 hown hK hP q_9 hq_9 rfl 3 (by decide) (hts (.fieldLink RX3 23 "YamRiders$Roads" "settled" "[Z") (by decide +kernel)) (fun _ h9 => h9) rfl dX3_settle_9 ?_
    refine lv_iload_n hx hb dX3_settle_12 rfl (lv_at hl 1 rfl) ?_
    refine lv_iconst (v := 1) hx hb dX3_settle_13 (by decide) ?_
    obtain ⟨g_11, hf_10⟩ := hT.get hk_o_7
    obtain ⟨q_12, hq_12⟩ := pl_at (X := []) (f := f) (e := .inl (cs 1, 12, .inl g_11)) hk_o_7.1 hf_10
    refine va_zast hx hb hK hP hD hS q_12 1 hq_12 rfl (st_in c_2) dX3_settle_14 (fun H locs hP9 hD9 hS => ?_)
    have hs_13 := pl_st (.inl (cs 1, 12, .inl (upd g_11 p0.toNatClampNeg (vp_nar .boolean 1)))) hD hk_o_7.1 hf_10 hq_12
    have hP9 : va_P (dC, dI) vwCl ((([] : va_W) ++ va_pl L f).set q_12 (o_7, .inl (cs 1, 12, .inl (upd g_11 p0.toNatClampNeg (vp_nar .boolean 1))))) H := hP9
    have hD9 : va_D A ((([] : va_W) ++ va_pl L f).set q_12 (o_7, .inl (cs 1, 12, .inl (upd g_11 p0.toNatClampNeg (vp_nar .boolean 1))))) := hD9
    rw [hs_13] at hP9 hD9
    have hT := hT.put (e := .inl (cs 1, 12, .inl (upd g_11 p0.toNatClampNeg (vp_nar .boolean 1)))) hk_o_7 ⟨_, rfl⟩
    have hf_14 : va_up f o_7 (.inl (cs 1, 12, .inl (upd g_11 p0.toNatClampNeg (vp_nar .boolean 1)))) o_7 = .inl (cs 1, 12, .inl (upd g_11 p0.toNatClampNeg (vp_nar .boolean 1))) := va_up_self _ _ _
    have hP := hP9
    have hD := hD9
    clear hP9 hD9 hs_13
    generalize va_up f o_7 (.inl (cs 1, 12, .inl (upd g_11 p0.toNatClampNeg (vp_nar .boolean 1)))) = f_15 at hP hD hT hf_14
    generalize upd g_11 p0.toNatClampNeg (vp_nar .boolean 1) = g_16 at hf_14
    refine lv_iconst (v := 0) hx hb dX3_settle_15 (by decide) ?_
    refine lv_istore_n (lv' := [(2, .int 0), (0, .ref h0), (1, .int p0)]) hx hb dX3_settle_16 rfl hl (by decide) rfl (fun ls hl => ?_)
    have HL : ∀ (n k : Nat), k ≤ 12 → 12 + 1 ≤ k + n → ∀ (f_17 : Nat → va_E) (H : Heap) (locs : List Loc), tO L ka cs f_17 → va_P (dC, dI) vwCl ([] ++ va_pl L f_17) H → va_D A ([] ++ va_pl L f_17) → va_S A s.heap H locs → ∀ ls : Array Slot, lv_has ls 4 [(0, .ref h0), (1, .int p0), (2, .int (nI k))] → W p l e (headSpec wsX3_settle ({ frames := 2, cells := 0, slots := 0, locals := 42 })).room s m ([.ref h0, .int p0]).toArray below meth c H locs 0 0 (MQ below (va_Qv (fun (_ : Unit) => True) (fun (_ : Unit) t9 => ∃ (f2 : Nat → va_E), (tO L ka cs f2) ∧ cQ dC dI ([] ++ va_pl L f2) [] A t9) A) ([.ref h0, .int p0]).toArray s 0 0 A) (F0 m 17 ls []) := by
      intro n
      induction n with
      | zero => intro k h1 h2; exact absurd h2 (by omega)
      | succ n ih =>
        intro k hk hn f_17 H locs hT hP hD hS ls hl
        refine lv_iload_n hx hb dX3_settle_17 rfl (lv_at hl 2 rfl) ?_
        refine lv_bipush (v := 12) hx hb dX3_settle_18 (by decide) ?_
        refine lv_icmp_ge (tgt := 72) hx hb dX3_settle_20 (by decide) (fun c_18 => ?_) (fun c_18 => ?_)
        · have hke : k = 12 := by
            rcases Nat.lt_or_ge k 12 with q | q
            · exact absurd c_18 (nI_ge q (by decide))
            · omega
          have hP9 := hP.part (cx := []) [] rfl
          have hD9 := hD.part (cx := []) [] (by decide) rfl
          have hK9 := hK.sub (tys' := []) [] rfl
          refine W.widen (k := 0) (n := 0) (Nat.le_of_ble_eq_true rfl) (Nat.le_of_ble_eq_true rfl) ?_
          exact W.vret hx hb hr (fun t9 ht hW => ⟨⟨(), rfl, trivial, f_17, hT, by rw [ht]; exact hP9, va_K.moved hW.alike hK9, hD9⟩, hS.F ht⟩) hS.2.2 dX3_settle_72
        · have hlt : k < 12 := by
            rcases Nat.lt_or_ge k 12 with q | q
            · exact q
            · exact absurd (show nI 12 ≤ nI k from nI_le q (by omega)) c_18
          refine lv_aload_n hx hb dX3_settle_23 rfl (lv_at hl 0 rfl) ?_
          refine lv_iload_n hx hb dX3_settle_24 rfl (lv_at hl 1 rfl) ?_
          refine lv_iload_n hx hb dX3_settle_25 rfl (lv_at hl 2 rfl) ?_
          have hPc := hP.part (cx := []) [] rfl
          have hDc := hD.part (cx := []) [] (by decide) rfl
          have hKc := hK
          obtain ⟨o_20, o_21, o_22, o_23, o_24, hf_19, hk_o_20, hk_o_21, hk_o_22, hk_o_23, hk_o_24⟩ := hT.get hk_h0
          obtain ⟨q_25, hq_25⟩ := pl_at (X := []) (f := f_17) (e := .inr (3, [.ref o_20, .ref o_21, .ref o_22, .ref o_23, .ref o_24])) hk_h0.1 hf_19
          refine cs_i (va_runV (As := [.int p0, .int (nI k)]) (rest := []) ⟨hx, hb, hml, hown, hts⟩ (t_X3_timeBetween l dC dI cs L ka f_17 h0 p0 (nI k) H.size hT hk_h0) (cwV 2 hts gX3_settle_X3_timeBetween rfl rfl rfl (by decide +kernel) ⟨Nat.le_of_ble_eq_true rfl, Nat.le_of_ble_eq_true rfl⟩) ⟨c_blind, va_recv hKc hPc (ci := 3) (q0 := q_25) rfl hq_25, c_pre hPc hKc hDc hN⟩ rfl rfl hl.1 rfl (lv_room (Nat.le_of_ble_eq_true rfl)) dX3_settle_26 ⟨Nat.le_of_ble_eq_true rfl, Nat.le_of_ble_eq_true rfl⟩) (fun r_26 hr_26 => ?_)
          refine lv_istore_n (lv' := [(3, .int r_26), (0, .ref h0), (1, .int p0), (2, .int (nI k))]) hx hb dX3_settle_29 rfl hl (by decide) rfl (fun ls hl => ?_)
          refine lv_iload_n hx hb dX3_settle_30 rfl (lv_at hl 0 rfl) ?_
          refine lv_iconst (v := (-1)) hx hb dX3_settle_31 (by decide) ?_
          refine lv_icmp_eq (tgt := 66) hx hb dX3_settle_32 (by decide) (fun c_27 => ?_) (fun c_27 => ?_)
          · refine lv_iinc (v := nI (k + 1)) (lv' := [(2, .int (nI (k + 1))), (3, .int r_26), (0, .ref h0), (1, .int p0)]) hx hb dX3_settle_66 hl (k := 3) rfl (by exact (nI_1 k)) (by decide) rfl (fun ls hl => ?_)
            refine lv_goto (tgt := 17) hx hb dX3_settle_69 (by decide) ?_
            exact ih (k + 1) (by omega) (by omega) _ _ _ hT (hP.part (cx := _) [] rfl) (hD.part (cx := _) [] (by decide) rfl) hS ls (lv_sub hl [2, 3, 0] rfl)
          · refine lv_aload_n hx hb dX3_settle_35 rfl (lv_at hl 1 rfl) ?_
            obtain ⟨q_28, hq_28⟩ := pl_at (X := []) (f := f_17) (e := .inr (3, [.ref o_20, .ref o_21, .ref o_22, .ref o_23, .ref o_24])) hk_h0.1 hf_19
            refine va_get (D := (dC, dI)) (ci := 3) (v := .ref o_22) (C := RX3) (T := TX3) (N := 5) hx hb hts hin3 hown hK hP q_28 hq_28 rfl 2 (by decide) (hts (.fieldLink RX3 19 "YamRiders$Roads" "toGoal" "[I") (by decide +kernel)) (fun _ h9 => h9) rfl dX3_settle_36 ?_
            refine lv_iload_n hx hb dX3_settle_39 rfl (lv_at hl 2 rfl) ?_
            obtain ⟨g_30, hf_29⟩ := hT.get hk_o_22
            obtain ⟨q_31, hq_31⟩ := pl_at (X := []) (f := f_17) (e := .inl (cs 0, 12, .inl g_30)) hk_o_22.1 hf_29
            refine va_iald hx hb hK hP q_31 0 hq_31 rfl (st_in c_2) dX3_settle_40 ?_
            refine lv_topi (fun v_32 ev_32 => ?_)
            refine lv_iload_n hx hb dX3_settle_41 rfl (lv_at hl 0 rfl) ?_
            refine lv_iadd hx hb dX3_settle_42 ?_
            refine lv_topi (fun v_33 ev_33 => ?_)
            refine lv_aload_n hx hb dX3_settle_43 rfl (lv_at hl 1 rfl) ?_
            obtain ⟨q_34, hq_34⟩ := pl_at (X := []) (f := f_17) (e := .inr (3, [.ref o_20, .ref o_21, .ref o_22, .ref o_23, .ref o_24])) hk_h0.1 hf_19
            refine va_get (D := (dC, dI)) (ci := 3) (v := .ref o_22) (C := RX3) (T := TX3) (N := 5) hx hb hts hin3 hown hK hP q_34 hq_34 rfl 2 (by decide) (hts (.fieldLink RX3 19 "YamRiders$Roads" "toGoal" "[I") (by decide +kernel)) (fun _ h9 => h9) rfl dX3_settle_44 ?_
            refine lv_iload_n hx hb dX3_settle_47 rfl (lv_at hl 3 rfl) ?_
            obtain ⟨q_35, hq_35⟩ := pl_at (X := []) (f := f_17) (e := .inl (cs 0, 12, .inl g_30)) hk_o_22.1 hf_29
            refine va_iald hx hb hK hP q_35 0 hq_35 rfl (vp_in_nI hlt (by decide)) dX3_settle_48 ?_
            refine lv_topi (fun v_36 ev_36 => ?_)
            refine lv_icmp_ge (tgt := 66) hx hb dX3_settle_49 (by decide) (fun c_37 => ?_) (fun c_37 => ?_)
            · refine lv_iinc (v := nI (k + 1)) (lv' := [(2, .int (nI (k + 1))), (3, .int r_26), (0, .ref h0), (1, .int p0)]) hx hb dX3_settle_66 hl (k := 3) rfl (by exact (nI_1 k)) (by decide) rfl (fun ls hl => ?_)
              refine lv_goto (tgt := 17) hx hb dX3_settle_69 (by decide) ?_
              exact ih (k + 1) (by omega) (by omega) _ _ _ hT (hP.part (cx := _) [] rfl) (hD.part (cx := _) [] (by decide) rfl) hS ls (lv_sub hl [2, 3, 0] rfl)
            · refine lv_aload_n hx hb dX3_settle_52 rfl (lv_at hl 1 rfl) ?_
              obtain ⟨q_38, hq_38⟩ := pl_at (X := []) (f := f_17) (e := .inr (3, [.ref o_20, .ref o_21, .ref o_22, .ref o_23, .ref o_24])) hk_h0.1 hf_19
              refine va_get (D := (dC, dI)) (ci := 3) (v := .ref o_22) (C := RX3) (T := TX3) (N := 5) hx hb hts hin3 hown hK hP q_38 hq_38 rfl 2 (by decide) (hts (.fieldLink RX3 19 "YamRiders$Roads" "toGoal" "[I") (by decide +kernel)) (fun _ h9 => h9) rfl dX3_settle_53 ?_
              refine lv_iload_n hx hb dX3_settle_56 rfl (lv_at hl 3 rfl) ?_
              refine lv_aload_n hx hb dX3_settle_57 rfl (lv_at hl 1 rfl) ?_
              obtain ⟨q_39, hq_39⟩ := pl_at (X := []) (f := f_17) (e := .inr (3, [.ref o_20, .ref o_21, .ref o_22, .ref o_23, .ref o_24])) hk_h0.1 hf_19
              refine va_get (D := (dC, dI)) (ci := 3) (v := .ref o_22) (C := RX3) (T := TX3) (N := 5) hx hb hts hin3 hown hK hP q_39 hq_39 rfl 2 (by decide) (hts (.fieldLink RX3 19 "YamRiders$Roads" "toGoal" "[I") (by decide +kernel)) (fun _ h9 => h9) rfl dX3_settle_58 ?_
              refine lv_iload_n hx hb dX3_settle_61 rfl (lv_at hl 2 rfl) ?_
              obtain ⟨q_40, hq_40⟩ := pl_at (X := []) (f := f_17) (e := .inl (cs 0, 12, .inl g_30)) hk_o_22.1 hf_29
              refine va_iald hx hb hK hP q_40 0 hq_40 rfl (st_in c_2) dX3_settle_62 ?_
              refine lv_topi (fun v_41 ev_41 => ?_)
              obtain rfl : v_32 = v_41 := ev_32.trans ev_41.symm
              refine lv_iload_n hx hb dX3_settle_63 rfl (lv_at hl 0 rfl) ?_
              refine lv_iadd hx hb dX3_settle_64 ?_
              refine lv_topi (fun v_42 ev_42 => ?_)
              obtain ⟨q_43, hq_43⟩ := pl_at (X := []) (f := f_17) (e := .inl (cs 0, 12, .inl g_30)) hk_o_22.1 hf_29
              refine va_iast hx hb hK hP hD hS q_43 0 hq_43 rfl (vp_in_nI hlt (by decide)) dX3_settle_65 (fun H locs hP9 hD9 hS => ?_)
              have hs_44 := pl_st (.inl (cs 0, 12, .inl (upd g_30 (nI k).toNatClampNeg v_42))) hD hk_o_22.1 hf_29 hq_43
              have hP9 : va_P (dC, dI) vwCl ((([] : va_W) ++ va_pl L f_17).set q_43 (o_22, .inl (cs 0, 12, .inl (upd g_30 (nI k).toNatClampNeg v_42)))) H := hP9
              have hD9 : va_D A ((([] : va_W) ++ va_pl L f_17).set q_43 (o_22, .inl (cs 0, 12, .inl (upd g_30 (nI k).toNatClampNeg v_42)))) := hD9
              rw [hs_44] at hP9 hD9
              have hT := hT.put (e := .inl (cs 0, 12, .inl (upd g_30 (nI k).toNatClampNeg v_42))) hk_o_22 ⟨_, rfl⟩
              have hf_45 : va_up f_17 o_22 (.inl (cs 0, 12, .inl (upd g_30 (nI k).toNatClampNeg v_42))) o_22 = .inl (cs 0, 12, .inl (upd g_30 (nI k).toNatClampNeg v_42)) := va_up_self _ _ _
              have hP := hP9
              have hD := hD9
              clear hP9 hD9 hs_44
              generalize va_up f_17 o_22 (.inl (cs 0, 12, .inl (upd g_30 (nI k).toNatClampNeg v_42))) = f_46 at hP hD hT hf_45
              generalize upd g_30 (nI k).toNatClampNeg v_42 = g_47 at hf_45
              refine lv_iinc (v := nI (k + 1)) (lv' := [(2, .int (nI (k + 1))), (3, .int r_26), (0, .ref h0), (1, .int p0)]) hx hb dX3_settle_66 hl (k := 3) rfl (by exact (nI_1 k)) (by decide) rfl (fun ls hl => ?_)
              refine lv_goto (tgt := 17) hx hb dX3_settle_69 (by decide) ?_
              exact ih (k + 1) (by omega) (by omega) _ _ _ hT (hP.part (cx := _) [] rfl) (hD.part (cx := _) [] (by decide) rfl) hS ls (lv_sub hl [2, 3, 0] rfl)
    exact HL 13 0 (by omega) (by omega) _ _ _ hT (hP.part (cx := []) [] rfl) (hD.part (cx := []) [] (by decide) rfl) hS ls (lv_sub hl [1, 2, 0] rfl)
  · have hP9 := hP.part (cx := []) [] rfl
    have hD9 := hD.part (cx := []) [] (by decide) rfl
    have hK9 := hK.sub (tys' := []) [] rfl
    refine W.widen (k := 0) (n := 0) (Nat.le_of_ble_eq_true rfl) (Nat.le_of_ble_eq_true rfl) ?_
    exact W.vret hx hb hr (fun t9 ht hW => ⟨⟨(), rfl, trivial, f, hT, by rw [ht]; exact hP9, va_K.moved hW.alike hK9, hD9⟩, hS.F ht⟩) hS.2.2 dX3_settle_7

set_option maxHeartbeats 4000000 in
set_option maxRecDepth 100000 in
theorem t_X3_measureTo (l : Launch) (dC : Nat → ClassId) (dI : Nat → Nat → Nat) (cs : Nat → ClassId) (L : List Nat) (ka : Nat → Nat) (f : Nat → va_E) (h0 : Nat) (p0 : Int32) (sz : Nat) (hT : tO L ka cs f) (hk_h0 : tp L ka 3 h0) : Met l yX3_measureTo wsX3_measureTo ({ frames := 3, cells := 0, slots := 0, locals := 65 }) (va_Pc [.ref h0, .int p0] (cP dC dI ([] ++ va_pl L f) (tyC cs) sz)) (va_Qv (fun (_ : Unit) => True) (fun (_ : Unit) t9 => ∃ (f2 : Nat → va_E), (tO L ka cs f2) ∧ cQ dC dI ([] ++ va_pl L f2) [] (va_A ([] ++ va_pl L f) sz) t9) (va_A ([] ++ va_pl L f) sz)) 0 0 (va_A ([] ++ va_pl L f) sz) := by
  refine Met.ofW (cc := cX3_measureTo) (maxL := 4) (ret := none) (by decide) rfl ?_
  intro p e s m args below meth c s₁ B hml hv
  obtain ⟨rfl, hsz, hP, hK, hD0, hN⟩ := hv
  have hx := B.exec
  have hb := B.bytes
  have hr := B.returns
  have hts := atoms_spec (ws := wsX3_measureTo) B.pre
  have hown : s.vm.findClass RX3 = some m.cls := findClass_of_methodNamed B.named
  have hlocks := B.notSynchronized
  subst hsz
  have hin3 : ∀ w ∈ u_ws RX3 TX3 5, w ∈ wsX3_measureTo := by decide +kernel
  have hD := hD0.self (sz := s.heap.size)
  generalize hAe : va_A ([] ++ va_pl L f) s.heap.size = A at hD ⊢
  have hA : ∀ q : Nat, s.heap.size ≤ q → A q := fun q h => by rw [← hAe]; exact Or.inr h
  have hS : va_S A s.heap s.heap [] := va_S.rf
  have hP : va_P (dC, dI) vwCl ([] ++ va_pl L f) s.heap := hP
  have hl := lv_entry ([.ref h0, .int p0]) (n := 4) (Nat.le_of_ble_eq_true rfl)
  rw [lg_entry_eq]
  generalize (lg_sl ([.ref h0, .int p0]) ++ List.replicate (4 - (lg_sl ([.ref h0, .int p0])).length) Slot.unset).toArray = ls at hl ⊢
  have hl : lv_has ls 4 [(0, .ref h0), (1, .int p0)] := hl
  refine lv_iconst (v := 0) hx hb dX3_measureTo_0 (by decide) ?_
  refine lv_istore_n (lv' := [(2, .int 0), (0, .ref h0), (1, .int p0)]) hx hb dX3_measureTo_1 rfl hl (by decide) rfl (fun ls hl => ?_)
  have HL : ∀ (n k : Nat), k ≤ 12 → 12 + 1 ≤ k + n → ∀ (f_1 : Nat → va_E) (H : Heap) (locs : List Loc), tO L ka cs f_1 → va_P (dC, dI) vwCl ([] ++ va_pl L f_1) H → va_D A ([] ++ va_pl L f_1) → va_S A s.heap H locs → ∀ ls : Array Slot, lv_has ls 4 [(0, .ref h0), (1, .int p0), (2, .int (nI k))] → W p l e (headSpec wsX3_measureTo ({ frames := 3, cells := 0, slots := 0, locals := 65 })).room s m ([.ref h0, .int p0]).toArray below meth c H locs 0 0 (MQ below (va_Qv (fun (_ : Unit) => True) (fun (_ : Unit) t9 => ∃ (f2 : Nat → va_E), (tO L ka cs f2) ∧ cQ dC dI ([] ++ va_pl L f2) [] A t9) A) ([.ref h0, .int p0]).toArray s 0 0 A) (F0 m 2 ls []) := by
    intro n
    induction n with
    | zero => intro k h1 h2; exact absurd h2 (by omega)
    | succ n ih =>
      intro k hk hn f_1 H locs hT hP hD hS ls hl
      refine lv_iload_n hx hb dX3_measureTo_2 rfl (lv_at hl 2 rfl) ?_
      refine lv_bipush (v := 12) hx hb dX3_measureTo_3 (by decide) ?_
      refine lv_icmp_ge (tgt := 38) hx hb dX3_measureTo_5 (by decide) (fun c_2 => ?_) (fun c_2 => ?_)
      · have hke : k = 12 := by
          rcases Nat.lt_or_ge k 12 with q | q
          · exact absurd c_2 (nI_ge q (by decide))
          · omega
        refine lv_iconst (v := 0) hx hb dX3_measureTo_38 (by decide) ?_
        refine lv_istore_n (lv' := [(2, .int 0), (0, .ref h0), (1, .int p0)]) hx hb dX3_measureTo_39 rfl hl (by decide) rfl (fun ls hl => ?_)
        have HL_j : ∀ (n_j j : Nat), j ≤ 12 → 12 + 1 ≤ j + n_j → ∀ (f_3 : Nat → va_E) (H : Heap) (locs : List Loc), tO L ka cs f_3 → va_P (dC, dI) vwCl ([] ++ va_pl L f_3) H → va_D A ([] ++ va_pl L f_3) → va_S A s.heap H locs → ∀ ls : Array Slot, lv_has ls 4 [(0, .ref h0), (1, .int p0), (2, .int (nI j))] → W p l e (headSpec wsX3_measureTo ({ frames := 3, cells := 0, slots := 0, locals := 65 })).room s m ([.ref h0, .int p0]).toArray below meth c H locs 0 0 (MQ below (va_Qv (fun (_ : Unit) => True) (fun (_ : Unit) t9 => ∃ (f2 : Nat → va_E), (tO L ka cs f2) ∧ cQ dC dI ([] ++ va_pl L f2) [] A t9) A) ([.ref h0, .int p0]).toArray s 0 0 A) (F0 m 40 ls []) := by
          intro n_j
          induction n_j with
          | zero => intro j h1 h2; exact absurd h2 (by omega)
          | succ n_j ih_j =>
            intro j hk_j hn_j f_3 H locs hT hP hD hS ls hl
            refine lv_iload_n hx hb dX3_measureTo_40 rfl (lv_at hl 2 rfl) ?_
            refine lv_bipush (v := 12) hx hb dX3_measureTo_41 (by decide) ?_
            refine lv_icmp_ge (tgt := 68) hx hb dX3_measureTo_43 (by decide) (fun c_4 => ?_) (fun c_4 => ?_)
            · have hke_j : j = 12 := by
                rcases Nat.lt_or_ge j 12 with q | q
                · exact absurd c_4 (nI_ge q (by decide))
                · omega
              have hP9 := hP.part (cx := []) [] rfl
              have hD9 := hD.part (cx := []) [] (by decide) rfl
              have hK9 := hK.sub (tys' := []) [] rfl
              refine W.widen (k := 0) (n := 0) (Nat.le_of_ble_eq_true rfl) (Nat.le_of_ble_eq_true rfl) ?_
              exact W.vret hx hb hr (fun t9 ht hW => ⟨⟨(), rfl, trivial, f_3, hT, by rw [ht]; exact hP9, va_K.moved hW.alike hK9, hD9⟩, hS.F ht⟩) hS.2.2 dX3_measureTo_68
            · have hlt_j : j < 12 := by
                rcases Nat.lt_or_ge j 12 with q | q
                · exact q
                · exact absurd (show nI 12 ≤ nI j from nI_le q (by omega)) c_4
              refine lv_aload_n hx hb dX3_measureTo_46 rfl (lv_at hl 0 rfl) ?_
              have hPc := hP.part (cx := []) [] rfl
              have hDc := hD.part (cx := []) [] (by decide) rfl
              have hKc := hK
              obtain ⟨o_6, o_7, o_8, o_9, o_10, hf_5, hk_o_6, hk_o_7, hk_o_8, hk_o_9, hk_o_10⟩ := hT.get hk_h0
              obtain ⟨q_11, hq_11⟩ := pl_at (X := []) (f := f_3) (e := .inr (3, [.ref o_6, .ref o_7, .ref o_8, .ref o_9, .ref o_10])) hk_h0.1 hf_5
              refine cs_i (va_runV (As := []) (rest := []) ⟨hx, hb, hml, hown, hts⟩ (t_X3_nearestUnsettled l dC dI cs L ka f_3 h0 H.size hT hk_h0) (cwV 0 hts gX3_measureTo_X3_nearestUnsettled rfl rfl rfl (by decide +kernel) ⟨Nat.le_of_ble_eq_true rfl, Nat.le_of_ble_eq_true rfl⟩) ⟨c_blind, va_recv hKc hPc (ci := 3) (q0 := q_11) rfl hq_11, c_pre hPc hKc hDc hN⟩ rfl rfl hl.1 rfl (lv_room (Nat.le_of_ble_eq_true rfl)) dX3_measureTo_47 ⟨Nat.le_of_ble_eq_true rfl, Nat.le_of_ble_eq_true rfl⟩) (fun r_12 hr_12 => ?_)
              refine lv_istore_n (lv' := [(3, .int r_12), (0, .ref h0), (1, .int p0), (2, .int (nI j))]) hx hb dX3_measureTo_50 rfl hl (by decide) rfl (fun ls hl => ?_)
              refine lv_iload_n hx hb dX3_measureTo_51 rfl (lv_at hl 0 rfl) ?_
              refine lv_iconst (v := (-1)) hx hb dX3_measureTo_52 (by decide) ?_
              refine lv_icmp_ne (tgt := 57) hx hb dX3_measureTo_53 (by decide) (fun c_13 => ?_) (fun c_13 => ?_)
              · refine lv_aload_n hx hb dX3_measureTo_57 rfl (lv_at hl 1 rfl) ?_
                refine lv_iload_n hx hb dX3_measureTo_58 rfl (lv_at hl 0 rfl) ?_
                have hPc := hP.part (cx := []) [] rfl
                have hDc := hD.part (cx := []) [] (by decide) rfl
                have hKc := hK
                have hFc := va_freeP (cx := []) hD hS hA [] rfl
                obtain ⟨q_14, hq_14⟩ := pl_at (X := []) (f := f_3) (e := .inr (3, [.ref o_6, .ref o_7, .ref o_8, .ref o_9, .ref o_10])) hk_h0.1 hf_5
                refine va_callv (va_runV (As := [.int r_12]) (rest := []) ⟨hx, hb, hml, hown, hts⟩ (t_X3_settle l dC dI cs L ka f_3 h0 r_12 H.size hT hk_h0) (cwV 1 hts gX3_measureTo_X3_settle rfl rfl rfl (by decide +kernel) ⟨Nat.le_of_ble_eq_true rfl, Nat.le_of_ble_eq_true rfl⟩) ⟨c_blind, va_recv hKc hPc (ci := 3) (q0 := q_14) rfl hq_14, c_pre hPc hKc hDc hN⟩ rfl rfl hl.1 rfl (lv_room (Nat.le_of_ble_eq_true rfl)) dX3_measureTo_59 ⟨Nat.le_of_ble_eq_true rfl, Nat.le_of_ble_eq_true rfl⟩) hS (fun q _ h => hFc q h) hFc (fun u9 t9 H1 locs ht hvm hw hB hz1 hk1 hS => ?_)
                obtain ⟨f_16, hf_x_17, hP1, hK1, hD1⟩ := hB
                rw [ht] at hP1
                have hK1 := va_K.moved hvm.symm hK1
                obtain ⟨hP, hD⟩ := va_joinP (X := []) (cx := []) (wr := []) (rx := []) (pl := va_pl L f_3) (pl1 := va_pl L f_16) hP hD [] [] rfl rfl (by decide) (by decide) hk1 hFc hP1 hD1
                have hT := hf_x_17
                generalize H1 = H at hP hS ⊢
                have hP : va_P (dC, dI) vwCl ([] ++ va_pl L f_16) H := hP
                have hD : va_D A ([] ++ va_pl L f_16) := hD
                refine W.widen (k := 0) (n := 0) (Nat.le_of_ble_eq_true rfl) (Nat.le_of_ble_eq_true rfl) ?_
                refine lv_iinc (v := nI (j + 1)) (lv' := [(2, .int (nI (j + 1))), (3, .int r_12), (0, .ref h0), (1, .int p0)]) hx hb dX3_measureTo_62 hl (k := 3) rfl (by exact (nI_1 j)) (by decide) rfl (fun ls hl => ?_)
                refine lv_goto (tgt := 40) hx hb dX3_measureTo_65 (by decide) ?_
                exact ih_j (j + 1) (by omega) (by omega) _ _ _ hT (hP.part (cx := _) [] rfl) (hD.part (cx := _) [] (by decide) rfl) hS ls (lv_sub hl [2, 3, 0] rfl)
              · have hP9 := hP.part (cx := []) [] rfl
                have hD9 := hD.part (cx := []) [] (by decide) rfl
                have hK9 := hK.sub (tys' := []) [] rfl
                refine W.widen (k := 0) (n := 0) (Nat.le_of_ble_eq_true rfl) (Nat.le_of_ble_eq_true rfl) ?_
                exact W.vret hx hb hr (fun t9 ht hW => ⟨⟨(), rfl, trivial, f_3, hT, by rw [ht]; exact hP9, va_K.moved hW.alike hK9, hD9⟩, hS.F ht⟩) hS.2.2 dX3_measureTo_56
        exact HL_j 13 0 (by omega) (by omega) _ _ _ hT (hP.part (cx := []) [] rfl) (hD.part (cx := []) [] (by decide) rfl) hS ls (lv_sub hl [1, 2, 0] rfl)
      · have hlt : k < 12 := by
          rcases Nat.lt_or_ge k 12 with q | q
          · exact q
          · exact absurd (show nI 12 ≤ nI k from nI_le q (by omega)) c_2
        refine lv_aload_n hx hb dX3_measureTo_8 rfl (lv_at hl 0 rfl) ?_
        obtain ⟨o_19, o_20, o_21, o_22, o_23, hf_18, hk_o_19, hk_o_20, hk_o_21, hk_o_22, hk_o_23⟩ := hT.get hk_h0
        obtain ⟨q_24, hq_24⟩ := pl_at (X := []) (f := f_1) (e := .inr (3, [.ref o_19, .ref o_20, .ref o_21, .ref o_22, .ref o_23])) hk_h0.1 hf_18
        refine va_get (D := (dC, dI)) (ci := 3) (v := .ref o_21) (C := RX3) (T := TX3) (N := 5) hx hb hts hin3 hown hK hP q_24 hq_24 rfl 2 (by decide) (hts (.fieldLink RX3 19 "YamRiders$Roads" "toGoal" "[I") (by decide +kernel)) (fun _ h9 => h9) rfl dX3_measureTo_9 ?_
        refine lv_iload_n hx hb dX3_measureTo_12 rfl (lv_at hl 2 rfl) ?_
        refine lv_iload_n hx hb dX3_measureTo_13 rfl (lv_at hl 2 rfl) ?_
        refine lv_iload_n hx hb dX3_measureTo_14 rfl (lv_at hl 1 rfl) ?_
        refine lv_icmp_ne (tgt := 22) hx hb dX3_measureTo_15 (by decide) (fun c_25 => ?_) (fun c_25 => ?_)
        · refine lv_ldc (v := 1000000) hx hb hown (hts (.constant RX3 42 (1000000)) (by decide +kernel)) dX3_measureTo_22 ?_
          obtain ⟨g_27, hf_26⟩ := hT.get hk_o_21
          obtain ⟨q_28, hq_28⟩ := pl_at (X := []) (f := f_1) (e := .inl (cs 0, 12, .inl g_27)) hk_o_21.1 hf_26
          refine va_iast hx hb hK hP hD hS q_28 0 hq_28 rfl (vp_in_nI hlt (by decide)) dX3_measureTo_24 (fun H locs hP9 hD9 hS => ?_)
          have hs_29 := pl_st (.inl (cs 0, 12, .inl (upd g_27 (nI k).toNatClampNeg 1000000))) hD hk_o_21.1 hf_26 hq_28
          have hP9 : va_P (dC, dI) vwCl ((([] : va_W) ++ va_pl L f_1).set q_28 (o_21, .inl (cs 0, 12, .inl (upd g_27 (nI k).toNatClampNeg 1000000)))) H := hP9
          have hD9 : va_D A ((([] : va_W) ++ va_pl L f_1).set q_28 (o_21, .inl (cs 0, 12, .inl (upd g_27 (nI k).toNatClampNeg 1000000)))) := hD9
          rw [hs_29] at hP9 hD9
          have hT := hT.put (e := .inl (cs 0, 12, .inl (upd g_27 (nI k).toNatClampNeg 1000000))) hk_o_21 ⟨_, rfl⟩
          have hf_30 : va_up f_1 o_21 (.inl (cs 0, 12, .inl (upd g_27 (nI k).toNatClampNeg 1000000))) o_21 = .inl (cs 0, 12, .inl (upd g_27 (nI k).toNatClampNeg 1000000)) := va_up_self _ _ _
          have hP := hP9
          have hD := hD9
          clear hP9 hD9 hs_29
          generalize va_up f_1 o_21 (.inl (cs 0, 12, .inl (upd g_27 (nI k).toNatClampNeg 1000000))) = f_31 at hP hD hT hf_30
          generalize upd g_27 (nI k).toNatClampNeg 1000000 = g_32 at hf_30
          refine lv_aload_n hx hb dX3_measureTo_25 rfl (lv_at hl 0 rfl) ?_
          obtain ⟨o_34, o_35, o_36, o_37, o_38, hf_33, hk_o_34, hk_o_35, hk_o_36, hk_o_37, hk_o_38⟩ := hT.get hk_h0
          obtain ⟨q_39, hq_39⟩ := pl_at (X := []) (f := f_31) (e := .inr (3, [.ref o_34, .ref o_35, .ref o_36, .ref o_37, .ref o_38])) hk_h0.1 hf_33
          refine va_get (D := (dC, dI)) (ci := 3) (v := .ref o_37) (C := RX3) (T := TX3) (N := 5) hx hb hts hin3 hown hK hP q_39 hq_39 rfl 3 (by decide) (hts (.fieldLink RX3 23 "YamRiders$Roads" "settled" "[Z") (by decide +kernel)) (fun _ h9 => h9) rfl dX3_measureTo_26 ?_
          refine lv_iload_n hx hb dX3_measureTo_29 rfl (lv_at hl 2 rfl) ?_
          refine lv_iconst (v := 0) hx hb dX3_measureTo_30 (by decide) ?_
          obtain ⟨g_41, hf_40⟩ := hT.get hk_o_37
          obtain ⟨q_42, hq_42⟩ := pl_at (X := []) (f := f_31) (e := .inl (cs 1, 12, .inl g_41)) hk_o_37.1 hf_40
          refine va_zast hx hb hK hP hD hS q_42 1 hq_42 rfl (vp_in_nI hlt (by decide)) dX3_measureTo_31 (fun H locs hP9 hD9 hS => ?_)
          have hs_43 := pl_st (.inl (cs 1, 12, .inl (upd g_41 (nI k).toNatClampNeg (vp_nar .boolean 0)))) hD hk_o_37.1 hf_40 hq_42
          have hP9 : va_P (dC, dI) vwCl ((([] : va_W) ++ va_pl L f_31).set q_42 (o_37, .inl (cs 1, 12, .inl (upd g_41 (nI k).toNatClampNeg (vp_nar .boolean 0))))) H := hP9
          have hD9 : va_D A ((([] : va_W) ++ va_pl L f_31).set q_42 (o_37, .inl (cs 1, 12, .inl (upd g_41 (nI k).toNatClampNeg (vp_nar .boolean 0))))) := hD9
          rw [hs_43] at hP9 hD9
          have hT := hT.put (e := .inl (cs 1, 12, .inl (upd g_41 (nI k).toNatClampNeg (vp_nar .boolean 0)))) hk_o_37 ⟨_, rfl⟩
          have hf_44 : va_up f_31 o_37 (.inl (cs 1, 12, .inl (upd g_41 (nI k).toNatClampNeg (vp_nar .boolean 0)))) o_37 = .inl (cs 1, 12, .inl (upd g_41 (nI k).toNatClampNeg (vp_nar .boolean 0))) := va_up_self _ _ _
          have hP := hP9
          have hD := hD9
          clear hP9 hD9 hs_43
          generalize va_up f_31 o_37 (.inl (cs 1, 12, .inl (upd g_41 (nI k).toNatClampNeg (vp_nar .boolean 0)))) = f_45 at hP hD hT hf_44
          generalize upd g_41 (nI k).toNatClampNeg (vp_nar .boolean 0) = g_46 at hf_44
          refine lv_iinc (v := nI (k + 1)) (lv' := [(2, .int (nI (k + 1))), (0, .ref h0), (1, .int p0)]) hx hb dX3_measureTo_32 hl (k := 2) rfl (by exact (nI_1 k)) (by decide) rfl (fun ls hl => ?_)
          refine lv_goto (tgt := 2) hx hb dX3_measureTo_35 (by decide) ?_
          exact ih (k + 1) (by omega) (by omega) _ _ _ hT (hP.part (cx := _) [] rfl) (hD.part (cx := _) [] (by decide) rfl) hS ls (lv_sub hl [1, 2, 0] rfl)
        · refine lv_iconst (v := 0) hx hb dX3_measureTo_18 (by decide) ?_
          refine lv_goto (tgt := 24) hx hb dX3_measureTo_19 (by decide) ?_
          obtain ⟨g_48, hf_47⟩ := hT.get hk_o_21
          obtain ⟨q_49, hq_49⟩ := pl_at (X := []) (f := f_1) (e := .inl (cs 0, 12, .inl g_48)) hk_o_21.1 hf_47
          refine va_iast hx hb hK hP hD hS q_49 0 hq_49 rfl (vp_in_nI hlt (by decide)) dX3_measureTo_24 (fun H locs hP9 hD9 hS => ?_)
          have hs_50 := pl_st (.inl (cs 0, 12, .inl (upd g_48 (nI k).toNatClampNeg 0))) hD hk_o_21.1 hf_47 hq_49
          have hP9 : va_P (dC, dI) vwCl ((([] : va_W) ++ va_pl L f_1).set q_49 (o_21, .inl (cs 0, 12, .inl (upd g_48 (nI k).toNatClampNeg 0)))) H := hP9
          have hD9 : va_D A ((([] : va_W) ++ va_pl L f_1).set q_49 (o_21, .inl (cs 0, 12, .inl (upd g_48 (nI k).toNatClampNeg 0)))) := hD9
          rw [hs_50] at hP9 hD9
          have hT := hT.put (e := .inl (cs 0, 12, .inl (upd g_48 (nI k).toNatClampNeg 0))) hk_o_21 ⟨_, rfl⟩
          have hf_51 : va_up f_1 o_21 (.inl (cs 0, 12, .inl (upd g_48 (nI k).toNatClampNeg 0))) o_21 = .inl (cs 0, 12, .inl (upd g_48 (nI k).toNatClampNeg 0)) := va_up_self _ _ _
          have hP := hP9
          have hD := hD9
          clear hP9 hD9 hs_50
          generalize va_up f_1 o_21 (.inl (cs 0, 12, .inl (upd g_48 (nI k).toNatClampNeg 0))) = f_52 at hP hD hT hf_51
          generalize upd g_48 (nI k).toNatClampNeg 0 = g_53 at hf_51
          refine lv_aload_n hx hb dX3_measureTo_25 rfl (lv_at hl 0 rfl) ?_
          obtain ⟨o_55, o_56, o_57, o_58, o_59, hf_54, hk_o_55, hk_o_56, hk_o_57, hk_o_58, hk_o_59⟩ := hT.get hk_h0
          obtain ⟨q_60, hq_60⟩ := pl_at (X := []) (f := f_52) (e := .inr (3, [.ref o_55, .ref o_56, .ref o_57, .ref o_58, .ref o_59])) hk_h0.1 hf_54
          refine va_get (D := (dC, dI)) (ci := 3) (v := .ref o_58) (C := RX3) (T := TX3) (N := 5) hx hb hts hin3 hown hK hP q_60 hq_60 rfl 3 (by decide) (hts (.fieldLink RX3 23 "YamRiders$Roads" "settled" "[Z") (by decide +kernel)) (fun _ h9 => h9) rfl dX3_measureTo_26 ?_
          refine lv_iload_n hx hb dX3_measureTo_29 rfl (lv_at hl 2 rfl) ?_
          refine lv_iconst (v := 0) hx hb dX3_measureTo_30 (by decide) ?_
          obtain ⟨g_62, hf_61⟩ := hT.get hk_o_58
          obtain ⟨q_63, hq_63⟩ := pl_at (X := []) (f := f_52) (e := .inl (cs 1, 12, .inl g_62)) hk_o_58.1 hf_61
          refine va_zast hx hb hK hP hD hS q_63 1 hq_63 rfl (vp_in_nI hlt (by decide)) dX3_measureTo_31 (fun H locs hP9 hD9 hS => ?_)
          have hs_64 := pl_st (.inl (cs 1, 12, .inl (upd g_62 (nI k).toNatClampNeg (vp_nar .boolean 0)))) hD hk_o_58.1 hf_61 hq_63
          have hP9 : va_P (dC, dI) vwCl ((([] : va_W) ++ va_pl L f_52).set q_63 (o_58, .inl (cs 1, 12, .inl (upd g_62 (nI k).toNatClampNeg (vp_nar .boolean 0))))) H := hP9
          have hD9 : va_D A ((([] : va_W) ++ va_pl L f_52).set q_63 (o_58, .inl (cs 1, 12, .inl (upd g_62 (nI k).toNatClampNeg (vp_nar .boolean 0))))) := hD9
          rw [hs_64] at hP9 hD9
          have hT := hT.put (e := .inl (cs 1, 12, .inl (upd g_62 (nI k).toNatClampNeg (vp_nar .boolean 0)))) hk_o_58 ⟨_, rfl⟩
          have hf_65 : va_up f_52 o_58 (.inl (cs 1, 12, .inl (upd g_62 (nI k).toNatClampNeg (vp_nar .boolean 0)))) o_58 = .inl (cs 1, 12, .inl (upd g_62 (nI k).toNatClampNeg (vp_nar .boolean 0))) := va_up_self _ _ _
          have hP := hP9
          have hD := hD9
          clear hP9 hD9 hs_64
          generalize va_up f_52 o_58 (.inl (cs 1, 12, .inl (upd g_62 (nI k).toNatClampNeg (vp_nar .boolean 0)))) = f_66 at hP hD hT hf_65
          generalize upd g_62 (nI k).toNatClampNeg (vp_nar .boolean 0) = g_67 at hf_65
          refine lv_iinc (v := nI (k + 1)) (lv' := [(2, .int (nI (k + 1))), (0, .ref h0), (1, .int p0)]) hx hb dX3_measureTo_32 hl (k := 2) rfl (by exact (nI_1 k)) (by decide) rfl (fun ls hl => ?_)
          refine lv_goto (tgt := 2) hx hb dX3_measureTo_35 (by decide) ?_
          exact ih (k + 1) (by omega) (by omega) _ _ _ hT (hP.part (cx := _) [] rfl) (hD.part (cx := _) [] (by decide) rfl) hS ls (lv_sub hl [1, 2, 0] rfl)
  exact HL 13 0 (by omega) (by omega) _ _ _ hT (hP.part (cx := []) [] rfl) (hD.part (cx := []) [] (by decide) rfl) hS ls (lv_sub hl [1, 2, 0] rfl)

set_option maxHeartbeats 4000000 in
set_option maxRecDepth 100000 in
theorem t_X3_leastTime (l : Launch) (dC : Nat → ClassId) (dI : Nat → Nat → Nat) (cs : Nat → ClassId) (L : List Nat) (ka : Nat → Nat) (f : Nat → va_E) (h0 : Nat) (p0 : Int32) (p1 : Int32) (sz : Nat) (hT : tO L ka cs f) (hk_h0 : tp L ka 3 h0) : Met l yX3_leastTime wsX3_leastTime ({ frames := 4, cells := 0, slots := 0, locals := 88 }) (va_Pc [.ref h0, .int p0, .int p1] (cP dC dI ([] ++ va_pl L f) (tyC cs) sz)) (va_Qi (fun (r : Int32) (_ : Unit) => True) (fun (_ : Unit) t9 => ∃ (f2 : Nat → va_E), (tO L ka cs f2) ∧ cQ dC dI ([] ++ va_pl L f2) [] (va_A ([] ++ va_pl L f) sz) t9) (va_A ([] ++ va_pl L f) sz)) 0 0 (va_A ([] ++ va_pl L f) sz) := by
  refine Met.ofW (cc := cX3_leastTime) (maxL := 3) (ret := (some .int)) (by decide) rfl ?_
  intro p e s m args below meth c s₁ B hml hv
  obtain ⟨rfl, hsz, hP, hK, hD0, hN⟩ := hv
  have hx := B.exec
  have hb := B.bytes
  have hr := B.returns
  have hts := atoms_spec (ws := wsX3_leastTime) B.pre
  have hown : s.vm.findClass RX3 = some m.cls := findClass_of_methodNamed B.named
  have hlocks := B.notSynchronized
  subst hsz
  have hin3 : ∀ w ∈ u_ws RX3 TX3 5, w ∈ wsX3_leastTime := by decide +kernel
  have hD := hD0.self (sz := s.heap.size)
  generalize hAe : va_A ([] ++ va_pl L f) s.heap.size = A at hD ⊢
  have hA : ∀ q : Nat, s.heap.size ≤ q → A q := fun q h => by rw [← hAe]; exact Or.inr h
  have hS : va_S A s.heap s.heap [] := va_S.rf
  have hP : va_P (dC, dI) vwCl ([] ++ va_pl L f) s.heap := hP
  have hl := lv_entry ([.ref h0, .int p0, .int p1]) (n := 3) (Nat.le_of_ble_eq_true rfl)
  rw [lg_entry_eq]
  generalize (lg_sl ([.ref h0, .int p0, .int p1]) ++ List.replicate (3 - (lg_sl ([.ref h0, .int p0, .int p1])).length) Slot.unset).toArray = ls at hl ⊢
  have hl : lv_has ls 3 [(0, .ref h0), (1, .int p0), (2, .int p1)] := hl
  refine lv_iload_n hx hb dX3_leastTime_0 rfl (lv_at hl 1 rfl) ?_
  have hPc := hP.sub (ws' := []) [] rfl
  have hDc := hD.sub (ws' := []) [] (by decide) rfl
  have hKc := hK.sub (tys' := []) [] rfl
  refine cs_i (va_runSN (As := [.int p0]) (rest := []) ⟨hx, hb, hml, hown, hts⟩ (c_X8_isStation l dC dI p0 s.heap.size) ⟨va_cnB 1 hts ggX3_leastTime_X8_isStation rfl rfl rfl (hN.1 (.methodLinkNest RX3 30 yX8_isStation "YamRiders") (by decide +kernel)) (hts (.initialized RX8) (by decide +kernel)) (by decide +kernel) ⟨Nat.le_of_ble_eq_true rfl, Nat.le_of_ble_eq_true rfl⟩, hts (.static yX8_isStation) (by decide +kernel), trivial⟩ ⟨c_blind, c_pre hPc hKc hDc hN⟩ rfl rfl hl.1 rfl (lv_room (Nat.le_of_ble_eq_true rfl)) dX3_leastTime_1 ⟨Nat.le_of_ble_eq_true rfl, Nat.le_of_ble_eq_true rfl⟩) (fun r_1 hr_1 => ?_)
  subst hr_1
  refine lv_if_eq (tgt := 14) hx hb dX3_leastTime_4 (by decide) (fun c_2 => ?_) (fun c_2 => ?_)
  · refine lv_iconst (v := (-1)) hx hb dX3_leastTime_14 (by decide) ?_
    have hP9 := hP.part (cx := []) [] rfl
    have hD9 := hD.part (cx := []) [] (by decide) rfl
    have hK9 := hK.sub (tys' := []) [] rfl
    refine W.widen (k := 0) (n := 0) (Nat.le_of_ble_eq_true rfl) (Nat.le_of_ble_eq_true rfl) ?_
    exact W.iret (v := (-1)) hx hb hr (fun t9 ht hW => ⟨⟨_, (), rfl, trivial, f, hT, by rw [ht]; exact hP9, va_K.moved hW.alike hK9, hD9⟩, hS.F ht⟩) hS.2.2 dX3_leastTime_15
  · refine lv_iload_n hx hb dX3_leastTime_7 rfl (lv_at hl 2 rfl) ?_
    have hPc := hP.sub (ws' := []) [] rfl
    have hDc := hD.sub (ws' := []) [] (by decide) rfl
    have hKc := hK.sub (tys' := []) [] rfl
    refine cs_i (va_runSN (As := [.int p1]) (rest := []) ⟨hx, hb, hml, hown, hts⟩ (c_X8_isStation l dC dI p1 s.heap.size) ⟨va_cnB 1 hts ggX3_leastTime_X8_isStation rfl rfl rfl (hN.1 (.methodLinkNest RX3 30 yX8_isStation "YamRiders") (by decide +kernel)) (hts (.initialized RX8) (by decide +kernel)) (by decide +kernel) ⟨Nat.le_of_ble_eq_true rfl, Nat.le_of_ble_eq_true rfl⟩, hts (.static yX8_isStation) (by decide +kernel), trivial⟩ ⟨c_blind, c_pre hPc hKc hDc hN⟩ rfl rfl hl.1 rfl (lv_room (Nat.le_of_ble_eq_true rfl)) dX3_leastTime_8 ⟨Nat.le_of_ble_eq_true rfl, Nat.le_of_ble_eq_true rfl⟩) (fun r_3 hr_3 => ?_)
    subst hr_3
    refine lv_if_ne (tgt := 16) hx hb dX3_leastTime_11 (by decide) (fun c_4 => ?_) (fun c_4 => ?_)
    · refine lv_aload_n hx hb dX3_leastTime_16 rfl (lv_at hl 0 rfl) ?_
      refine lv_iload_n hx hb dX3_leastTime_17 rfl (lv_at hl 2 rfl) ?_
      have hPc := hP.part (cx := []) [] rfl
      have hDc := hD.part (cx := []) [] (by decide) rfl
      have hKc := hK
      have hFc := va_freeP (cx := []) hD hS hA [] rfl
      obtain ⟨o_6, o_7, o_8, o_9, o_10, hf_5, hk_o_6, hk_o_7, hk_o_8, hk_o_9, hk_o_10⟩ := hT.get hk_h0
      obtain ⟨q_11, hq_11⟩ := pl_at (X := []) (f := f) (e := .inr (3, [.ref o_6, .ref o_7, .ref o_8, .ref o_9, .ref o_10])) hk_h0.1 hf_5
      refine va_callv (va_runV (As := [.int p1]) (rest := []) ⟨hx, hb, hml, hown, hts⟩ (t_X3_measureTo l dC dI cs L ka f h0 p1 s.heap.size hT hk_h0) (cwV 1 hts gX3_leastTime_X3_measureTo rfl rfl rfl (by decide +kernel) ⟨Nat.le_of_ble_eq_true rfl, Nat.le_of_ble_eq_true rfl⟩) ⟨c_blind, va_recv hKc hPc (ci := 3) (q0 := q_11) rfl hq_11, c_pre hPc hKc hDc hN⟩ rfl rfl hl.1 rfl (lv_room (Nat.le_of_ble_eq_true rfl)) dX3_leastTime_18 ⟨Nat.le_of_ble_eq_true rfl, Nat.le_of_ble_eq_true rfl⟩) hS (fun q _ h => hFc q h) hFc (fun u9 t9 H1 locs ht hvm hw hB hz1 hk1 hS => ?_)
      obtain ⟨f_13, hf_x_14, hP1, hK1, hD1⟩ := hB
      rw [ht] at hP1
      have hK1 := va_K.moved hvm.symm hK1
      obtain ⟨hP, hD⟩ := va_joinP (X := []) (cx := []) (wr := []) (rx := []) (pl := va_pl L f) (pl1 := va_pl L f_13) hP hD [] [] rfl rfl (by decide) (by decide) hk1 hFc hP1 hD1
      have hT := hf_x_14
      generalize H1 = H at hP hS ⊢
      have hP : va_P (dC, dI) vwCl ([] ++ va_pl L f_13) H := hP
      have hD : va_D A ([] ++ va_pl L f_13) := hD
      refine W.widen (k := 0) (n := 0) (Nat.le_of_ble_eq_true rfl) (Nat.le_of_ble_eq_true rfl) ?_
      refine lv_aload_n hx hb dX3_leastTime_21 rfl (lv_at hl 0 rfl) ?_
      obtain ⟨o_16, o_17, o_18, o_19, o_20, hf_15, hk_o_16, hk_o_17, hk_o_18, hk_o_19, hk_o_20⟩ := hT.get hk_h0
      obtain ⟨q_21, hq_21⟩ := pl_at (X := []) (f := f_13) (e := .inr (3, [.ref o_16, .ref o_17, .ref o_18, .ref o_19, .ref o_20])) hk_h0.1 hf_15
      refine va_get (D := (dC, dI)) (ci := 3) (v := .ref o_18) (C := RX3) (T := TX3) (N := 5) hx hb hts hin3 hown hK hP q_21 hq_21 rfl 2 (by decide) (hts (.fieldLink RX3 19 "YamRiders$Roads" "toGoal" "[I") (by decide +kernel)) (fun _ h9 => h9) rfl dX3_leastTime_22 ?_
      refine lv_iload_n hx hb dX3_leastTime_25 rfl (lv_at hl 1 rfl) ?_
      obtain ⟨g_23, hf_22⟩ := hT.get hk_o_18
      obtain ⟨q_24, hq_24⟩ := pl_at (X := []) (f := f_13) (e := .inl (cs 0, 12, .inl g_23)) hk_o_18.1 hf_22
      refine va_iald hx hb hK hP q_24 0 hq_24 rfl (st_in c_2) dX3_leastTime_26 ?_
      refine lv_topi (fun v_25 ev_25 => ?_)
      refine lv_ldc (v := 1000000) hx hb hown (hts (.constant RX3 42 (1000000)) (by decide +kernel)) dX3_leastTime_27 ?_
      refine lv_icmp_ge (tgt := 41) hx hb dX3_leastTime_29 (by decide) (fun c_26 => ?_) (fun c_26 => ?_)
      · refine lv_iconst (v := (-1)) hx hb dX3_leastTime_41 (by decide) ?_
        have hP9 := hP.part (cx := []) [] rfl
        have hD9 := hD.part (cx := []) [] (by decide) rfl
        have hK9 := hK.sub (tys' := []) [] rfl
        refine W.widen (k := 0) (n := 0) (Nat.le_of_ble_eq_true rfl) (Nat.le_of_ble_eq_true rfl) ?_
        exact W.iret (v := (-1)) hx hb hr (fun t9 ht hW => ⟨⟨_, (), rfl, trivial, f_13, hT, by rw [ht]; exact hP9, va_K.moved hW.alike hK9, hD9⟩, hS.F ht⟩) hS.2.2 dX3_leastTime_42
      · refine lv_aload_n hx hb dX3_leastTime_32 rfl (lv_at hl 0 rfl) ?_
        obtain ⟨q_27, hq_27⟩ := pl_at (X := []) (f := f_13) (e := .inr (3, [.ref o_16, .ref o_17, .ref o_18, .ref o_19, .ref o_20])) hk_h0.1 hf_15
        refine va_get (D := (dC, dI)) (ci := 3) (v := .ref o_18) (C := RX3) (T := TX3) (N := 5) hx hb hts hin3 hown hK hP q_27 hq_27 rfl 2 (by decide) (hts (.fieldLink RX3 19 "YamRiders$Roads" "toGoal" "[I") (by decide +kernel)) (fun _ h9 => h9) rfl dX3_leastTime_33 ?_
        refine lv_iload_n hx hb dX3_leastTime_36 rfl (lv_at hl 1 rfl) ?_
        obtain ⟨q_28, hq_28⟩ := pl_at (X := []) (f := f_13) (e := .inl (cs 0, 12, .inl g_23)) hk_o_18.1 hf_22
        refine va_iald hx hb hK hP q_28 0 hq_28 rfl (st_in c_2) dX3_leastTime_37 ?_
        refine lv_topi (fun v_29 ev_29 => ?_)
        obtain rfl : v_25 = v_29 := ev_25.trans ev_29.symm
        refine lv_goto (tgt := 42) hx hb dX3_leastTime_38 (by decide) ?_
        have hP9 := hP.part (cx := []) [] rfl
        have hD9 := hD.part (cx := []) [] (by decide) rfl
        have hK9 := hK.sub (tys' := []) [] rfl
        refine W.widen (k := 0) (n := 0) (Nat.le_of_ble_eq_true rfl) (Nat.le_of_ble_eq_true rfl) ?_
        exact W.iret (v := v_25) hx hb hr (fun t9 ht hW => ⟨⟨_, (), rfl, trivial, f_13, hT, by rw [ht]; exact hP9, va_K.moved hW.alike hK9, hD9⟩, hS.F ht⟩) hS.2.2 dX3_leastTime_42
    · refine lv_iconst (v := (-1)) hx hb dX3_leastTime_14 (by decide) ?_
      have hP9 := hP.part (cx := []) [] rfl
      have hD9 := hD.part (cx := []) [] (by decide) rfl
      have hK9 := hK.sub (tys' := []) [] rfl
      refine W.widen (k := 0) (n := 0) (Nat.le_of_ble_eq_true rfl) (Nat.le_of_ble_eq_true rfl) ?_
      exact W.iret (v := (-1)) hx hb hr (fun t9 ht hW => ⟨⟨_, (), rfl, trivial, f, hT, by rw [ht]; exact hP9, va_K.moved hW.alike hK9, hD9⟩, hS.F ht⟩) hS.2.2 dX3_leastTime_15
