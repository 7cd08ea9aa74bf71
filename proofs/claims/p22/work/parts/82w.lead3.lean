set_option maxHeartbeats 4000000 in
set_option maxRecDepth 100000 in
theorem l_X1_setSpare (l : Launch) (dC : Nat → ClassId) (dI : Nat → Nat → Nat) (cs : Nat → ClassId) (L : List Nat) (ka : Nat → Nat) (ix : Nat → Nat) (ad : Nat → Nat → Nat) (n0 : Nat) (n6 : Nat) (n2 : Nat) (S : Nat → Nat → Nat → Int32) (f : Nat → va_E) (h0 : Nat) (u9 : Nat) (p1 : Int32) (sz : Nat) (hT : tB L ka ix ad cs n0 n6 n2 S f) (hk_h0 : tpx L ka ix 1 0 h0) (hu9 : u9 < 12) : Met l yX1_setSpare wsX1_setSpare ({ frames := 1, cells := 0, slots := 0, locals := 20 }) (va_Pc [.ref h0, .int (nI u9), .int p1] (cP dC dI ([] ++ va_pl L f) (tyC cs) sz)) (va_Qv (fun (_ : Unit) => True) (fun (_ : Unit) t9 => ∃ (S2 : Nat → Nat → Nat → Int32) (f2 : Nat → va_E), (tB L ka ix ad cs n0 n6 n2 S2 f2) ∧ (AG S S2) ∧ (S2 = up3 S 656 0 u9 p1) ∧ cQ dC dI ([] ++ va_pl L f2) [] (va_A ([] ++ va_pl L f) sz) t9) (va_A ([] ++ va_pl L f) sz)) 0 0 (va_A ([] ++ va_pl L f) sz) := by
  refine Met.ofW (cc := cX1_setSpare) (maxL := 3) (ret := none) (by decide) rfl ?_
  intro p e s m args below meth c s₁ B hml hv
  obtain ⟨rfl, hsz, hP, hK, hD0, hN⟩ := hv
  have hx := B.exec
  have hb := B.bytes
  have hr := B.returns
  have hts := atoms_spec (ws := wsX1_setSpare) B.pre
  have hown : s.vm.findClass RX1 = some m.cls := findClass_of_methodNamed B.named
  have hlocks := B.notSynchronized
  subst hsz
  have hin1 : ∀ w ∈ u_ws RX1 TX1 4, w ∈ wsX1_setSpare := by decide +kernel
  have hD := hD0.self (sz := s.heap.size)
  generalize hAe : va_A ([] ++ va_pl L f) s.heap.size = A at hD ⊢
  have hA : ∀ q : Nat, s.heap.size ≤ q → A q := fun q h => by rw [← hAe]; exact Or.inr h
  have hS : va_S A s.heap s.heap [] := va_S.rf
  have hP : va_P (dC, dI) vwCl ([] ++ va_pl L f) s.heap := hP
  have hl := lv_entry ([.ref h0, .int (nI u9), .int p1]) (n := 3) (Nat.le_of_ble_eq_true rfl)
  rw [lg_entry_eq]
  generalize (lg_sl ([.ref h0, .int (nI u9), .int p1]) ++ List.replicate (3 - (lg_sl ([.ref h0, .int (nI u9), .int p1])).length) Slot.unset).toArray = ls at hl ⊢
  have hl : lv_has ls 3 [(0, .ref h0), (1, .int (nI u9)), (2, .int p1)] := hl
  refine lv_iload_n hx hb dX1_setSpare_0 rfl (lv_at hl 1 rfl) ?_
  have hPc := hP.sub (ws' := []) [] rfl
  have hDc := hD.sub (ws' := []) [] (by decide) rfl
  have hKc := hK.sub (tys' := []) [] rfl
  refine cs_i (va_runSN (As := [.int (nI u9)]) (rest := []) ⟨hx, hb, hml, hown, hts⟩ (c_X8_isStation l dC dI (nI u9) s.heap.size) ⟨va_cnB 1 hts ggX1_setSpare_X8_isStation rfl rfl rfl (hN.1 (.methodLinkNest RX1 26 yX8_isStation "YamRiders") (by decide +kernel)) (hts (.initialized RX8) (by decide +kernel)) (by decide +kernel) ⟨Nat.le_of_ble_eq_true rfl, Nat.le_of_ble_eq_true rfl⟩, hts (.static yX8_isStation) (by decide +kernel), trivial⟩ ⟨c_blind, c_pre hPc hKc hDc hN⟩ rfl rfl hl.1 rfl (lv_room (Nat.le_of_ble_eq_true rfl)) dX1_setSpare_1 ⟨Nat.le_of_ble_eq_true rfl, Nat.le_of_ble_eq_true rfl⟩) (fun r_1 hr_1 => ?_)
  subst hr_1
  refine lv_if_eq (tgt := 14) hx hb dX1_setSpare_4 (by decide) (fun c_2 => by first | exact absurd c_2 (st_nz (by omega)) | exact absurd (st_nz (by omega)) c_2) (fun _ => ?_)
  refine lv_aload_n hx hb dX1_setSpare_7 rfl (lv_at hl 0 rfl) ?_
  have hf_3 : f h0 = .inr (1, [.ref (ad 41 0), .ref (ad 42 0), .ref (ad 43 0), .ref (ad 44 0)]) := hT.get hk_h0
  obtain ⟨q_4, hq_4⟩ := pl_at (X := []) (f := f) (e := .inr (1, [.ref (ad 41 0), .ref (ad 42 0), .ref (ad 43 0), .ref (ad 44 0)])) hk_h0.1 hf_3
  refine va_get (D := (dC, dI)) (ci := 1) (v := .ref (ad 41 0)) (C := RX1) (T := TX1) (N := 4) hx hb hts hin1 hown hK hP q_4 hq_4 rfl 0 (by decide) (hts (.fieldLink RX1 9 "YamRiders$Leader" "spare" "[I") (by decide +kernel)) (fun _ h9 => h9) rfl dX1_setSpare_8 ?_
  refine lv_iload_n hx hb dX1_setSpare_11 rfl (lv_at hl 1 rfl) ?_
  refine lv_iload_n hx hb dX1_setSpare_12 rfl (lv_at hl 2 rfl) ?_
  have hf_5 : f (ad 41 0) = .inl (cs 0, 12, .inl (S 656 0)) := hT.get (hT.kf (k := 41) (by decide))
  obtain ⟨q_6, hq_6⟩ := pl_at (X := []) (f := f) (e := .inl (cs 0, 12, .inl (S 656 0))) (hT.kf (k := 41) (by decide)).1 hf_5
  refine va_iast hx hb hK hP hD hS q_6 0 hq_6 rfl (vp_in_nI (by omega) (by omega)) dX1_setSpare_13 (fun H locs hP9 hD9 hS => ?_)
  have hs_7 := pl_st (.inl (cs 0, 12, .inl (upd (S 656 0) (nI u9).toNatClampNeg p1))) hD (hT.kf (k := 41) (by decide)).1 hf_5 hq_6
  have hP9 : va_P (dC, dI) vwCl ((([] : va_W) ++ va_pl L f).set q_6 ((ad 41 0), .inl (cs 0, 12, .inl (upd (S 656 0) (nI u9).toNatClampNeg p1)))) H := hP9
  have hD9 : va_D A ((([] : va_W) ++ va_pl L f).set q_6 ((ad 41 0), .inl (cs 0, 12, .inl (upd (S 656 0) (nI u9).toNatClampNeg p1)))) := hD9
  rw [hs_7] at hP9 hD9
  have hT := hT.up (c := 656) (j := u9) (v := p1) (e := .inl (cs 0, 12, .inl (upd (S 656 0) (nI u9).toNatClampNeg p1))) (hT.kf (k := 41) (by decide)) rfl (hT.2.2.up (by decide) (by decide) (by decide)) (by simp only [EN]; rw [up3_a, (nI_clamp (by omega))])
  have hP := hP9
  have hD := hD9
  clear hP9 hD9 hs_7
  obtain ⟨S_9, eS_9⟩ : ∃ S9 : Nat → Nat → Nat → Int32, S9 = up3 S 656 0 u9 p1 := ⟨_, rfl⟩
  rw [← eS_9] at hT
  generalize va_up f (ad 41 0) (.inl (cs 0, 12, .inl (upd (S 656 0) (nI u9).toNatClampNeg p1))) = f_8 at hP hD hT
  have hFr_10 : AG S S_9 := by rw [eS_9]; exact AG.up AG.rf (by decide)
  have hP9 := hP.part (cx := []) [] rfl
  have hD9 := hD.part (cx := []) [] (by decide) rfl
  have hK9 := hK.sub (tys' := []) [] rfl
  refine W.widen (k := 0) (n := 0) (Nat.le_of_ble_eq_true rfl) (Nat.le_of_ble_eq_true rfl) ?_
  exact W.vret hx hb hr (fun t9 ht hW => ⟨⟨(), rfl, trivial, S_9, f_8, hT, hFr_10, eS_9, by rw [ht]; exact hP9, va_K.moved hW.alike hK9, hD9⟩, hS.F ht⟩) hS.2.2 dX1_setSpare_14

set_option maxHeartbeats 4000000 in
set_option maxRecDepth 100000 in
theorem l_X8_leading (l : Launch) (dC : Nat → ClassId) (dI : Nat → Nat → Nat) (cs : Nat → ClassId) (L : List Nat) (ka : Nat → Nat) (ix : Nat → Nat) (ad : Nat → Nat → Nat) (n0 : Nat) (n6 : Nat) (n2 : Nat) (S : Nat → Nat → Nat → Int32) (f : Nat → va_E) (gq : Nat) (h0 : Nat) (a1 : Nat) (a2 : Nat) (a3 : Nat) (a4 : Nat) (a5 : Nat) (a6 : Nat) (a7 : Nat) (a8 : Nat) (a9 : Nat) (j_faultKind : Int32) (j_horseCount : Int32) (j_tabletCount : Int32) (j_riderCount : Int32) (j_lineLength : Int32) (j_hour : Int32) (b1 : Nat) (ln : Nat) (a_b : Nat → Int32) (sz : Nat) (hT : tB L ka ix ad cs n0 n6 n2 S f) (hY : yX L ka ix ad gq a2 a3 a4 a5 a6 a7 a8 a9) (hln : ln ≤ 200) (hBt : Byt (PBy a_b ln) ln) (hSy : Sy S) (hRg : RgS S) : Met l yX8_leading wsX8_leading ({ frames := 5, cells := 0, slots := 0, locals := 117 }) (va_Pc [.ref h0] (cP dC dI ([(h0, .inr (8, [.ref a1, .ref a2, .ref a3, .ref a4, .ref a5, .ref a6, .ref a7, .ref a8, .ref a9, .int j_faultKind, .int j_horseCount, .int j_tabletCount, .int j_riderCount, .int j_lineLength, .int j_hour])), (a1, .inr (7, [.ref b1, .int (nI ln)])), (b1, .inl (cs 0, 200, .inl a_b))] ++ va_pl L f) (tyC cs) sz)) (va_Qi (fun (r rv : Int32) => r = rv) (fun (rv : Int32) t9 => ∃ (S2 : Nat → Nat → Nat → Int32) (f2 : Nat → va_E), (tB L ka ix ad cs n0 n6 n2 S2 f2) ∧ (AG S S2) ∧ (LEc S S2 n0 ln a_b rv) ∧ cQ dC dI ([(h0, .inr (8, [.ref a1, .ref a2, .ref a3, .ref a4, .ref a5, .ref a6, .ref a7, .ref a8, .ref a9, .int j_faultKind, .int j_horseCount, .int j_tabletCount, .int j_riderCount, .int j_lineLength, .int j_hour])), (a1, .inr (7, [.ref b1, .int 0])), (b1, .inl (cs 0, 200, .inl a_b))] ++ va_pl L f2) [] (va_A ([(h0, .inr (8, [.ref a1, .ref a2, .ref a3, .ref a4, .ref a5, .ref a6, .ref a7, .ref a8, .ref a9, .int j_faultKind, .int j_horseCount, .int j_tabletCount, .int j_riderCount, .int j_lineLength, .int j_hour])), (a1, .inr (7, [.ref b1, .int (nI ln)])), (b1, .inl (cs 0, 200, .inl a_b))] ++ va_pl L f) sz) t9) (va_A ([(h0, .inr (8, [.ref a1, .ref a2, .ref a3, .ref a4, .ref a5, .ref a6, .ref a7, .ref a8, .ref a9, .int j_faultKind, .int j_horseCount, .int j_tabletCount, .int j_riderCount, .int j_lineLength, .int j_hour])), (a1, .inr (7, [.ref b1, .int (nI ln)])), (b1, .inl (cs 0, 200, .inl a_b))] ++ va_pl L f) sz)) 0 0 (va_A ([(h0, .inr (8, [.ref a1, .ref a2, .ref a3, .ref a4, .ref a5, .ref a6, .ref a7, .ref a8, .ref a9, .int j_faultKind, .int j_horseCount, .int j_tabletCount, .int j_riderCount, .int j_lineLength, .int j_hour])), (a1, .inr (7, [.ref b1, .int (nI ln)])), (b1, .inl (cs 0, 200, .inl a_b))] ++ va_pl L f) sz) := by
  refine Met.ofW (cc := cX8_leading) (maxL := 4) (ret := (some .int)) (by decide) rfl ?_
  intro p e s m args below meth c s₁ B hml hv
  obtain ⟨rfl, hsz, hP, hK, hD0, hN⟩ := hv
  have hx := B.exec
  have hb := B.bytes
  have hr := B.returns
  have hts := atoms_spec (ws := wsX8_leading) B.pre
  have hown : s.vm.findClass RX8 = some m.cls := findClass_of_methodNamed B.named
  have hlocks := B.notSynchronized
  subst hsz
  have hin7 : ∀ w ∈ u_ws RX7 TX7 2, w ∈ wsX8_leading := by decide +kernel
  have hin8 : ∀ w ∈ u_ws RX8 TX8 15, w ∈ wsX8_leading := by decide +kernel
  have hD := hD0.self (sz := s.heap.size)
  generalize hAe : va_A ([(h0, .inr (8, [.ref a1, .ref a2, .ref a3, .ref a4, .ref a5, .ref a6, .ref a7, .ref a8, .ref a9, .int j_faultKind, .int j_horseCount, .int j_tabletCount, .int j_riderCount, .int j_lineLength, .int j_hour])), (a1, .inr (7, [.ref b1, .int (nI ln)])), (b1, .inl (cs 0, 200, .inl a_b))] ++ va_pl L f) s.heap.size = A at hD ⊢
  have hA : ∀ q : Nat, s.heap.size ≤ q → A q := fun q h => by rw [← hAe]; exact Or.inr h
  have hS : va_S A s.heap s.heap [] := va_S.rf
  have hP : va_P (dC, dI) vwCl ([(h0, .inr (8, [.ref a1, .ref a2, .ref a3, .ref a4, .ref a5, .ref a6, .ref a7, .ref a8, .ref a9, .int j_faultKind, .int j_horseCount, .int j_tabletCount, .int j_riderCount, .int j_lineLength, .int j_hour])), (a1, .inr (7, [.ref b1, .int (nI ln)])), (b1, .inl (cs 0, 200, .inl a_b))] ++ va_pl L f) s.heap := hP
  have hl := lv_entry ([.ref h0]) (n := 4) (Nat.le_of_ble_eq_true rfl)
  rw [lg_entry_eq]
  generalize (lg_sl ([.ref h0]) ++ List.replicate (4 - (lg_sl ([.ref h0])).length) Slot.unset).toArray = ls at hl ⊢
  have hl : lv_has ls 4 [(0, .ref h0)] := hl
  refine lv_aload_n hx hb dX8_leading_0 rfl (lv_at hl 0 rfl) ?_
  refine va_get (D := (dC, dI)) (ci := 8) (v := .ref a1) (C := RX8) (T := TX8) (N := 15) hx hb hts hin8 hown hK hP 0 rfl rfl 0 (by decide) (hts (.fieldLink RX8 10 "YamRiders" "tape" "LYamRiders$Tape;") (by decide +kernel)) (fun _ h9 => h9) rfl dX8_leading_1 ?_
  refine va_getN (D := (dC, dI)) (ci := 7) (v := .int (nI ln)) (C := RX7) (T := TX7) (N := 2) hx hb hts hin7 hown hK hP 1 rfl rfl 1 (by decide) (hN.nx (.fieldLinkNest RX8 70 "YamRiders$Tape" "length" "I" "YamRiders") (by decide +kernel)) (fun _ h9 => h9) rfl dX8_leading_4 ?_
  refine lv_bipush (v := 12) hx hb dX8_leading_7 (by decide) ?_
  refine lv_icmp_ne (tgt := 16) hx hb dX8_leading_9 (by decide) (fun c_1 => ?_) (fun c_1 => ?_)
  · refine lv_iconst (v := 0) hx hb dX8_leading_16 (by decide) ?_
    refine lv_istore_n (lv' := [(1, .int 0), (0, .ref h0)]) hx hb dX8_leading_17 rfl hl (by decide) rfl (fun ls hl => ?_)
    refine lv_iconst (v := 0) hx hb dX8_leading_18 (by decide) ?_
    refine lv_istore_n (lv' := [(2, .int 0), (1, .int 0), (0, .ref h0)]) hx hb dX8_leading_19 rfl hl (by decide) rfl (fun ls hl => ?_)
    have HL : ∀ (n k : Nat) (x1 : Int32) (S8 : Nat → Nat → Nat → Int32), k ≤ 12 → 12 + 1 ≤ k + n → (AG S S8) → (x1 = 0 ∨ x1 = 1) → (SPk S S8 n0 ln a_b x1 k) → ∀ (f_2 : Nat → va_E) (H : Heap) (locs : List Loc), tB L ka ix ad cs n0 n6 n2 S8 f_2 → va_P (dC, dI) vwCl ([(h0, .inr (8, [.ref a1, .ref a2, .ref a3, .ref a4, .ref a5, .ref a6, .ref a7, .ref a8, .ref a9, .int j_faultKind, .int j_horseCount, .int j_tabletCount, .int j_riderCount, .int j_lineLength, .int j_hour])), (a1, .inr (7, [.ref b1, .int (nI ln)])), (b1, .inl (cs 0, 200, .inl a_b))] ++ va_pl L f_2) H → va_D A ([(h0, .inr (8, [.ref a1, .ref a2, .ref a3, .ref a4, .ref a5, .ref a6, .ref a7, .ref a8, .ref a9, .int j_faultKind, .int j_horseCount, .int j_tabletCount, .int j_riderCount, .int j_lineLength, .int j_hour])), (a1, .inr (7, [.ref b1, .int (nI ln)])), (b1, .inl (cs 0, 200, .inl a_b))] ++ va_pl L f_2) → va_S A s.heap H locs → ∀ ls : Array Slot, lv_has ls 4 [(0, .ref h0), (1, .int x1), (2, .int (nI k))] → W p l e (headSpec wsX8_leading ({ frames := 5, cells := 0, slots := 0, locals := 117 })).room s m ([.ref h0]).toArray below meth c H locs 0 0 (MQ below (va_Qi (fun (r rv : Int32) => r = rv) (fun (rv : Int32) t9 => ∃ (S2 : Nat → Nat → Nat → Int32) (f2 : Nat → va_E), (tB L ka ix ad cs n0 n6 n2 S2 f2) ∧ (AG S S2) ∧ (LEc S S2 n0 ln a_b rv) ∧ cQ dC dI ([(h0, .inr (8, [.ref a1, .ref a2, .ref a3, .ref a4, .ref a5, .ref a6, .ref a7, .ref a8, .ref a9, .int j_faultKind, .int j_horseCount, .int j_tabletCount, .int j_riderCount, .int j_lineLength, .int j_hour])), (a1, .inr (7, [.ref b1, .int 0])), (b1, .inl (cs 0, 200, .inl a_b))] ++ va_pl L f2) [] A t9) A) ([.ref h0]).toArray s 0 0 A) (F0 m 20 ls []) := by
      intro n
      induction n with
      | zero => intro k x1 S8 h1 h2; exact absurd h2 (by omega)
      | succ n ih =>
        intro k x1 S8 hk hn hFrS8 h01 hSP f_2 H locs hT hP hD hS ls hl
        refine lv_iload_n hx hb dX8_leading_20 rfl (lv_at hl 2 rfl) ?_
        refine lv_bipush (v := 12) hx hb dX8_leading_21 (by decide) ?_
        refine lv_icmp_ge (tgt := 72) hx hb dX8_leading_23 (by decide) (fun c_3 => ?_) (fun c_3 => ?_)
        · have hke : k = 12 := by
            rcases Nat.lt_or_ge k 12 with q | q
            · exact absurd c_3 (nI_ge q (by decide))
            · omega
          refine lv_aload_n hx hb dX8_leading_72 rfl (lv_at hl 0 rfl) ?_
          refine va_get (D := (dC, dI)) (ci := 8) (v := .ref a1) (C := RX8) (T := TX8) (N := 15) hx hb hts hin8 hown hK hP 0 rfl rfl 0 (by decide) (hts (.fieldLink RX8 10 "YamRiders" "tape" "LYamRiders$Tape;") (by decide +kernel)) (fun _ h9 => h9) rfl dX8_leading_73 ?_
          refine lv_iconst (v := 0) hx hb dX8_leading_76 (by decide) ?_
          refine va_putN (D := (dC, dI)) (ci := 7) (v := .int 0) (ty := (tyX7 1)) (C := RX7) (T := TX7) (N := 2) hx hb hts hin7 tyX7 tyX7_ok nmX7 hown hK hP hD hS 1 rfl rfl 1 (by decide) (hN.nx (.fieldLinkNest RX8 70 "YamRiders$Tape" "length" "I" "YamRiders") (by decide +kernel)) (fun _ h9 => h9) rfl (by decide +kernel) rfl rfl (Nat.le_of_ble_eq_true rfl) dX8_leading_77 (fun H locs hP hD hS => ?_)
          have hP : va_P (dC, dI) vwCl ([(h0, .inr (8, [.ref a1, .ref a2, .ref a3, .ref a4, .ref a5, .ref a6, .ref a7, .ref a8, .ref a9, .int j_faultKind, .int j_horseCount, .int j_tabletCount, .int j_riderCount, .int j_lineLength, .int j_hour])), (a1, .inr (7, [.ref b1, .int 0])), (b1, .inl (cs 0, 200, .inl a_b))] ++ va_pl L f_2) H := hP
          have hD : va_D A ([(h0, .inr (8, [.ref a1, .ref a2, .ref a3, .ref a4, .ref a5, .ref a6, .ref a7, .ref a8, .ref a9, .int j_faultKind, .int j_horseCount, .int j_tabletCount, .int j_riderCount, .int j_lineLength, .int j_hour])), (a1, .inr (7, [.ref b1, .int 0])), (b1, .inl (cs 0, 200, .inl a_b))] ++ va_pl L f_2) := hD
          refine lv_iload_n hx hb dX8_leading_80 rfl (lv_at hl 1 rfl) ?_
          refine lv_if_eq (tgt := 98) hx hb dX8_leading_81 (by decide) (fun c_4 => ?_) (fun c_4 => ?_)
          · refine lv_iconst (v := (-1)) hx hb dX8_leading_98 (by decide) ?_
            have hP9 := hP.part (cx := [(h0, .inr (8, [.ref a1, .ref a2, .ref a3, .ref a4, .ref a5, .ref a6, .ref a7, .ref a8, .ref a9, .int j_faultKind, .int j_horseCount, .int j_tabletCount, .int j_riderCount, .int j_lineLength, .int j_hour])), (a1, .inr (7, [.ref b1, .int 0])), (b1, .inl (cs 0, 200, .inl a_b))]) [0, 1, 2] rfl
            have hD9 := hD.part (cx := [(h0, .inr (8, [.ref a1, .ref a2, .ref a3, .ref a4, .ref a5, .ref a6, .ref a7, .ref a8, .ref a9, .int j_faultKind, .int j_horseCount, .int j_tabletCount, .int j_riderCount, .int j_lineLength, .int j_hour])), (a1, .inr (7, [.ref b1, .int 0])), (b1, .inl (cs 0, 200, .inl a_b))]) [0, 1, 2] (by decide) rfl
            have hK9 := hK.sub (tys' := []) [] rfl
            refine W.widen (k := 0) (n := 0) (Nat.le_of_ble_eq_true rfl) (Nat.le_of_ble_eq_true rfl) ?_
            exact W.iret (v := (-1)) hx hb hr (fun t9 ht hW => ⟨⟨_, (-1), rfl, rfl, S8, f_2, hT, hFrS8, (LE_m hSP c_4), by rw [ht]; exact hP9, va_K.moved hW.alike hK9, hD9⟩, hS.F ht⟩) hS.2.2 dX8_leading_99
          · refine lv_aload_n hx hb dX8_leading_84 rfl (lv_at hl 0 rfl) ?_
            refine va_get (D := (dC, dI)) (ci := 8) (v := .ref a3) (C := RX8) (T := TX8) (N := 15) hx hb hts hin8 hown hK hP 0 rfl rfl 2 (by decide) (hts (.fieldLink RX8 26 "YamRiders" "leader" "LYamRiders$Leader;") (by decide +kernel)) (fun _ h9 => h9) rfl dX8_leading_85 ?_
            refine lv_aload_n hx hb dX8_leading_88 rfl (lv_at hl 0 rfl) ?_
            refine va_get (D := (dC, dI)) (ci := 8) (v := .ref a2) (C := RX8) (T := TX8) (N := 15) hx hb hts hin8 hown hK hP 0 rfl rfl 1 (by decide) (hts (.fieldLink RX8 19 "YamRiders" "roads" "LYamRiders$Roads;") (by decide +kernel)) (fun _ h9 => h9) rfl dX8_leading_89 ?_
            have hn9 := hT.b0
            obtain ⟨hl12, hw60, hsp9, hLPh⟩ := SP_h (by omega) hSy hRg hBt hFrS8 (hke ▸ hSP) c_4
            have hPc := hP.part (cx := []) [] rfl
            have hDc := hD.part (cx := []) [] (by decide) rfl
            have hKc := hK
            have hFc := va_freeP (cx := []) hD hS hA [] rfl
            have hf_5 : f_2 a3 = .inr (1, [.ref (ad 41 0), .ref (ad 42 0), .ref (ad 43 0), .ref (ad 44 0)]) := hT.get hY.2.1
            obtain ⟨q_6, hq_6⟩ := pl_at (X := []) (f := f_2) (e := .inr (1, [.ref (ad 41 0), .ref (ad 42 0), .ref (ad 43 0), .ref (ad 44 0)])) hY.2.1.1 hf_5
            refine va_calli (va_runV (As := [.ref a2]) (rest := []) ⟨hx, hb, hml, hown, hts⟩ (l_X1_leastPains l dC dI cs L ka ix ad n0 n6 n2 S8 f_2 a3 a2 H.size hT hY.2.1 hY.1 hLPh) (cwV 1 hts gX8_leading_X1_leastPains rfl rfl rfl (by decide +kernel) ⟨Nat.le_of_ble_eq_true rfl, Nat.le_of_ble_eq_true rfl⟩) ⟨c_blind, va_recv hKc hPc (ci := 1) (q0 := q_6) rfl hq_6, c_pre hPc hKc hDc hN⟩ rfl rfl hl.1 rfl (lv_room (Nat.le_of_ble_eq_true rfl)) dX8_leading_92 ⟨Nat.le_of_ble_eq_true rfl, Nat.le_of_ble_eq_true rfl⟩) hS (fun q _ h => hFc q h) hFc (fun r_7 u9 t9 H1 locs ht hvm hw hB hz1 hk1 hS => ?_)
            obtain ⟨S_8, f_9, hf_x_10, hf_x_11, hf_x_12, hP1, hK1, hD1⟩ := hB
            rw [ht] at hP1
            have hK1 := va_K.moved hvm.symm hK1
            obtain ⟨hP, hD⟩ := va_joinP (X := [(h0, .inr (8, [.ref a1, .ref a2, .ref a3, .ref a4, .ref a5, .ref a6, .ref a7, .ref a8, .ref a9, .int j_faultKind, .int j_horseCount, .int j_tabletCount, .int j_riderCount, .int j_lineLength, .int j_hour])), (a1, .inr (7, [.ref b1, .int 0])), (b1, .inl (cs 0, 200, .inl a_b))]) (cx := []) (wr := [(h0, .inr (8, [.ref a1, .ref a2, .ref a3, .ref a4, .ref a5, .ref a6, .ref a7, .ref a8, .ref a9, .int j_faultKind, .int j_horseCount, .int j_tabletCount, .int j_riderCount, .int j_lineLength, .int j_hour])), (a1, .inr (7, [.ref b1, .int 0])), (b1, .inl (cs 0, 200, .inl a_b))]) (rx := []) (pl := va_pl L f_2) (pl1 := va_pl L f_9) hP hD [] [0, 1, 2] rfl rfl (by decide) (by decide) hk1 hFc hP1 hD1
            have hT := hf_x_10
            generalize H1 = H at hP hS ⊢
            have hP : va_P (dC, dI) vwCl ([(h0, .inr (8, [.ref a1, .ref a2, .ref a3, .ref a4, .ref a5, .ref a6, .ref a7, .ref a8, .ref a9, .int j_faultKind, .int j_horseCount, .int j_tabletCount, .int j_riderCount, .int j_lineLength, .int j_hour])), (a1, .inr (7, [.ref b1, .int 0])), (b1, .inl (cs 0, 200, .inl a_b))] ++ va_pl L f_9) H := hP
            have hD : va_D A ([(h0, .inr (8, [.ref a1, .ref a2, .ref a3, .ref a4, .ref a5, .ref a6, .ref a7, .ref a8, .ref a9, .int j_faultKind, .int j_horseCount, .int j_tabletCount, .int j_riderCount, .int j_lineLength, .int j_hour])), (a1, .inr (7, [.ref b1, .int 0])), (b1, .inl (cs 0, 200, .inl a_b))] ++ va_pl L f_9) := hD
            have hFr_13 := AG.tr hFrS8 hf_x_11
            refine W.widen (k := 0) (n := 0) (Nat.le_of_ble_eq_true rfl) (Nat.le_of_ble_eq_true rfl) ?_
            try dsimp only at hw
            subst hw
            refine lv_goto (tgt := 99) hx hb dX8_leading_95 (by decide) ?_
            have hP9 := hP.part (cx := [(h0, .inr (8, [.ref a1, .ref a2, .ref a3, .ref a4, .ref a5, .ref a6, .ref a7, .ref a8, .ref a9, .int j_faultKind, .int j_horseCount, .int j_tabletCount, .int j_riderCount, .int j_lineLength, .int j_hour])), (a1, .inr (7, [.ref b1, .int 0])), (b1, .inl (cs 0, 200, .inl a_b))]) [0, 1, 2] rfl
            have hD9 := hD.part (cx := [(h0, .inr (8, [.ref a1, .ref a2, .ref a3, .ref a4, .ref a5, .ref a6, .ref a7, .ref a8, .ref a9, .int j_faultKind, .int j_horseCount, .int j_tabletCount, .int j_riderCount, .int j_lineLength, .int j_hour])), (a1, .inr (7, [.ref b1, .int 0])), (b1, .inl (cs 0, 200, .inl a_b))]) [0, 1, 2] (by decide) rfl
            have hK9 := hK.sub (tys' := []) [] rfl
            refine W.widen (k := 0) (n := 0) (Nat.le_of_ble_eq_true rfl) (Nat.le_of_ble_eq_true rfl) ?_
            exact W.iret (v := r_7) hx hb hr (fun t9 ht hW => ⟨⟨_, r_7, rfl, rfl, S_8, f_9, hT, hFr_13, (Or.inr ⟨hl12, hw60, _, AG.fr hFrS8, hsp9, hLPh, hf_x_12⟩), by rw [ht]; exact hP9, va_K.moved hW.alike hK9, hD9⟩, hS.F ht⟩) hS.2.2 dX8_leading_99
        · have hlt : k < 12 := by
            rcases Nat.lt_or_ge k 12 with q | q
            · exact q
            · exact absurd (show nI 12 ≤ nI k from nI_le q (by omega)) c_3
          refine lv_iload_n hx hb dX8_leading_26 rfl (lv_at hl 1 rfl) ?_
          refine lv_if_eq (tgt := 72) hx hb dX8_leading_27 (by decide) (fun c_14 => ?_) (fun c_14 => ?_)
          · refine lv_aload_n hx hb dX8_leading_72 rfl (lv_at hl 0 rfl) ?_
            refine va_get (D := (dC, dI)) (ci := 8) (v := .ref a1) (C := RX8) (T := TX8) (N := 15) hx hb hts hin8 hown hK hP 0 rfl rfl 0 (by decide) (hts (.fieldLink RX8 10 "YamRiders" "tape" "LYamRiders$Tape;") (by decide +kernel)) (fun _ h9 => h9) rfl dX8_leading_73 ?_
            refine lv_iconst (v := 0) hx hb dX8_leading_76 (by decide) ?_
            refine va_putN (D := (dC, dI)) (ci := 7) (v := .int 0) (ty := (tyX7 1)) (C := RX7) (T := TX7) (N := 2) hx hb hts hin7 tyX7 tyX7_ok nmX7 hown hK hP hD hS 1 rfl rfl 1 (by decide) (hN.nx (.fieldLinkNest RX8 70 "YamRiders$Tape" "length" "I" "YamRiders") (by decide +kernel)) (fun _ h9 => h9) rfl (by decide +kernel) rfl rfl (Nat.le_of_ble_eq_true rfl) dX8_leading_77 (fun H locs hP hD hS => ?_)
            have hP : va_P (dC, dI) vwCl ([(h0, .inr (8, [.ref a1, .ref a2, .ref a3, .ref a4, .ref a5, .ref a6, .ref a7, .ref a8, .ref a9, .int j_faultKind, .int j_horseCount, .int j_tabletCount, .int j_riderCount, .int j_lineLength, .int j_hour])), (a1, .inr (7, [.ref b1, .int 0])), (b1, .inl (cs 0, 200, .inl a_b))] ++ va_pl L f_2) H := hP
            have hD : va_D A ([(h0, .inr (8, [.ref a1, .ref a2, .ref a3, .ref a4, .ref a5, .ref a6, .ref a7, .ref a8, .ref a9, .int j_faultKind, .int j_horseCount, .int j_tabletCount, .int j_riderCount, .int j_lineLength, .int j_hour])), (a1, .inr (7, [.ref b1, .int 0])), (b1, .inl (cs 0, 200, .inl a_b))] ++ va_pl L f_2) := hD
            refine lv_iload_n hx hb dX8_leading_80 rfl (lv_at hl 1 rfl) ?_
            refine lv_if_eq (tgt := 98) hx hb dX8_leading_81 (by decide) (fun _ => ?_) (fun c_15 => by first | exact absurd c_15 c_14 | exact absurd c_14 c_15)
            refine lv_iconst (v := (-1)) hx hb dX8_leading_98 (by decide) ?_
            have hP9 := hP.part (cx := [(h0, .inr (8, [.ref a1, .ref a2, .ref a3, .ref a4, .ref a5, .ref a6, .ref a7, .ref a8, .ref a9, .int j_faultKind, .int j_horseCount, .int j_tabletCount, .int j_riderCount, .int j_lineLength, .int j_hour])), (a1, .inr (7, [.ref b1, .int 0])), (b1, .inl (cs 0, 200, .inl a_b))]) [0, 1, 2] rfl
            have hD9 := hD.part (cx := [(h0, .inr (8, [.ref a1, .ref a2, .ref a3, .ref a4, .ref a5, .ref a6, .ref a7, .ref a8, .ref a9, .int j_faultKind, .int j_horseCount, .int j_tabletCount, .int j_riderCount, .int j_lineLength, .int j_hour])), (a1, .inr (7, [.ref b1, .int 0])), (b1, .inl (cs 0, 200, .inl a_b))]) [0, 1, 2] (by decide) rfl
            have hK9 := hK.sub (tys' := []) [] rfl
            refine W.widen (k := 0) (n := 0) (Nat.le_of_ble_eq_true rfl) (Nat.le_of_ble_eq_true rfl) ?_
            exact W.iret (v := (-1)) hx hb hr (fun t9 ht hW => ⟨⟨_, (-1), rfl, rfl, S8, f_2, hT, hFrS8, (LE_m hSP c_14), by rw [ht]; exact hP9, va_K.moved hW.alike hK9, hD9⟩, hS.F ht⟩) hS.2.2 dX8_leading_99
          · refine lv_aload_n hx hb dX8_leading_30 rfl (lv_at hl 0 rfl) ?_
            refine va_get (D := (dC, dI)) (ci := 8) (v := .ref a1) (C := RX8) (T := TX8) (N := 15) hx hb hts hin8 hown hK hP 0 rfl rfl 0 (by decide) (hts (.fieldLink RX8 10 "YamRiders" "tape" "LYamRiders$Tape;") (by decide +kernel)) (fun _ h9 => h9) rfl dX8_leading_31 ?_
            refine lv_iload_n hx hb dX8_leading_34 rfl (lv_at hl 2 rfl) ?_
            have hPc := hP.sub (ws' := [(a1, .inr (7, [.ref b1, .int (nI ln)])), (b1, .inl (cs 0, 200, .inl a_b))]) [1, 2] rfl
            have hDc := hD.sub (ws' := [(a1, .inr (7, [.ref b1, .int (nI ln)])), (b1, .inl (cs 0, 200, .inl a_b))]) [1, 2] (by decide) rfl
            have hKc := hK.sub (tys' := [(cs 0, .int)]) [0] rfl
            refine cs_i (va_runV (As := [.int (nI k)]) (rest := []) ⟨hx, hb, hml, hown, hts⟩ (s_X7_byteAt l dC dI a1 b1 (cs 0) a_b ln k H.size (by omega) (by omega)) (cwV 1 hts gX8_leading_X7_byteAt rfl rfl rfl (by decide +kernel) ⟨Nat.le_of_ble_eq_true rfl, Nat.le_of_ble_eq_true rfl⟩) ⟨c_blind, va_recv hKc hPc (ci := 7) (q0 := 0) rfl rfl, c_pre hPc hKc hDc hN⟩ rfl rfl hl.1 rfl (lv_room (Nat.le_of_ble_eq_true rfl)) dX8_leading_35 ⟨Nat.le_of_ble_eq_true rfl, Nat.le_of_ble_eq_true rfl⟩) (fun r_16 hr_16 => ?_)
            subst hr_16
            refine lv_istore_n (lv' := [(3, .int (PBy a_b ln k)), (0, .ref h0), (1, .int x1), (2, .int (nI k))]) hx hb dX8_leading_38 rfl hl (by decide) rfl (fun ls hl => ?_)
            refine lv_iload_n hx hb dX8_leading_39 rfl (lv_at hl 0 rfl) ?_
            refine lv_bipush (v := 60) hx hb dX8_leading_40 (by decide) ?_
            refine lv_icmp_gt (tgt := 49) hx hb dX8_leading_42 (by decide) (fun c_17 => ?_) (fun c_17 => ?_)
            · refine lv_iconst (v := 0) hx hb dX8_leading_49 (by decide) ?_
              refine lv_istore_n (lv' := [(1, .int 0), (3, .int (PBy a_b ln k)), (0, .ref h0), (2, .int (nI k))]) hx hb dX8_leading_50 rfl hl (by decide) rfl (fun ls hl => ?_)
              refine lv_aload_n hx hb dX8_leading_51 rfl (lv_at hl 2 rfl) ?_
              refine va_get (D := (dC, dI)) (ci := 8) (v := .ref a3) (C := RX8) (T := TX8) (N := 15) hx hb hts hin8 hown hK hP 0 rfl rfl 2 (by decide) (hts (.fieldLink RX8 26 "YamRiders" "leader" "LYamRiders$Leader;") (by decide +kernel)) (fun _ h9 => h9) rfl dX8_leading_52 ?_
              refine lv_iload_n hx hb dX8_leading_55 rfl (lv_at hl 3 rfl) ?_
              refine lv_aload_n hx hb dX8_leading_56 rfl (lv_at hl 2 rfl) ?_
              refine lv_iload_n hx hb dX8_leading_57 rfl (lv_at hl 3 rfl) ?_
              have hPc := hP.part (cx := [(h0, .inr (8, [.ref a1, .ref a2, .ref a3, .ref a4, .ref a5, .ref a6, .ref a7, .ref a8, .ref a9, .int j_faultKind, .int j_horseCount, .int j_tabletCount, .int j_riderCount, .int j_lineLength, .int j_hour]))]) [0] rfl
              have hDc := hD.part (cx := [(h0, .inr (8, [.ref a1, .ref a2, .ref a3, .ref a4, .ref a5, .ref a6, .ref a7, .ref a8, .ref a9, .int j_faultKind, .int j_horseCount, .int j_tabletCount, .int j_riderCount, .int j_lineLength, .int j_hour]))]) [0] (by decide) rfl
              have hKc := hK
              refine cs_i (va_runV (As := [.int (nI k)]) (rest := [.int (nI k), .ref a3]) ⟨hx, hb, hml, hown, hts⟩ (e_X8_horsesAt l dC dI cs L ka ix ad n0 n6 n2 S8 f_2 gq h0 a1 a2 a3 a4 a5 a6 a7 a8 a9 j_faultKind j_horseCount j_tabletCount j_riderCount j_lineLength j_hour (nI k) H.size hT hY) (cwV 1 hts gX8_leading_X8_horsesAt rfl rfl rfl (by decide +kernel) ⟨Nat.le_of_ble_eq_true rfl, Nat.le_of_ble_eq_true rfl⟩) ⟨c_blind, va_recv hKc hPc (ci := 8) (q0 := 0) rfl rfl, c_pre hPc hKc hDc hN⟩ rfl rfl hl.1 rfl (lv_room (Nat.le_of_ble_eq_true rfl)) dX8_leading_58 ⟨Nat.le_of_ble_eq_true rfl, Nat.le_of_ble_eq_true rfl⟩) (fun r_18 hr_18 => ?_)
              subst hr_18
              refine lv_iload_n hx hb dX8_leading_61 rfl (lv_at hl 1 rfl) ?_
              refine lv_isub hx hb dX8_leading_62 ?_
              have hPc := hP.part (cx := []) [] rfl
              have hDc := hD.part (cx := []) [] (by decide) rfl
              have hKc := hK
              have hFc := va_freeP (cx := []) hD hS hA [] rfl
              have hf_19 : f_2 a3 = .inr (1, [.ref (ad 41 0), .ref (ad 42 0), .ref (ad 43 0), .ref (ad 44 0)]) := hT.get hY.2.1
              obtain ⟨q_20, hq_20⟩ := pl_at (X := []) (f := f_2) (e := .inr (1, [.ref (ad 41 0), .ref (ad 42 0), .ref (ad 43 0), .ref (ad 44 0)])) hY.2.1.1 hf_19
              refine va_callv (va_runV (As := [.int (nI k), .int ((nI (cn (pH S8 (nI k)) n0)) - (PBy a_b ln k))]) (rest := []) ⟨hx, hb, hml, hown, hts⟩ (l_X1_setSpare l dC dI cs L ka ix ad n0 n6 n2 S8 f_2 a3 k ((nI (cn (pH S8 (nI k)) n0)) - (PBy a_b ln k)) H.size hT hY.2.1 (by omega)) (cwV 2 hts gX8_leading_X1_setSpare rfl rfl rfl (by decide +kernel) ⟨Nat.le_of_ble_eq_true rfl, Nat.le_of_ble_eq_true rfl⟩) ⟨c_blind, va_recv hKc hPc (ci := 1) (q0 := q_20) rfl hq_20, c_pre hPc hKc hDc hN⟩ rfl rfl hl.1 rfl (lv_room (Nat.le_of_ble_eq_true rfl)) dX8_leading_63 ⟨Nat.le_of_ble_eq_true rfl, Nat.le_of_ble_eq_true rfl⟩) hS (fun q _ h => hFc q h) hFc (fun u9 t9 H1 locs ht hvm hw hB hz1 hk1 hS => ?_)
              obtain ⟨S_22, f_23, hf_x_24, hf_x_25, hf_x_26, hP1, hK1, hD1⟩ := hB
              rw [ht] at hP1
              have hK1 := va_K.moved hvm.symm hK1
              obtain ⟨hP, hD⟩ := va_joinP (X := [(h0, .inr (8, [.ref a1, .ref a2, .ref a3, .ref a4, .ref a5, .ref a6, .ref a7, .ref a8, .ref a9, .int j_faultKind, .int j_horseCount, .int j_tabletCount, .int j_riderCount, .int j_lineLength, .int j_hour])), (a1, .inr (7, [.ref b1, .int (nI ln)])), (b1, .inl (cs 0, 200, .inl a_b))]) (cx := []) (wr := [(h0, .inr (8, [.ref a1, .ref a2, .ref a3, .ref a4, .ref a5, .ref a6, .ref a7, .ref a8, .ref a9, .int j_faultKind, .int j_horseCount, .int j_tabletCount, .int j_riderCount, .int j_lineLength, .int j_hour])), (a1, .inr (7, [.ref b1, .int (nI ln)])), (b1, .inl (cs 0, 200, .inl a_b))]) (rx := []) (pl := va_pl L f_2) (pl1 := va_pl L f_23) hP hD [] [0, 1, 2] rfl rfl (by decide) (by decide) hk1 hFc hP1 hD1
              have hT := hf_x_24
              generalize H1 = H at hP hS ⊢
              have hP : va_P (dC, dI) vwCl ([(h0, .inr (8, [.ref a1, .ref a2, .ref a3, .ref a4, .ref a5, .ref a6, .ref a7, .ref a8, .ref a9, .int j_faultKind, .int j_horseCount, .int j_tabletCount, .int j_riderCount, .int j_lineLength, .int j_hour])), (a1, .inr (7, [.ref b1, .int (nI ln)])), (b1, .inl (cs 0, 200, .inl a_b))] ++ va_pl L f_23) H := hP
              have hD : va_D A ([(h0, .inr (8, [.ref a1, .ref a2, .ref a3, .ref a4, .ref a5, .ref a6, .ref a7, .ref a8, .ref a9, .int j_faultKind, .int j_horseCount, .int j_tabletCount, .int j_riderCount, .int j_lineLength, .int j_hour])), (a1, .inr (7, [.ref b1, .int (nI ln)])), (b1, .inl (cs 0, 200, .inl a_b))] ++ va_pl L f_23) := hD
              have hFr_27 := AG.tr hFrS8 hf_x_25
              refine W.widen (k := 0) (n := 0) (Nat.le_of_ble_eq_true rfl) (Nat.le_of_ble_eq_true rfl) ?_
              refine lv_iinc (v := nI (k + 1)) (lv' := [(2, .int (nI (k + 1))), (1, .int 0), (3, .int (PBy a_b ln k)), (0, .ref h0)]) hx hb dX8_leading_66 hl (k := 3) rfl (by exact (nI_1 k)) (by decide) rfl (fun ls hl => ?_)
              refine lv_goto (tgt := 20) hx hb dX8_leading_69 (by decide) ?_
              exact ih (k + 1) 0 S_22 (by omega) (by omega) hFr_27 (Or.inl rfl) (SP_n (by omega) hSP c_14 c_17) _ _ _ hT (hP.part (cx := _) [0, 1, 2] rfl) (hD.part (cx := _) [0, 1, 2] (by decide) rfl) hS ls (lv_sub hl [3, 1, 0] rfl)
            · refine lv_iconst (v := 1) hx hb dX8_leading_45 (by decide) ?_
              refine lv_goto (tgt := 50) hx hb dX8_leading_46 (by decide) ?_
              refine lv_istore_n (lv' := [(1, .int 1), (3, .int (PBy a_b ln k)), (0, .ref h0), (2, .int (nI k))]) hx hb dX8_leading_50 rfl hl (by decide) rfl (fun ls hl => ?_)
              refine lv_aload_n hx hb dX8_leading_51 rfl (lv_at hl 2 rfl) ?_
              refine va_get (D := (dC, dI)) (ci := 8) (v := .ref a3) (C := RX8) (T := TX8) (N := 15) hx hb hts hin8 hown hK hP 0 rfl rfl 2 (by decide) (hts (.fieldLink RX8 26 "YamRiders" "leader" "LYamRiders$Leader;") (by decide +kernel)) (fun _ h9 => h9) rfl dX8_leading_52 ?_
              refine lv_iload_n hx hb dX8_leading_55 rfl (lv_at hl 3 rfl) ?_
              refine lv_aload_n hx hb dX8_leading_56 rfl (lv_at hl 2 rfl) ?_
              refine lv_iload_n hx hb dX8_leading_57 rfl (lv_at hl 3 rfl) ?_
              have hPc := hP.part (cx := [(h0, .inr (8, [.ref a1, .ref a2, .ref a3, .ref a4, .ref a5, .ref a6, .ref a7, .ref a8, .ref a9, .int j_faultKind, .int j_horseCount, .int j_tabletCount, .int j_riderCount, .int j_lineLength, .int j_hour]))]) [0] rfl
              have hDc := hD.part (cx := [(h0, .inr (8, [.ref a1, .ref a2, .ref a3, .ref a4, .ref a5, .ref a6, .ref a7, .ref a8, .ref a9, .int j_faultKind, .int j_horseCount, .int j_tabletCount, .int j_riderCount, .int j_lineLength, .int j_hour]))]) [0] (by decide) rfl
              have hKc := hK
              refine cs_i (va_runV (As := [.int (nI k)]) (rest := [.int (nI k), .ref a3]) ⟨hx, hb, hml, hown, hts⟩ (e_X8_horsesAt l dC dI cs L ka ix ad n0 n6 n2 S8 f_2 gq h0 a1 a2 a3 a4 a5 a6 a7 a8 a9 j_faultKind j_horseCount j_tabletCount j_riderCount j_lineLength j_hour (nI k) H.size hT hY) (cwV 1 hts gX8_leading_X8_horsesAt rfl rfl rfl (by decide +kernel) ⟨Nat.le_of_ble_eq_true rfl, Nat.le_of_ble_eq_true rfl⟩) ⟨c_blind, va_recv hKc hPc (ci := 8) (q0 := 0) rfl rfl, c_pre hPc hKc hDc hN⟩ rfl rfl hl.1 rfl (lv_room (Nat.le_of_ble_eq_true rfl)) dX8_leading_58 ⟨Nat.le_of_ble_eq_true rfl, Nat.le_of_ble_eq_true rfl⟩) (fun r_28 hr_28 => ?_)
              subst hr_28
              refine lv_iload_n hx hb dX8_leading_61 rfl (lv_at hl 1 rfl) ?_
              refine lv_isub hx hb dX8_leading_62 ?_
              have hPc := hP.part (cx := []) [] rfl
              have hDc := hD.part (cx := []) [] (by decide) rfl
              have hKc := hK
              have hFc := va_freeP (cx := []) hD hS hA [] rfl
              have hf_29 : f_2 a3 = .inr (1, [.ref (ad 41 0), .ref (ad 42 0), .ref (ad 43 0), .ref (ad 44 0)]) := hT.get hY.2.1
              obtain ⟨q_30, hq_30⟩ := pl_at (X := []) (f := f_2) (e := .inr (1, [.ref (ad 41 0), .ref (ad 42 0), .ref (ad 43 0), .ref (ad 44 0)])) hY.2.1.1 hf_29
              refine va_callv (va_runV (As := [.int (nI k), .int ((nI (cn (pH S8 (nI k)) n0)) - (PBy a_b ln k))]) (rest := []) ⟨hx, hb, hml, hown, hts⟩ (l_X1_setSpare l dC dI cs L ka ix ad n0 n6 n2 S8 f_2 a3 k ((nI (cn (pH S8 (nI k)) n0)) - (PBy a_b ln k)) H.size hT hY.2.1 (by omega)) (cwV 2 hts gX8_leading_X1_setSpare rfl rfl rfl (by decide +kernel) ⟨Nat.le_of_ble_eq_true rfl, Nat.le_of_ble_eq_true rfl⟩) ⟨c_blind, va_recv hKc hPc (ci := 1) (q0 := q_30) rfl hq_30, c_pre hPc hKc hDc hN⟩ rfl rfl hl.1 rfl (lv_room (Nat.le_of_ble_eq_true rfl)) dX8_leading_63 ⟨Nat.le_of_ble_eq_true rfl, Nat.le_of_ble_eq_true rfl⟩) hS (fun q _ h => hFc q h) hFc (fun u9 t9 H1 locs ht hvm hw hB hz1 hk1 hS => ?_)
              obtain ⟨S_32, f_33, hf_x_34, hf_x_35, hf_x_36, hP1, hK1, hD1⟩ := hB
              rw [ht] at hP1
              have hK1 := va_K.moved hvm.symm hK1
              obtain ⟨hP, hD⟩ := va_joinP (X := [(h0, .inr (8, [.ref a1, .ref a2, .ref a3, .ref a4, .ref a5, .ref a6, .ref a7, .ref a8, .ref a9, .int j_faultKind, .int j_horseCount, .int j_tabletCount, .int j_riderCount, .int j_lineLength, .int j_hour])), (a1, .inr (7, [.ref b1, .int (nI ln)])), (b1, .inl (cs 0, 200, .inl a_b))]) (cx := []) (wr := [(h0, .inr (8, [.ref a1, .ref a2, .ref a3, .ref a4, .ref a5, .ref a6, .ref a7, .ref a8, .ref a9, .int j_faultKind, .int j_horseCount, .int j_tabletCount, .int j_riderCount, .int j_lineLength, .int j_hour])), (a1, .inr (7, [.ref b1, .int (nI ln)])), (b1, .inl (cs 0, 200, .inl a_b))]) (rx := []) (pl := va_pl L f_2) (pl1 := va_pl L f_33) hP hD [] [0, 1, 2] rfl rfl (by decide) (by decide) hk1 hFc hP1 hD1
              have hT := hf_x_34
              generalize H1 = H at hP hS ⊢
              have hP : va_P (dC, dI) vwCl ([(h0, .inr (8, [.ref a1, .ref a2, .ref a3, .ref a4, .ref a5, .ref a6, .ref a7, .ref a8, .ref a9, .int j_faultKind, .int j_horseCount, .int j_tabletCount, .int j_riderCount, .int j_lineLength, .int j_hour])), (a1, .inr (7, [.ref b1, .int (nI ln)])), (b1, .inl (cs 0, 200, .inl a_b))] ++ va_pl L f_33) H := hP
              have hD : va_D A ([(h0, .inr (8, [.ref a1, .ref a2, .ref a3, .ref a4, .ref a5, .ref a6, .ref a7, .ref a8, .ref a9, .int j_faultKind, .int j_horseCount, .int j_tabletCount, .int j_riderCount, .int j_lineLength, .int j_hour])), (a1, .inr (7, [.ref b1, .int (nI ln)])), (b1, .inl (cs 0, 200, .inl a_b))] ++ va_pl L f_33) := hD
              have hFr_37 := AG.tr hFrS8 hf_x_35
              refine W.widen (k := 0) (n := 0) (Nat.le_of_ble_eq_true rfl) (Nat.le_of_ble_eq_true rfl) ?_
              refine lv_iinc (v := nI (k + 1)) (lv' := [(2, .int (nI (k + 1))), (1, .int 1), (3, .int (PBy a_b ln k)), (0, .ref h0)]) hx hb dX8_leading_66 hl (k := 3) rfl (by exact (nI_1 k)) (by decide) rfl (fun ls hl => ?_)
              refine lv_goto (tgt := 20) hx hb dX8_leading_69 (by decide) ?_
              exact ih (k + 1) 1 S_32 (by omega) (by omega) hFr_37 (Or.inr rfl) (SP_y (by omega) hSP c_14 hFrS8 c_17 hf_x_36) _ _ _ hT (hP.part (cx := _) [0, 1, 2] rfl) (hD.part (cx := _) [0, 1, 2] (by decide) rfl) hS ls (lv_sub hl [3, 1, 0] rfl)
    exact HL 13 0 0 S (by omega) (by omega) AG.rf (Or.inl rfl) (SP_9 c_1) _ _ _ hT (hP.part (cx := _) [0, 1, 2] rfl) (hD.part (cx := _) [0, 1, 2] (by decide) rfl) hS ls (lv_sub hl [2, 1, 0] rfl)
  · refine lv_iconst (v := 1) hx hb dX8_leading_12 (by decide) ?_
    refine lv_goto (tgt := 17) hx hb dX8_leading_13 (by decide) ?_
    refine lv_istore_n (lv' := [(1, .int 1), (0, .ref h0)]) hx hb dX8_leading_17 rfl hl (by decide) rfl (fun ls hl => ?_)
    refine lv_iconst (v := 0) hx hb dX8_leading_18 (by decide) ?_
    refine lv_istore_n (lv' := [(2, .int 0), (1, .int 1), (0, .ref h0)]) hx hb dX8_leading_19 rfl hl (by decide) rfl (fun ls hl => ?_)
    have HL : ∀ (n k : Nat) (x1 : Int32) (S8 : Nat → Nat → Nat → Int32), k ≤ 12 → 12 + 1 ≤ k + n → (AG S S8) → (x1 = 0 ∨ x1 = 1) → (SPk S S8 n0 ln a_b x1 k) → ∀ (f_38 : Nat → va_E) (H : Heap) (locs : List Loc), tB L ka ix ad cs n0 n6 n2 S8 f_38 → va_P (dC, dI) vwCl ([(h0, .inr (8, [.ref a1, .ref a2, .ref a3, .ref a4, .ref a5, .ref a6, .ref a7, .ref a8, .ref a9, .int j_faultKind, .int j_horseCount, .int j_tabletCount, .int j_riderCount, .int j_lineLength, .int j_hour])), (a1, .inr (7, [.ref b1, .int (nI ln)])), (b1, .inl (cs 0, 200, .inl a_b))] ++ va_pl L f_38) H → va_D A ([(h0, .inr (8, [.ref a1, .ref a2, .ref a3, .ref a4, .ref a5, .ref a6, .ref a7, .ref a8, .ref a9, .int j_faultKind, .int j_horseCount, .int j_tabletCount, .int j_riderCount, .int j_lineLength, .int j_hour])), (a1, .inr (7, [.ref b1, .int (nI ln)])), (b1, .inl (cs 0, 200, .inl a_b))] ++ va_pl L f_38) → va_S A s.heap H locs → ∀ ls : Array Slot, lv_has ls 4 [(0, .ref h0), (1, .int x1), (2, .int (nI k))] → W p l e (headSpec wsX8_leading ({ frames := 5, cells := 0, slots := 0, locals := 117 })).room s m ([.ref h0]).toArray below meth c H locs 0 0 (MQ below (va_Qi (fun (r rv : Int32) => r = rv) (fun (rv : Int32) t9 => ∃ (S2 : Nat → Nat → Nat → Int32) (f2 : Nat → va_E), (tB L ka ix ad cs n0 n6 n2 S2 f2) ∧ (AG S S2) ∧ (LEc S S2 n0 ln a_b rv) ∧ cQ dC dI ([(h0, .inr (8, [.ref a1, .ref a2, .ref a3, .ref a4, .ref a5, .ref a6, .ref a7, .ref a8, .ref a9, .int j_faultKind, .int j_horseCount, .int j_tabletCount, .int j_riderCount, .int j_lineLength, .int j_hour])), (a1, .inr (7, [.ref b1, .int 0])), (b1, .inl (cs 0, 200, .inl a_b))] ++ va_pl L f2) [] A t9) A) ([.ref h0]).toArray s 0 0 A) (F0 m 20 ls []) := by
      intro n
      induction n with
      | zero => intro k x1 S8 h1 h2; exact absurd h2 (by omega)
      | succ n ih =>
        intro k x1 S8 hk hn hFrS8 h01 hSP f_38 H locs hT hP hD hS ls hl
        refine lv_iload_n hx hb dX8_leading_20 rfl (lv_at hl 2 rfl) ?_
        refine lv_bipush (v := 12) hx hb dX8_leading_21 (by decide) ?_
        refine lv_icmp_ge (tgt := 72) hx hb dX8_leading_23 (by decide) (fun c_39 => ?_) (fun c_39 => ?_)
        · have hke : k = 12 := by
            rcases Nat.lt_or_ge k 12 with q | q
            · exact absurd c_39 (nI_ge q (by decide))
            · omega
          refine lv_aload_n hx hb dX8_leading_72 rfl (lv_at hl 0 rfl) ?_
          refine va_get (D := (dC, dI)) (ci := 8) (v := .ref a1) (C := RX8) (T := TX8) (N := 15) hx hb hts hin8 hown hK hP 0 rfl rfl 0 (by decide) (hts (.fieldLink RX8 10 "YamRiders" "tape" "LYamRiders$Tape;") (by decide +kernel)) (fun _ h9 => h9) rfl dX8_leading_73 ?_
          refine lv_iconst (v := 0) hx hb dX8_leading_76 (by decide) ?_
          refine va_putN (D := (dC, dI)) (ci := 7) (v := .int 0) (ty := (tyX7 1)) (C := RX7) (T := TX7) (N := 2) hx hb hts hin7 tyX7 tyX7_ok nmX7 hown hK hP hD hS 1 rfl rfl 1 (by decide) (hN.nx (.fieldLinkNest RX8 70 "YamRiders$Tape" "length" "I" "YamRiders") (by decide +kernel)) (fun _ h9 => h9) rfl (by decide +kernel) rfl rfl (Nat.le_of_ble_eq_true rfl) dX8_leading_77 (fun H locs hP hD hS => ?_)
          have hP : va_P (dC, dI) vwCl ([(h0, .inr (8, [.ref a1, .ref a2, .ref a3, .ref a4, .ref a5, .ref a6, .ref a7, .ref a8, .ref a9, .int j_faultKind, .int j_horseCount, .int j_tabletCount, .int j_riderCount, .int j_lineLength, .int j_hour])), (a1, .inr (7, [.ref b1, .int 0])), (b1, .inl (cs 0, 200, .inl a_b))] ++ va_pl L f_38) H := hP
          have hD : va_D A ([(h0, .inr (8, [.ref a1, .ref a2, .ref a3, .ref a4, .ref a5, .ref a6, .ref a7, .ref a8, .ref a9, .int j_faultKind, .int j_horseCount, .int j_tabletCount, .int j_riderCount, .int j_lineLength, .int j_hour])), (a1, .inr (7, [.ref b1, .int 0])), (b1, .inl (cs 0, 200, .inl a_b))] ++ va_pl L f_38) := hD
          refine lv_iload_n hx hb dX8_leading_80 rfl (lv_at hl 1 rfl) ?_
          refine lv_if_eq (tgt := 98) hx hb dX8_leading_81 (by decide) (fun c_40 => ?_) (fun c_40 => ?_)
          · refine lv_iconst (v := (-1)) hx hb dX8_leading_98 (by decide) ?_
            have hP9 := hP.part (cx := [(h0, .inr (8, [.ref a1, .ref a2, .ref a3, .ref a4, .ref a5, .ref a6, .ref a7, .ref a8, .ref a9, .int j_faultKind, .int j_horseCount, .int j_tabletCount, .int j_riderCount, .int j_lineLength, .int j_hour])), (a1, .inr (7, [.ref b1, .int 0])), (b1, .inl (cs 0, 200, .inl a_b))]) [0, 1, 2] rfl
            have hD9 := hD.part (cx := [(h0, .inr (8, [.ref a1, .ref a2, .ref a3, .ref a4, .ref a5, .ref a6, .ref a7, .ref a8, .ref a9, .int j_faultKind, .int j_horseCount, .int j_tabletCount, .int j_riderCount, .int j_lineLength, .int j_hour])), (a1, .inr (7, [.ref b1, .int 0])), (b1, .inl (cs 0, 200, .inl a_b))]) [0, 1, 2] (by decide) rfl
            have hK9 := hK.sub (tys' := []) [] rfl
            refine W.widen (k := 0) (n := 0) (Nat.le_of_ble_eq_true rfl) (Nat.le_of_ble_eq_true rfl) ?_
            exact W.iret (v := (-1)) hx hb hr (fun t9 ht hW => ⟨⟨_, (-1), rfl, rfl, S8, f_38, hT, hFrS8, (LE_m hSP c_40), by rw [ht]; exact hP9, va_K.moved hW.alike hK9, hD9⟩, hS.F ht⟩) hS.2.2 dX8_leading_99
          · refine lv_aload_n hx hb dX8_leading_84 rfl (lv_at hl 0 rfl) ?_
            refine va_get (D := (dC, dI)) (ci := 8) (v := .ref a3) (C := RX8) (T := TX8) (N := 15) hx hb hts hin8 hown hK hP 0 rfl rfl 2 (by decide) (hts (.fieldLink RX8 26 "YamRiders" "leader" "LYamRiders$Leader;") (by decide +kernel)) (fun _ h9 => h9) rfl dX8_leading_85 ?_
            refine lv_aload_n hx hb dX8_leading_88 rfl (lv_at hl 0 rfl) ?_
            refine va_get (D := (dC, dI)) (ci := 8) (v := .ref a2) (C := RX8) (T := TX8) (N := 15) hx hb hts hin8 hown hK hP 0 rfl rfl 1 (by decide) (hts (.fieldLink RX8 19 "YamRiders" "roads" "LYamRiders$Roads;") (by decide +kernel)) (fun _ h9 => h9) rfl dX8_leading_89 ?_
            have hn9 := hT.b0
            obtain ⟨hl12, hw60, hsp9, hLPh⟩ := SP_h (by omega) hSy hRg hBt hFrS8 (hke ▸ hSP) c_40
            have hPc := hP.part (cx := []) [] rfl
            have hDc := hD.part (cx := []) [] (by decide) rfl
            have hKc := hK
            have hFc := va_freeP (cx := []) hD hS hA [] rfl
            have hf_41 : f_38 a3 = .inr (1, [.ref (ad 41 0), .ref (ad 42 0), .ref (ad 43 0), .ref (ad 44 0)]) := hT.get hY.2.1
            obtain ⟨q_42, hq_42⟩ := pl_at (X := []) (f := f_38) (e := .inr (1, [.ref (ad 41 0), .ref (ad 42 0), .ref (ad 43 0), .ref (ad 44 0)])) hY.2.1.1 hf_41
            refine va_calli (va_runV (As := [.ref a2]) (rest := []) ⟨hx, hb, hml, hown, hts⟩ (l_X1_leastPains l dC dI cs L ka ix ad n0 n6 n2 S8 f_38 a3 a2 H.size hT hY.2.1 hY.1 hLPh) (cwV 1 hts gX8_leading_X1_leastPains rfl rfl rfl (by decide +kernel) ⟨Nat.le_of_ble_eq_true rfl, Nat.le_of_ble_eq_true rfl⟩) ⟨c_blind, va_recv hKc hPc (ci := 1) (q0 := q_42) rfl hq_42, c_pre hPc hKc hDc hN⟩ rfl rfl hl.1 rfl (lv_room (Nat.le_of_ble_eq_true rfl)) dX8_leading_92 ⟨Nat.le_of_ble_eq_true rfl, Nat.le_of_ble_eq_true rfl⟩) hS (fun q _ h => hFc q h) hFc (fun r_43 u9 t9 H1 locs ht hvm hw hB hz1 hk1 hS => ?_)
            obtain ⟨S_44, f_45, hf_x_46, hf_x_47, hf_x_48, hP1, hK1, hD1⟩ := hB
            rw [ht] at hP1
            have hK1 := va_K.moved hvm.symm hK1
            obtain ⟨hP, hD⟩ := va_joinP (X := [(h0, .inr (8, [.ref a1, .ref a2, .ref a3, .ref a4, .ref a5, .ref a6, .ref a7, .ref a8, .ref a9, .int j_faultKind, .int j_horseCount, .int j_tabletCount, .int j_riderCount, .int j_lineLength, .int j_hour])), (a1, .inr (7, [.ref b1, .int 0])), (b1, .inl (cs 0, 200, .inl a_b))]) (cx := []) (wr := [(h0, .inr (8, [.ref a1, .ref a2, .ref a3, .ref a4, .ref a5, .ref a6, .ref a7, .ref a8, .ref a9, .int j_faultKind, .int j_horseCount, .int j_tabletCount, .int j_riderCount, .int j_lineLength, .int j_hour])), (a1, .inr (7, [.ref b1, .int 0])), (b1, .inl (cs 0, 200, .inl a_b))]) (rx := []) (pl := va_pl L f_38) (pl1 := va_pl L f_45) hP hD [] [0, 1, 2] rfl rfl (by decide) (by decide) hk1 hFc hP1 hD1
            have hT := hf_x_46
            generalize H1 = H at hP hS ⊢
            have hP : va_P (dC, dI) vwCl ([(h0, .inr (8, [.ref a1, .ref a2, .ref a3, .ref a4, .ref a5, .ref a6, .ref a7, .ref a8, .ref a9, .int j_faultKind, .int j_horseCount, .int j_tabletCount, .int j_riderCount, .int j_lineLength, .int j_hour])), (a1, .inr (7, [.ref b1, .int 0])), (b1, .inl (cs 0, 200, .inl a_b))] ++ va_pl L f_45) H := hP
            have hD : va_D A ([(h0, .inr (8, [.ref a1, .ref a2, .ref a3, .ref a4, .ref a5, .ref a6, .ref a7, .ref a8, .ref a9, .int j_faultKind, .int j_horseCount, .int j_tabletCount, .int j_riderCount, .int j_lineLength, .int j_hour])), (a1, .inr (7, [.ref b1, .int 0])), (b1, .inl (cs 0, 200, .inl a_b))] ++ va_pl L f_45) := hD
            have hFr_49 := AG.tr hFrS8 hf_x_47
            refine W.widen (k := 0) (n := 0) (Nat.le_of_ble_eq_true rfl) (Nat.le_of_ble_eq_true rfl) ?_
            try dsimp only at hw
            subst hw
            refine lv_goto (tgt := 99) hx hb dX8_leading_95 (by decide) ?_
            have hP9 := hP.part (cx := [(h0, .inr (8, [.ref a1, .ref a2, .ref a3, .ref a4, .ref a5, .ref a6, .ref a7, .ref a8, .ref a9, .int j_faultKind, .int j_horseCount, .int j_tabletCount, .int j_riderCount, .int j_lineLength, .int j_hour])), (a1, .inr (7, [.ref b1, .int 0])), (b1, .inl (cs 0, 200, .inl a_b))]) [0, 1, 2] rfl
            have hD9 := hD.part (cx := [(h0, .inr (8, [.ref a1, .ref a2, .ref a3, .ref a4, .ref a5, .ref a6, .ref a7, .ref a8, .ref a9, .int j_faultKind, .int j_horseCount, .int j_tabletCount, .int j_riderCount, .int j_lineLength, .int j_hour])), (a1, .inr (7, [.ref b1, .int 0])), (b1, .inl (cs 0, 200, .inl a_b))]) [0, 1, 2] (by decide) rfl
            have hK9 := hK.sub (tys' := []) [] rfl
            refine W.widen (k := 0) (n := 0) (Nat.le_of_ble_eq_true rfl) (Nat.le_of_ble_eq_true rfl) ?_
            exact W.iret (v := r_43) hx hb hr (fun t9 ht hW => ⟨⟨_, r_43, rfl, rfl, S_44, f_45, hT, hFr_49, (Or.inr ⟨hl12, hw60, _, AG.fr hFrS8, hsp9, hLPh, hf_x_48⟩), by rw [ht]; exact hP9, va_K.moved hW.alike hK9, hD9⟩, hS.F ht⟩) hS.2.2 dX8_leading_99
        · have hlt : k < 12 := by
            rcases Nat.lt_or_ge k 12 with q | q
            · exact q
            · exact absurd (show nI 12 ≤ nI k from nI_le q (by omega)) c_39
          refine lv_iload_n hx hb dX8_leading_26 rfl (lv_at hl 1 rfl) ?_
          refine lv_if_eq (tgt := 72) hx hb dX8_leading_27 (by decide) (fun c_50 => ?_) (fun c_50 => ?_)
          · refine lv_aload_n hx hb dX8_leading_72 rfl (lv_at hl 0 rfl) ?_
            refine va_get (D := (dC, dI)) (ci := 8) (v := .ref a1) (C := RX8) (T := TX8) (N := 15) hx hb hts hin8 hown hK hP 0 rfl rfl 0 (by decide) (hts (.fieldLink RX8 10 "YamRiders" "tape" "LYamRiders$Tape;") (by decide +kernel)) (fun _ h9 => h9) rfl dX8_leading_73 ?_
            refine lv_iconst (v := 0) hx hb dX8_leading_76 (by decide) ?_
            refine va_putN (D := (dC, dI)) (ci := 7) (v := .int 0) (ty := (tyX7 1)) (C := RX7) (T := TX7) (N := 2) hx hb hts hin7 tyX7 tyX7_ok nmX7 hown hK hP hD hS 1 rfl rfl 1 (by decide) (hN.nx (.fieldLinkNest RX8 70 "YamRiders$Tape" "length" "I" "YamRiders") (by decide +kernel)) (fun _ h9 => h9) rfl (by decide +kernel) rfl rfl (Nat.le_of_ble_eq_true rfl) dX8_leading_77 (fun H locs hP hD hS => ?_)
            have hP : va_P (dC, dI) vwCl ([(h0, .inr (8, [.ref a1, .ref a2, .ref a3, .ref a4, .ref a5, .ref a6, .ref a7, .ref a8, .ref a9, .int j_faultKind, .int j_horseCount, .int j_tabletCount, .int j_riderCount, .int j_lineLength, .int j_hour])), (a1, .inr (7, [.ref b1, .int 0])), (b1, .inl (cs 0, 200, .inl a_b))] ++ va_pl L f_38) H := hP
            have hD : va_D A ([(h0, .inr (8, [.ref a1, .ref a2, .ref a3, .ref a4, .ref a5, .ref a6, .ref a7, .ref a8, .ref a9, .int j_faultKind, .int j_horseCount, .int j_tabletCount, .int j_riderCount, .int j_lineLength, .int j_hour])), (a1, .inr (7, [.ref b1, .int 0])), (b1, .inl (cs 0, 200, .inl a_b))] ++ va_pl L f_38) := hD
            refine lv_iload_n hx hb dX8_leading_80 rfl (lv_at hl 1 rfl) ?_
            refine lv_if_eq (tgt := 98) hx hb dX8_leading_81 (by decide) (fun _ => ?_) (fun c_51 => by first | exact absurd c_51 c_50 | exact absurd c_50 c_51)
            refine lv_iconst (v := (-1)) hx hb dX8_leading_98 (by decide) ?_
            have hP9 := hP.part (cx := [(h0, .inr (8, [.ref a1, .ref a2, .ref a3, .ref a4, .ref a5, .ref a6, .ref a7, .ref a8, .ref a9, .int j_faultKind, .int j_horseCount, .int j_tabletCount, .int j_riderCount, .int j_lineLength, .int j_hour])), (a1, .inr (7, [.ref b1, .int 0])), (b1, .inl (cs 0, 200, .inl a_b))]) [0, 1, 2] rfl
            have hD9 := hD.part (cx := [(h0, .inr (8, [.ref a1, .ref a2, .ref a3, .ref a4, .ref a5, .ref a6, .ref a7, .ref a8, .ref a9, .int j_faultKind, .int j_horseCount, .int j_tabletCount, .int j_riderCount, .int j_lineLength, .int j_hour])), (a1, .inr (7, [.ref b1, .int 0])), (b1, .inl (cs 0, 200, .inl a_b))]) [0, 1, 2] (by decide) rfl
            have hK9 := hK.sub (tys' := []) [] rfl
            refine W.widen (k := 0) (n := 0) (Nat.le_of_ble_eq_true rfl) (Nat.le_of_ble_eq_true rfl) ?_
            exact W.iret (v := (-1)) hx hb hr (fun t9 ht hW => ⟨⟨_, (-1), rfl, rfl, S8, f_38, hT, hFrS8, (LE_m hSP c_50), by rw [ht]; exact hP9, va_K.moved hW.alike hK9, hD9⟩, hS.F ht⟩) hS.2.2 dX8_leading_99
          · refine lv_aload_n hx hb dX8_leading_30 rfl (lv_at hl 0 rfl) ?_
            refine va_get (D := (dC, dI)) (ci := 8) (v := .ref a1) (C := RX8) (T := TX8) (N := 15) hx hb hts hin8 hown hK hP 0 rfl rfl 0 (by decide) (hts (.fieldLink RX8 10 "YamRiders" "tape" "LYamRiders$Tape;") (by decide +kernel)) (fun _ h9 => h9) rfl dX8_leading_31 ?_
            refine lv_iload_n hx hb dX8_leading_34 rfl (lv_at hl 2 rfl) ?_
            have hPc := hP.sub (ws' := [(a1, .inr (7, [.ref b1, .int (nI ln)])), (b1, .inl (cs 0, 200, .inl a_b))]) [1, 2] rfl
            have hDc := hD.sub (ws' := [(a1, .inr (7, [.ref b1, .int (nI ln)])), (b1, .inl (cs 0, 200, .inl a_b))]) [1, 2] (by decide) rfl
            have hKc := hK.sub (tys' := [(cs 0, .int)]) [0] rfl
            refine cs_i (va_runV (As := [.int (nI k)]) (rest := []) ⟨hx, hb, hml, hown, hts⟩ (s_X7_byteAt l dC dI a1 b1 (cs 0) a_b ln k H.size (by omega) (by omega)) (cwV 1 hts gX8_leading_X7_byteAt rfl rfl rfl (by decide +kernel) ⟨Nat.le_of_ble_eq_true rfl, Nat.le_of_ble_eq_true rfl⟩) ⟨c_blind, va_recv hKc hPc (ci := 7) (q0 := 0) rfl rfl, c_pre hPc hKc hDc hN⟩ rfl rfl hl.1 rfl (lv_room (Nat.le_of_ble_eq_true rfl)) dX8_leading_35 ⟨Nat.le_of_ble_eq_true rfl, Nat.le_of_ble_eq_true rfl⟩) (fun r_52 hr_52 => ?_)
            subst hr_52
            refine lv_istore_n (lv' := [(3, .int (PBy a_b ln k)), (0, .ref h0), (1, .int x1), (2, .int (nI k))]) hx hb dX8_leading_38 rfl hl (by decide) rfl (fun ls hl => ?_)
            refine lv_iload_n hx hb dX8_leading_39 rfl (lv_at hl 0 rfl) ?_
            refine lv_bipush (v := 60) hx hb dX8_leading_40 (by decide) ?_
            refine lv_icmp_gt (tgt := 49) hx hb dX8_leading_42 (by decide) (fun c_53 => ?_) (fun c_53 => ?_)
            · refine lv_iconst (v := 0) hx hb dX8_leading_49 (by decide) ?_
              refine lv_istore_n (lv' := [(1, .int 0), (3, .int (PBy a_b ln k)), (0, .ref h0), (2, .int (nI k))]) hx hb dX8_leading_50 rfl hl (by decide) rfl (fun ls hl => ?_)
              refine lv_aload_n hx hb dX8_leading_51 rfl (lv_at hl 2 rfl) ?_
              refine va_get (D := (dC, dI)) (ci := 8) (v := .ref a3) (C := RX8) (T := TX8) (N := 15) hx hb hts hin8 hown hK hP 0 rfl rfl 2 (by decide) (hts (.fieldLink RX8 26 "YamRiders" "leader" "LYamRiders$Leader;") (by decide +kernel)) (fun _ h9 => h9) rfl dX8_leading_52 ?_
              refine lv_iload_n hx hb dX8_leading_55 rfl (lv_at hl 3 rfl) ?_
              refine lv_aload_n hx hb dX8_leading_56 rfl (lv_at hl 2 rfl) ?_
              refine lv_iload_n hx hb dX8_leading_57 rfl (lv_at hl 3 rfl) ?_
              have hPc := hP.part (cx := [(h0, .inr (8, [.ref a1, .ref a2, .ref a3, .ref a4, .ref a5, .ref a6, .ref a7, .ref a8, .ref a9, .int j_faultKind, .int j_horseCount, .int j_tabletCount, .int j_riderCount, .int j_lineLength, .int j_hour]))]) [0] rfl
              have hDc := hD.part (cx := [(h0, .inr (8, [.ref a1, .ref a2, .ref a3, .ref a4, .ref a5, .ref a6, .ref a7, .ref a8, .ref a9, .int j_faultKind, .int j_horseCount, .int j_tabletCount, .int j_riderCount, .int j_lineLength, .int j_hour]))]) [0] (by decide) rfl
              have hKc := hK
              refine cs_i (va_runV (As := [.int (nI k)]) (rest := [.int (nI k), .ref a3]) ⟨hx, hb, hml, hown, hts⟩ (e_X8_horsesAt l dC dI cs L ka ix ad n0 n6 n2 S8 f_38 gq h0 a1 a2 a3 a4 a5 a6 a7 a8 a9 j_faultKind j_horseCount j_tabletCount j_riderCount j_lineLength j_hour (nI k) H.size hT hY) (cwV 1 hts gX8_leading_X8_horsesAt rfl rfl rfl (by decide +kernel) ⟨Nat.le_of_ble_eq_true rfl, Nat.le_of_ble_eq_true rfl⟩) ⟨c_blind, va_recv hKc hPc (ci := 8) (q0 := 0) rfl rfl, c_pre hPc hKc hDc hN⟩ rfl rfl hl.1 rfl (lv_room (Nat.le_of_ble_eq_true rfl)) dX8_leading_58 ⟨Nat.le_of_ble_eq_true rfl, Nat.le_of_ble_eq_true rfl⟩) (fun r_54 hr_54 => ?_)
              subst hr_54
              refine lv_iload_n hx hb dX8_leading_61 rfl (lv_at hl 1 rfl) ?_
              refine lv_isub hx hb dX8_leading_62 ?_
              have hPc := hP.part (cx := []) [] rfl
              have hDc := hD.part (cx := []) [] (by decide) rfl
              have hKc := hK
              have hFc := va_freeP (cx := []) hD hS hA [] rfl
              have hf_55 : f_38 a3 = .inr (1, [.ref (ad 41 0), .ref (ad 42 0), .ref (ad 43 0), .ref (ad 44 0)]) := hT.get hY.2.1
              obtain ⟨q_56, hq_56⟩ := pl_at (X := []) (f := f_38) (e := .inr (1, [.ref (ad 41 0), .ref (ad 42 0), .ref (ad 43 0), .ref (ad 44 0)])) hY.2.1.1 hf_55
              refine va_callv (va_runV (As := [.int (nI k), .int ((nI (cn (pH S8 (nI k)) n0)) - (PBy a_b ln k))]) (rest := []) ⟨hx, hb, hml, hown, hts⟩ (l_X1_setSpare l dC dI cs L ka ix ad n0 n6 n2 S8 f_38 a3 k ((nI (cn (pH S8 (nI k)) n0)) - (PBy a_b ln k)) H.size hT hY.2.1 (by omega)) (cwV 2 hts gX8_leading_X1_setSpare rfl rfl rfl (by decide +kernel) ⟨Nat.le_of_ble_eq_true rfl, Nat.le_of_ble_eq_true rfl⟩) ⟨c_blind, va_recv hKc hPc (ci := 1) (q0 := q_56) rfl hq_56, c_pre hPc hKc hDc hN⟩ rfl rfl hl.1 rfl (lv_room (Nat.le_of_ble_eq_true rfl)) dX8_leading_63 ⟨Nat.le_of_ble_eq_true rfl, Nat.le_of_ble_eq_true rfl⟩) hS (fun q _ h => hFc q h) hFc (fun u9 t9 H1 locs ht hvm hw hB hz1 hk1 hS => ?_)
              obtain ⟨S_58, f_59, hf_x_60, hf_x_61, hf_x_62, hP1, hK1, hD1⟩ := hB
              rw [ht] at hP1
              have hK1 := va_K.moved hvm.symm hK1
              obtain ⟨hP, hD⟩ := va_joinP (X := [(h0, .inr (8, [.ref a1, .ref a2, .ref a3, .ref a4, .ref a5, .ref a6, .ref a7, .ref a8, .ref a9, .int j_faultKind, .int j_horseCount, .int j_tabletCount, .int j_riderCount, .int j_lineLength, .int j_hour])), (a1, .inr (7, [.ref b1, .int (nI ln)])), (b1, .inl (cs 0, 200, .inl a_b))]) (cx := []) (wr := [(h0, .inr (8, [.ref a1, .ref a2, .ref a3, .ref a4, .ref a5, .ref a6, .ref a7, .ref a8, .ref a9, .int j_faultKind, .int j_horseCount, .int j_tabletCount, .int j_riderCount, .int j_lineLength, .int j_hour])), (a1, .inr (7, [.ref b1, .int (nI ln)])), (b1, .inl (cs 0, 200, .inl a_b))]) (rx := []) (pl := va_pl L f_38) (pl1 := va_pl L f_59) hP hD [] [0, 1, 2] rfl rfl (by decide) (by decide) hk1 hFc hP1 hD1
              have hT := hf_x_60
              generalize H1 = H at hP hS ⊢
              have hP : va_P (dC, dI) vwCl ([(h0, .inr (8, [.ref a1, .ref a2, .ref a3, .ref a4, .ref a5, .ref a6, .ref a7, .ref a8, .ref a9, .int j_faultKind, .int j_horseCount, .int j_tabletCount, .int j_riderCount, .int j_lineLength, .int j_hour])), (a1, .inr (7, [.ref b1, .int (nI ln)])), (b1, .inl (cs 0, 200, .inl a_b))] ++ va_pl L f_59) H := hP
              have hD : va_D A ([(h0, .inr (8, [.ref a1, .ref a2, .ref a3, .ref a4, .ref a5, .ref a6, .ref a7, .ref a8, .ref a9, .int j_faultKind, .int j_horseCount, .int j_tabletCount, .int j_riderCount, .int j_lineLength, .int j_hour])), (a1, .inr (7, [.ref b1, .int (nI ln)])), (b1, .inl (cs 0, 200, .inl a_b))] ++ va_pl L f_59) := hD
              have hFr_63 := AG.tr hFrS8 hf_x_61
              refine W.widen (k := 0) (n := 0) (Nat.le_of_ble_eq_true rfl) (Nat.le_of_ble_eq_true rfl) ?_
              refine lv_iinc (v := nI (k + 1)) (lv' := [(2, .int (nI (k + 1))), (1, .int 0), (3, .int (PBy a_b ln k)), (0, .ref h0)]) hx hb dX8_leading_66 hl (k := 3) rfl (by exact (nI_1 k)) (by decide) rfl (fun ls hl => ?_)
              refine lv_goto (tgt := 20) hx hb dX8_leading_69 (by decide) ?_
              exact ih (k + 1) 0 S_58 (by omega) (by omega) hFr_63 (Or.inl rfl) (SP_n (by omega) hSP c_50 c_53) _ _ _ hT (hP.part (cx := _) [0, 1, 2] rfl) (hD.part (cx := _) [0, 1, 2] (by decide) rfl) hS ls (lv_sub hl [3, 1, 0] rfl)
            · refine lv_iconst (v := 1) hx hb dX8_leading_45 (by decide) ?_
              refine lv_goto (tgt := 50) hx hb dX8_leading_46 (by decide) ?_
              refine lv_istore_n (lv' := [(1, .int 1), (3, .int (PBy a_b ln k)), (0, .ref h0), (2, .int (nI k))]) hx hb dX8_leading_50 rfl hl (by decide) rfl (fun ls hl => ?_)
              refine lv_aload_n hx hb dX8_leading_51 rfl (lv_at hl 2 rfl) ?_
              refine va_get (D := (dC, dI)) (ci := 8) (v := .ref a3) (C := RX8) (T := TX8) (N := 15) hx hb hts hin8 hown hK hP 0 rfl rfl 2 (by decide) (hts (.fieldLink RX8 26 "YamRiders" "leader" "LYamRiders$Leader;") (by decide +kernel)) (fun _ h9 => h9) rfl dX8_leading_52 ?_
              refine lv_iload_n hx hb dX8_leading_55 rfl (lv_at hl 3 rfl) ?_
              refine lv_aload_n hx hb dX8_leading_56 rfl (lv_at hl 2 rfl) ?_
              refine lv_iload_n hx hb dX8_leading_57 rfl (lv_at hl 3 rfl) ?_
              have hPc := hP.part (cx := [(h0, .inr (8, [.ref a1, .ref a2, .ref a3, .ref a4, .ref a5, .ref a6, .ref a7, .ref a8, .ref a9, .int j_faultKind, .int j_horseCount, .int j_tabletCount, .int j_riderCount, .int j_lineLength, .int j_hour]))]) [0] rfl
              have hDc := hD.part (cx := [(h0, .inr (8, [.ref a1, .ref a2, .ref a3, .ref a4, .ref a5, .ref a6, .ref a7, .ref a8, .ref a9, .int j_faultKind, .int j_horseCount, .int j_tabletCount, .int j_riderCount, .int j_lineLength, .int j_hour]))]) [0] (by decide) rfl
              have hKc := hK
              refine cs_i (va_runV (As := [.int (nI k)]) (rest := [.int (nI k), .ref a3]) ⟨hx, hb, hml, hown, hts⟩ (e_X8_horsesAt l dC dI cs L ka ix ad n0 n6 n2 S8 f_38 gq h0 a1 a2 a3 a4 a5 a6 a7 a8 a9 j_faultKind j_horseCount j_tabletCount j_riderCount j_lineLength j_hour (nI k) H.size hT hY) (cwV 1 hts gX8_leading_X8_horsesAt rfl rfl rfl (by decide +kernel) ⟨Nat.le_of_ble_eq_true rfl, Nat.le_of_ble_eq_true rfl⟩) ⟨c_blind, va_recv hKc hPc (ci := 8) (q0 := 0) rfl rfl, c_pre hPc hKc hDc hN⟩ rfl rfl hl.1 rfl (lv_room (Nat.le_of_ble_eq_true rfl)) dX8_leading_58 ⟨Nat.le_of_ble_eq_true rfl, Nat.le_of_ble_eq_true rfl⟩) (fun r_64 hr_64 => ?_)
              subst hr_64
              refine lv_iload_n hx hb dX8_leading_61 rfl (lv_at hl 1 rfl) ?_
              refine lv_isub hx hb dX8_leading_62 ?_
              have hPc := hP.part (cx := []) [] rfl
              have hDc := hD.part (cx := []) [] (by decide) rfl
              have hKc := hK
              have hFc := va_freeP (cx := []) hD hS hA [] rfl
              have hf_65 : f_38 a3 = .inr (1, [.ref (ad 41 0), .ref (ad 42 0), .ref (ad 43 0), .ref (ad 44 0)]) := hT.get hY.2.1
              obtain ⟨q_66, hq_66⟩ := pl_at (X := []) (f := f_38) (e := .inr (1, [.ref (ad 41 0), .ref (ad 42 0), .ref (ad 43 0), .ref (ad 44 0)])) hY.2.1.1 hf_65
              refine va_callv (va_runV (As := [.int (nI k), .int ((nI (cn (pH S8 (nI k)) n0)) - (PBy a_b ln k))]) (rest := []) ⟨hx, hb, hml, hown, hts⟩ (l_X1_setSpare l dC dI cs L ka ix ad n0 n6 n2 S8 f_38 a3 k ((nI (cn (pH S8 (nI k)) n0)) - (PBy a_b ln k)) H.size hT hY.2.1 (by omega)) (cwV 2 hts gX8_leading_X1_setSpare rfl rfl rfl (by decide +kernel) ⟨Nat.le_of_ble_eq_true rfl, Nat.le_of_ble_eq_true rfl⟩) ⟨c_blind, va_recv hKc hPc (ci := 1) (q0 := q_66) rfl hq_66, c_pre hPc hKc hDc hN⟩ rfl rfl hl.1 rfl (lv_room (Nat.le_of_ble_eq_true rfl)) dX8_leading_63 ⟨Nat.le_of_ble_eq_true rfl, Nat.le_of_ble_eq_true rfl⟩) hS (fun q _ h => hFc q h) hFc (fun u9 t9 H1 locs ht hvm hw hB hz1 hk1 hS => ?_)
              obtain ⟨S_68, f_69, hf_x_70, hf_x_71, hf_x_72, hP1, hK1, hD1⟩ := hB
              rw [ht] at hP1
              have hK1 := va_K.moved hvm.symm hK1
              obtain ⟨hP, hD⟩ := va_joinP (X := [(h0, .inr (8, [.ref a1, .ref a2, .ref a3, .ref a4, .ref a5, .ref a6, .ref a7, .ref a8, .ref a9, .int j_faultKind, .int j_horseCount, .int j_tabletCount, .int j_riderCount, .int j_lineLength, .int j_hour])), (a1, .inr (7, [.ref b1, .int (nI ln)])), (b1, .inl (cs 0, 200, .inl a_b))]) (cx := []) (wr := [(h0, .inr (8, [.ref a1, .ref a2, .ref a3, .ref a4, .ref a5, .ref a6, .ref a7, .ref a8, .ref a9, .int j_faultKind, .int j_horseCount, .int j_tabletCount, .int j_riderCount, .int j_lineLength, .int j_hour])), (a1, .inr (7, [.ref b1, .int (nI ln)])), (b1, .inl (cs 0, 200, .inl a_b))]) (rx := []) (pl := va_pl L f_38) (pl1 := va_pl L f_69) hP hD [] [0, 1, 2] rfl rfl (by decide) (by decide) hk1 hFc hP1 hD1
              have hT := hf_x_70
              generalize H1 = H at hP hS ⊢
              have hP : va_P (dC, dI) vwCl ([(h0, .inr (8, [.ref a1, .ref a2, .ref a3, .ref a4, .ref a5, .ref a6, .ref a7, .ref a8, .ref a9, .int j_faultKind, .int j_horseCount, .int j_tabletCount, .int j_riderCount, .int j_lineLength, .int j_hour])), (a1, .inr (7, [.ref b1, .int (nI ln)])), (b1, .inl (cs 0, 200, .inl a_b))] ++ va_pl L f_69) H := hP
              have hD : va_D A ([(h0, .inr (8, [.ref a1, .ref a2, .ref a3, .ref a4, .ref a5, .ref a6, .ref a7, .ref a8, .ref a9, .int j_faultKind, .int j_horseCount, .int j_tabletCount, .int j_riderCount, .int j_lineLength, .int j_hour])), (a1, .inr (7, [.ref b1, .int (nI ln)])), (b1, .inl (cs 0, 200, .inl a_b))] ++ va_pl L f_69) := hD
              have hFr_73 := AG.tr hFrS8 hf_x_71
              refine W.widen (k := 0) (n := 0) (Nat.le_of_ble_eq_true rfl) (Nat.le_of_ble_eq_true rfl) ?_
              refine lv_iinc (v := nI (k + 1)) (lv' := [(2, .int (nI (k + 1))), (1, .int 1), (3, .int (PBy a_b ln k)), (0, .ref h0)]) hx hb dX8_leading_66 hl (k := 3) rfl (by exact (nI_1 k)) (by decide) rfl (fun ls hl => ?_)
              refine lv_goto (tgt := 20) hx hb dX8_leading_69 (by decide) ?_
              exact ih (k + 1) 1 S_68 (by omega) (by omega) hFr_73 (Or.inr rfl) (SP_y (by omega) hSP c_50 hFrS8 c_53 hf_x_72) _ _ _ hT (hP.part (cx := _) [0, 1, 2] rfl) (hD.part (cx := _) [0, 1, 2] (by decide) rfl) hS ls (lv_sub hl [3, 1, 0] rfl)
    exact HL 13 0 1 S (by omega) (by omega) AG.rf (Or.inr rfl) (SP_0 c_1 hln) _ _ _ hT (hP.part (cx := _) [0, 1, 2] rfl) (hD.part (cx := _) [0, 1, 2] (by decide) rfl) hS ls (lv_sub hl [2, 1, 0] rfl)
