set_option maxHeartbeats 4000000 in
set_option maxRecDepth 100000 in
theorem t_X8_carryVoids (l : Launch) (dC : Nat → ClassId) (dI : Nat → Nat → Nat) (cs : Nat → ClassId) (L : List Nat) (ka : Nat → Nat) (f : Nat → va_E) (h0 : Nat) (a1 : Nat) (a2 : Nat) (a3 : Nat) (a4 : Nat) (a5 : Nat) (a6 : Nat) (a7 : Nat) (a8 : Nat) (a9 : Nat) (j_faultKind : Int32) (j_horseCount : Int32) (j_tabletCount : Int32) (j_riderCount : Int32) (j_lineLength : Int32) (j_hour : Int32) (p0 : Int32) (p1 : Int32) (p2 : Int32) (sz : Nat) (hT : tO L ka cs f) (hY : yK L ka a2 a3 a4 a5 a6 a7 a8 a9) : Met l yX8_carryVoids wsX8_carryVoids ({ frames := 3, cells := 0, slots := 0, locals := 64 }) (va_Pc [.ref h0, .int p0, .int p1, .int p2] (cP dC dI ([(h0, .inr (8, [.ref a1, .ref a2, .ref a3, .ref a4, .ref a5, .ref a6, .ref a7, .ref a8, .ref a9, .int j_faultKind, .int j_horseCount, .int j_tabletCount, .int j_riderCount, .int j_lineLength, .int j_hour]))] ++ va_pl L f) (tyC cs) sz)) (va_Qv (fun (_ : Unit) => True) (fun (_ : Unit) t9 => ∃ (f2 : Nat → va_E), (tO L ka cs f2) ∧ cQ dC dI ([(h0, .inr (8, [.ref a1, .ref a2, .ref a3, .ref a4, .ref a5, .ref a6, .ref a7, .ref a8, .ref a9, .int j_faultKind, .int j_horseCount, .int j_tabletCount, .int j_riderCount, .int j_lineLength, .int j_hour]))] ++ va_pl L f2) [] (va_A ([(h0, .inr (8, [.ref a1, .ref a2, .ref a3, .ref a4, .ref a5, .ref a6, .ref a7, .ref a8, .ref a9, .int j_faultKind, .int j_horseCount, .int j_tabletCount, .int j_riderCount, .int j_lineLength, .int j_hour]))] ++ va_pl L f) sz) t9) (va_A ([(h0, .inr (8, [.ref a1, .ref a2, .ref a3, .ref a4, .ref a5, .ref a6, .ref a7, .ref a8, .ref a9, .int j_faultKind, .int j_horseCount, .int j_tabletCount, .int j_riderCount, .int j_lineLength, .int j_hour]))] ++ va_pl L f) sz)) 0 0 (va_A ([(h0, .inr (8, [.ref a1, .ref a2, .ref a3, .ref a4, .ref a5, .ref a6, .ref a7, .ref a8, .ref a9, .int j_faultKind, .int j_horseCount, .int j_tabletCount, .int j_riderCount, .int j_lineLength, .int j_hour]))] ++ va_pl L f) sz) := by
  refine Met.ofW (cc := cX8_carryVoids) (maxL := 8) (ret := none) (by decide) rfl ?_
  intro p e s m args below meth c s₁ B hml hv
  obtain ⟨rfl, hsz, hP, hK, hD0, hN⟩ := hv
  have hx := B.exec
  have hb := B.bytes
  have hr := B.returns
  have hts := atoms_spec (ws := wsX8_carryVoids) B.pre
  have hown : s.vm.findClass RX8 = some m.cls := findClass_of_methodNamed B.named
  have hlocks := B.notSynchronized
  subst hsz
  have hin8 : ∀ w ∈ u_ws RX8 TX8 15, w ∈ wsX8_carryVoids := by decide +kernel
  have hD := hD0.self (sz := s.heap.size)
  generalize hAe : va_A ([(h0, .inr (8, [.ref a1, .ref a2, .ref a3, .ref a4, .ref a5, .ref a6, .ref a7, .ref a8, .ref a9, .int j_faultKind, .int j_horseCount, .int j_tabletCount, .int j_riderCount, .int j_lineLength, .int j_hour]))] ++ va_pl L f) s.heap.size = A at hD ⊢
  have hA : ∀ q : Nat, s.heap.size ≤ q → A q := fun q h => by rw [← hAe]; exact Or.inr h
  have hS : va_S A s.heap s.heap [] := va_S.rf
  have hP : va_P (dC, dI) vwCl ([(h0, .inr (8, [.ref a1, .ref a2, .ref a3, .ref a4, .ref a5, .ref a6, .ref a7, .ref a8, .ref a9, .int j_faultKind, .int j_horseCount, .int j_tabletCount, .int j_riderCount, .int j_lineLength, .int j_hour]))] ++ va_pl L f) s.heap := hP
  have hl := lv_entry ([.ref h0, .int p0, .int p1, .int p2]) (n := 8) (Nat.le_of_ble_eq_true rfl)
  rw [lg_entry_eq]
  generalize (lg_sl ([.ref h0, .int p0, .int p1, .int p2]) ++ List.replicate (8 - (lg_sl ([.ref h0, .int p0, .int p1, .int p2])).length) Slot.unset).toArray = ls at hl ⊢
  have hl : lv_has ls 8 [(0, .ref h0), (1, .int p0), (2, .int p1), (3, .int p2)] := hl
  refine lv_aload_n hx hb dX8_carryVoids_0 rfl (lv_at hl 0 rfl) ?_
  refine va_get (D := (dC, dI)) (ci := 8) (v := .ref a6) (C := RX8) (T := TX8) (N := 15) hx hb hts hin8 hown hK hP 0 rfl rfl 5 (by decide) (hts (.fieldLink RX8 42 "YamRiders" "tablets" "[LYamRiders$Tablet;") (by decide +kernel)) (fun _ h9 => h9) rfl dX8_carryVoids_1 ?_
  refine lv_astore (lv' := [(4, .ref a6), (0, .ref h0), (1, .int p0), (2, .int p1), (3, .int p2)]) hx hb dX8_carryVoids_4 hl (by decide) rfl (fun ls hl => ?_)
  refine lv_aload hx hb dX8_carryVoids_6 (lv_at hl 0 rfl) ?_
  obtain ⟨g_2, hf_1, hr_3⟩ := hT.get hY.2.2.2.2.1
  obtain ⟨q_4, hq_4⟩ := pl_at (X := [(h0, .inr (8, [.ref a1, .ref a2, .ref a3, .ref a4, .ref a5, .ref a6, .ref a7, .ref a8, .ref a9, .int j_faultKind, .int j_horseCount, .int j_tabletCount, .int j_riderCount, .int j_lineLength, .int j_hour]))]) (f := f) (e := .inl (cs 4, 20, .inr (.inr (.inr (.inr g_2))))) hY.2.2.2.2.1.1 hf_1
  refine va_alen (v := 20) hx hb hK hP q_4 4 hq_4 rfl rfl dX8_carryVoids_8 ?_
  refine lv_istore (lv' := [(5, .int 20), (4, .ref a6), (0, .ref h0), (1, .int p0), (2, .int p1), (3, .int p2)]) hx hb dX8_carryVoids_9 hl (by decide) rfl (fun ls hl => ?_)
  refine lv_iconst (v := 0) hx hb dX8_carryVoids_11 (by decide) ?_
  refine lv_istore (lv' := [(6, .int 0), (5, .int 20), (4, .ref a6), (0, .ref h0), (1, .int p0), (2, .int p1), (3, .int p2)]) hx hb dX8_carryVoids_12 hl (by decide) rfl (fun ls hl => ?_)
  have HL : ∀ (n k : Nat), k ≤ 20 → 20 + 1 ≤ k + n → ∀ (f_5 : Nat → va_E) (H : Heap) (locs : List Loc), tO L ka cs f_5 → va_P (dC, dI) vwCl ([(h0, .inr (8, [.ref a1, .ref a2, .ref a3, .ref a4, .ref a5, .ref a6, .ref a7, .ref a8, .ref a9, .int j_faultKind, .int j_horseCount, .int j_tabletCount, .int j_riderCount, .int j_lineLength, .int j_hour]))] ++ va_pl L f_5) H → va_D A ([(h0, .inr (8, [.ref a1, .ref a2, .ref a3, .ref a4, .ref a5, .ref a6, .ref a7, .ref a8, .ref a9, .int j_faultKind, .int j_horseCount, .int j_tabletCount, .int j_riderCount, .int j_lineLength, .int j_hour]))] ++ va_pl L f_5) → va_S A s.heap H locs → ∀ ls : Array Slot, lv_has ls 8 [(0, .ref h0), (1, .int p0), (2, .int p1), (3, .int p2), (4, .ref a6), (5, .int 20), (6, .int (nI k))] → W p l e (headSpec wsX8_carryVoids ({ frames := 3, cells := 0, slots := 0, locals := 64 })).room s m ([.ref h0, .int p0, .int p1, .int p2]).toArray below meth c H locs 0 0 (MQ below (va_Qv (fun (_ : Unit) => True) (fun (_ : Unit) t9 => ∃ (f2 : Nat → va_E), (tO L ka cs f2) ∧ cQ dC dI ([(h0, .inr (8, [.ref a1, .ref a2, .ref a3, .ref a4, .ref a5, .ref a6, .ref a7, .ref a8, .ref a9, .int j_faultKind, .int j_horseCount, .int j_tabletCount, .int j_riderCount, .int j_lineLength, .int j_hour]))] ++ va_pl L f2) [] A t9) A) ([.ref h0, .int p0, .int p1, .int p2]).toArray s 0 0 A) (F0 m 14 ls []) := by
    intro n
    induction n with
    | zero => intro k h1 h2; exact absurd h2 (by omega)
    | succ n ih =>
      intro k hk hn f_5 H locs hT hP hD hS ls hl
      refine lv_iload hx hb dX8_carryVoids_14 (lv_at hl 6 rfl) ?_
      refine lv_iload hx hb dX8_carryVoids_16 (lv_at hl 5 rfl) ?_
      refine lv_icmp_ge (tgt := 60) hx hb dX8_carryVoids_18 (by decide) (fun c_6 => ?_) (fun c_6 => ?_)
      · have hke : k = 20 := by
          rcases Nat.lt_or_ge k 20 with q | q
          · exact absurd c_6 (nI_ge q (by decide))
          · omega
        have hP9 := hP.part (cx := [(h0, .inr (8, [.ref a1, .ref a2, .ref a3, .ref a4, .ref a5, .ref a6, .ref a7, .ref a8, .ref a9, .int j_faultKind, .int j_horseCount, .int j_tabletCount, .int j_riderCount, .int j_lineLength, .int j_hour]))]) [0] rfl
        have hD9 := hD.part (cx := [(h0, .inr (8, [.ref a1, .ref a2, .ref a3, .ref a4, .ref a5, .ref a6, .ref a7, .ref a8, .ref a9, .int j_faultKind, .int j_horseCount, .int j_tabletCount, .int j_riderCount, .int j_lineLength, .int j_hour]))]) [0] (by decide) rfl
        have hK9 := hK.sub (tys' := []) [] rfl
        refine W.widen (k := 0) (n := 0) (Nat.le_of_ble_eq_true rfl) (Nat.le_of_ble_eq_true rfl) ?_
        exact W.vret hx hb hr (fun t9 ht hW => ⟨⟨(), rfl, trivial, f_5, hT, by rw [ht]; exact hP9, va_K.moved hW.alike hK9, hD9⟩, hS.F ht⟩) hS.2.2 dX8_carryVoids_60
      · have hlt : k < 20 := by
          rcases Nat.lt_or_ge k 20 with q | q
          · exact q
          · exact absurd (show nI 20 ≤ nI k from nI_le q (by omega)) c_6
        refine lv_aload hx hb dX8_carryVoids_21 (lv_at hl 4 rfl) ?_
        refine lv_iload hx hb dX8_carryVoids_23 (lv_at hl 6 rfl) ?_
        obtain ⟨g_8, hf_7, hr_9⟩ := hT.get hY.2.2.2.2.1
        obtain ⟨q_10, hq_10⟩ := pl_at (X := [(h0, .inr (8, [.ref a1, .ref a2, .ref a3, .ref a4, .ref a5, .ref a6, .ref a7, .ref a8, .ref a9, .int j_faultKind, .int j_horseCount, .int j_tabletCount, .int j_riderCount, .int j_lineLength, .int j_hour]))]) (f := f_5) (e := .inl (cs 4, 20, .inr (.inr (.inr (.inr g_8))))) hY.2.2.2.2.1.1 hf_7
        refine va_aldq hx hb hK hP q_10 4 hq_10 rfl (vp_in_nI hlt (by decide)) dX8_carryVoids_25 ?_
        rcases hr_o_11 : g_8 (nI k).toNatClampNeg with _ | o_11
        · refine W.eq (g2 := F0 m 26 ls [.null]) rfl ?_
          refine lv_astoreN (lv' := [(7, .null), (0, .ref h0), (1, .int p0), (2, .int p1), (3, .int p2), (4, .ref a6), (5, .int 20), (6, .int (nI k))]) hx hb dX8_carryVoids_26 hl (by decide) rfl (fun ls hl => ?_)
          refine lv_aloadN hx hb dX8_carryVoids_28 (lv_at hl 0 rfl) ?_
          refine lv_ifnullN (tgt := 54) hx hb dX8_carryVoids_30 (by decide) ?_
          refine lv_iinc (v := nI (k + 1)) (lv' := [(6, .int (nI (k + 1))), (7, .null), (0, .ref h0), (1, .int p0), (2, .int p1), (3, .int p2), (4, .ref a6), (5, .int 20)]) hx hb dX8_carryVoids_54 hl (k := 7) rfl (by exact (nI_1 k)) (by decide) rfl (fun ls hl => ?_)
          refine lv_goto (tgt := 14) hx hb dX8_carryVoids_57 (by decide) ?_
          exact ih (k + 1) (by omega) (by omega) _ _ _ hT (hP.part (cx := _) [0] rfl) (hD.part (cx := _) [0] (by decide) rfl) hS ls (lv_sub hl [2, 3, 4, 5, 6, 7, 0] rfl)
        · have hk_o_11 := hr_9 _ _ hr_o_11
          refine W.eq (g2 := F0 m 26 ls [.ref o_11]) rfl ?_
          refine lv_astore (lv' := [(7, .ref o_11), (0, .ref h0), (1, .int p0), (2, .int p1), (3, .int p2), (4, .ref a6), (5, .int 20), (6, .int (nI k))]) hx hb dX8_carryVoids_26 hl (by decide) rfl (fun ls hl => ?_)
          refine lv_aload hx hb dX8_carryVoids_28 (lv_at hl 0 rfl) ?_
          refine lv_ifnull hx hb dX8_carryVoids_30 ?_
          refine lv_aload hx hb dX8_carryVoids_33 (lv_at hl 0 rfl) ?_
          refine lv_iload_n hx hb dX8_carryVoids_35 rfl (lv_at hl 2 rfl) ?_
          refine lv_iload_n hx hb dX8_carryVoids_36 rfl (lv_at hl 4 rfl) ?_
          have hPc := hP.part (cx := []) [] rfl
          have hDc := hD.part (cx := []) [] (by decide) rfl
          have hKc := hK
          obtain ⟨x_13, o_14, hf_12, hk_o_14⟩ := hT.get hk_o_11
          obtain ⟨q_15, hq_15⟩ := pl_at (X := []) (f := f_5) (e := .inr (6, [.int x_13, .ref o_14])) hk_o_11.1 hf_12
          refine cs_i (va_runV (As := [.int p0, .int p2]) (rest := []) ⟨hx, hb, hml, hown, hts⟩ (t_X6_wasVoid l dC dI cs L ka f_5 o_11 p0 p2 H.size hT hk_o_11) (cwV 2 hts gX8_carryVoids_X6_wasVoid rfl rfl rfl (by decide +kernel) ⟨Nat.le_of_ble_eq_true rfl, Nat.le_of_ble_eq_true rfl⟩) ⟨c_blind, va_recv hKc hPc (ci := 6) (q0 := q_15) rfl hq_15, c_pre hPc hKc hDc hN⟩ rfl rfl hl.1 rfl (lv_room (Nat.le_of_ble_eq_true rfl)) dX8_carryVoids_37 ⟨Nat.le_of_ble_eq_true rfl, Nat.le_of_ble_eq_true rfl⟩) (fun r_16 hr_16 => ?_)
          refine lv_if_eq (tgt := 54) hx hb dX8_carryVoids_40 (by decide) (fun c_17 => ?_) (fun c_17 => ?_)
          · refine lv_iinc (v := nI (k + 1)) (lv' := [(6, .int (nI (k + 1))), (7, .ref o_11), (0, .ref h0), (1, .int p0), (2, .int p1), (3, .int p2), (4, .ref a6), (5, .int 20)]) hx hb dX8_carryVoids_54 hl (k := 7) rfl (by exact (nI_1 k)) (by decide) rfl (fun ls hl => ?_)
            refine lv_goto (tgt := 14) hx hb dX8_carryVoids_57 (by decide) ?_
            exact ih (k + 1) (by omega) (by omega) _ _ _ hT (hP.part (cx := _) [0] rfl) (hD.part (cx := _) [0] (by decide) rfl) hS ls (lv_sub hl [2, 3, 4, 5, 6, 7, 0] rfl)
          · refine lv_aload hx hb dX8_carryVoids_43 (lv_at hl 0 rfl) ?_
            refine lv_iload_n hx hb dX8_carryVoids_45 rfl (lv_at hl 3 rfl) ?_
            refine lv_aload_n hx hb dX8_carryVoids_46 rfl (lv_at hl 1 rfl) ?_
            refine va_get (D := (dC, dI)) (ci := 8) (v := .int j_hour) (C := RX8) (T := TX8) (N := 15) hx hb hts hin8 hown hK hP 0 rfl rfl 14 (by decide) (hts (.fieldLink RX8 140 "YamRiders" "hour" "I") (by decide +kernel)) (fun _ h9 => h9) rfl dX8_carryVoids_47 ?_
            have hPc := hP.part (cx := []) [] rfl
            have hDc := hD.part (cx := []) [] (by decide) rfl
            have hKc := hK
            have hFc := va_freeP (cx := []) hD hS hA [] rfl
            obtain ⟨q_18, hq_18⟩ := pl_at (X := []) (f := f_5) (e := .inr (6, [.int x_13, .ref o_14])) hk_o_11.1 hf_12
            refine va_calli (va_runV (As := [.int p1, .int j_hour]) (rest := []) ⟨hx, hb, hml, hown, hts⟩ (t_X6_tellVoid l dC dI cs L ka f_5 o_11 p1 j_hour H.size hT hk_o_11) (cwV 2 hts gX8_carryVoids_X6_tellVoid rfl rfl rfl (by decide +kernel) ⟨Nat.le_of_ble_eq_true rfl, Nat.le_of_ble_eq_true rfl⟩) ⟨c_blind, va_recv hKc hPc (ci := 6) (q0 := q_18) rfl hq_18, c_pre hPc hKc hDc hN⟩ rfl rfl hl.1 rfl (lv_room (Nat.le_of_ble_eq_true rfl)) dX8_carryVoids_50 ⟨Nat.le_of_ble_eq_true rfl, Nat.le_of_ble_eq_true rfl⟩) hS (fun q _ h => hFc q h) hFc (fun r_19 u9 t9 H1 locs ht hvm hw hB hz1 hk1 hS => ?_)
            obtain ⟨f_20, hf_x_21, hP1, hK1, hD1⟩ := hB
            rw [ht] at hP1
            have hK1 := va_K.moved hvm.symm hK1
            obtain ⟨hP, hD⟩ := va_joinP (X := [(h0, .inr (8, [.ref a1, .ref a2, .ref a3, .ref a4, .ref a5, .ref a6, .ref a7, .ref a8, .ref a9, .int j_faultKind, .int j_horseCount, .int j_tabletCount, .int j_riderCount, .int j_lineLength, .int j_hour]))]) (cx := []) (wr := [(h0, .inr (8, [.ref a1, .ref a2, .ref a3, .ref a4, .ref a5, .ref a6, .ref a7, .ref a8, .ref a9, .int j_faultKind, .int j_horseCount, .int j_tabletCount, .int j_riderCount, .int j_lineLength, .int j_hour]))]) (rx := []) (pl := va_pl L f_5) (pl1 := va_pl L f_20) hP hD [] [0] rfl rfl (by decide) (by decide) hk1 hFc hP1 hD1
            have hT := hf_x_21
            generalize H1 = H at hP hS ⊢
            have hP : va_P (dC, dI) vwCl ([(h0, .inr (8, [.ref a1, .ref a2, .ref a3, .ref a4, .ref a5, .ref a6, .ref a7, .ref a8, .ref a9, .int j_faultKind, .int j_horseCount, .int j_tabletCount, .int j_riderCount, .int j_lineLength, .int j_hour]))] ++ va_pl L f_20) H := hP
            have hD : va_D A ([(h0, .inr (8, [.ref a1, .ref a2, .ref a3, .ref a4, .ref a5, .ref a6, .ref a7, .ref a8, .ref a9, .int j_faultKind, .int j_horseCount, .int j_tabletCount, .int j_riderCount, .int j_lineLength, .int j_hour]))] ++ va_pl L f_20) := hD
            refine W.widen (k := 0) (n := 0) (Nat.le_of_ble_eq_true rfl) (Nat.le_of_ble_eq_true rfl) ?_
            have hw_22 := hw
            refine lv_pop hx hb dX8_carryVoids_53 rfl ?_
            refine lv_iinc (v := nI (k + 1)) (lv' := [(6, .int (nI (k + 1))), (7, .ref o_11), (0, .ref h0), (1, .int p0), (2, .int p1), (3, .int p2), (4, .ref a6), (5, .int 20)]) hx hb dX8_carryVoids_54 hl (k := 7) rfl (by exact (nI_1 k)) (by decide) rfl (fun ls hl => ?_)
            refine lv_goto (tgt := 14) hx hb dX8_carryVoids_57 (by decide) ?_
            exact ih (k + 1) (by omega) (by omega) _ _ _ hT (hP.part (cx := _) [0] rfl) (hD.part (cx := _) [0] (by decide) rfl) hS ls (lv_sub hl [2, 3, 4, 5, 6, 7, 0] rfl)
  exact HL 21 0 (by omega) (by omega) _ _ _ hT (hP.part (cx := [(h0, .inr (8, [.ref a1, .ref a2, .ref a3, .ref a4, .ref a5, .ref a6, .ref a7, .ref a8, .ref a9, .int j_faultKind, .int j_horseCount, .int j_tabletCount, .int j_riderCount, .int j_lineLength, .int j_hour]))]) [0] rfl) (hD.part (cx := [(h0, .inr (8, [.ref a1, .ref a2, .ref a3, .ref a4, .ref a5, .ref a6, .ref a7, .ref a8, .ref a9, .int j_faultKind, .int j_horseCount, .int j_tabletCount, .int j_riderCount, .int j_lineLength, .int j_hour]))]) [0] (by decide) rfl) hS ls (lv_sub hl [3, 4, 5, 6, 2, 1, 0] rfl)

set_option maxHeartbeats 4000000 in
set_option maxRecDepth 100000 in
theorem t_X8_bring (l : Launch) (dC : Nat → ClassId) (dI : Nat → Nat → Nat) (cs : Nat → ClassId) (L : List Nat) (ka : Nat → Nat) (f : Nat → va_E) (h0 : Nat) (a1 : Nat) (a2 : Nat) (a3 : Nat) (a4 : Nat) (a5 : Nat) (a6 : Nat) (a7 : Nat) (a8 : Nat) (a9 : Nat) (j_faultKind : Int32) (j_horseCount : Int32) (j_tabletCount : Int32) (j_riderCount : Int32) (j_lineLength : Int32) (j_hour : Int32) (e1 : Nat) (e2 : Nat) (sz : Nat) (hT : tO L ka cs f) (hY : yK L ka a2 a3 a4 a5 a6 a7 a8 a9) (hk_e1 : tp L ka 2 e1) (hk_e2 : tp L ka 0 e2) : Met l yX8_bring wsX8_bring ({ frames := 4, cells := 0, slots := 0, locals := 91 }) (va_Pc [.ref h0, .ref e1, .ref e2] (cP dC dI ([(h0, .inr (8, [.ref a1, .ref a2, .ref a3, .ref a4, .ref a5, .ref a6, .ref a7, .ref a8, .ref a9, .int j_faultKind, .int j_horseCount, .int j_tabletCount, .int j_riderCount, .int j_lineLength, .int j_hour]))] ++ va_pl L f) (tyC cs) sz)) (va_Qv (fun (_ : Unit) => True) (fun (_ : Unit) t9 => ∃ (f2 : Nat → va_E), (tO L ka cs f2) ∧ cQ dC dI ([(h0, .inr (8, [.ref a1, .ref a2, .ref a3, .ref a4, .ref a5, .ref a6, .ref a7, .ref a8, .ref a9, .int j_faultKind, .int j_horseCount, .int j_tabletCount, .int j_riderCount, .int j_lineLength, .int j_hour]))] ++ va_pl L f2) [] (va_A ([(h0, .inr (8, [.ref a1, .ref a2, .ref a3, .ref a4, .ref a5, .ref a6, .ref a7, .ref a8, .ref a9, .int j_faultKind, .int j_horseCount, .int j_tabletCount, .int j_riderCount, .int j_lineLength, .int j_hour]))] ++ va_pl L f) sz) t9) (va_A ([(h0, .inr (8, [.ref a1, .ref a2, .ref a3, .ref a4, .ref a5, .ref a6, .ref a7, .ref a8, .ref a9, .int j_faultKind, .int j_horseCount, .int j_tabletCount, .int j_riderCount, .int j_lineLength, .int j_hour]))] ++ va_pl L f) sz)) 0 0 (va_A ([(h0, .inr (8, [.ref a1, .ref a2, .ref a3, .ref a4, .ref a5, .ref a6, .ref a7, .ref a8, .ref a9, .int j_faultKind, .int j_horseCount, .int j_tabletCount, .int j_riderCount, .int j_lineLength, .int j_hour]))] ++ va_pl L f) sz) := by
  refine Met.ofW (cc := cX8_bring) (maxL := 4) (ret := none) (by decide) rfl ?_
  intro p e s m args below meth c s₁ B hml hv
  obtain ⟨rfl, hsz, hP, hK, hD0, hN⟩ := hv
  have hx := B.exec
  have hb := B.bytes
  have hr := B.returns
  have hts := atoms_spec (ws := wsX8_bring) B.pre
  have hown : s.vm.findClass RX8 = some m.cls := findClass_of_methodNamed B.named
  have hlocks := B.notSynchronized
  subst hsz
  have hin0 : ∀ w ∈ u_ws RX0 TX0 3, w ∈ wsX8_bring := by decide +kernel
  have hin2 : ∀ w ∈ u_ws RX2 TX2 10, w ∈ wsX8_bring := by decide +kernel
  have hin8 : ∀ w ∈ u_ws RX8 TX8 15, w ∈ wsX8_bring := by decide +kernel
  have hD := hD0.self (sz := s.heap.size)
  generalize hAe : va_A ([(h0, .inr (8, [.ref a1, .ref a2, .ref a3, .ref a4, .ref a5, .ref a6, .ref a7, .ref a8, .ref a9, .int j_faultKind, .int j_horseCount, .int j_tabletCount, .int j_riderCount, .int j_lineLength, .int j_hour]))] ++ va_pl L f) s.heap.size = A at hD ⊢
  have hA : ∀ q : Nat, s.heap.size ≤ q → A q := fun q h => by rw [← hAe]; exact Or.inr h
  have hS : va_S A s.heap s.heap [] := va_S.rf
  have hP : va_P (dC, dI) vwCl ([(h0, .inr (8, [.ref a1, .ref a2, .ref a3, .ref a4, .ref a5, .ref a6, .ref a7, .ref a8, .ref a9, .int j_faultKind, .int j_horseCount, .int j_tabletCount, .int j_riderCount, .int j_lineLength, .int j_hour]))] ++ va_pl L f) s.heap := hP
  have hl := lv_entry ([.ref h0, .ref e1, .ref e2]) (n := 4) (Nat.le_of_ble_eq_true rfl)
  rw [lg_entry_eq]
  generalize (lg_sl ([.ref h0, .ref e1, .ref e2]) ++ List.replicate (4 - (lg_sl ([.ref h0, .ref e1, .ref e2])).length) Slot.unset).toArray = ls at hl ⊢
  have hl : lv_has ls 4 [(0, .ref h0), (1, .ref e1), (2, .ref e2)] := hl
  refine lv_aload_n hx hb dX8_bring_0 rfl (lv_at hl 1 rfl) ?_
  have hPc := hP.part (cx := []) [] rfl
  have hDc := hD.part (cx := []) [] (by decide) rfl
  have hKc := hK
  obtain ⟨x_2, x_3, o_4, o_5, x_6, x_7, x_8, o_9, x_10, x_11, hf_1, hk_o_4, hk_o_5, hq_o_9⟩ := hT.get hk_e1
  obtain ⟨q_12, hq_12⟩ := pl_at (X := []) (f := f) (e := .inr (2, [.int x_2, .int x_3, .ref o_4, .ref o_5, .int x_6, .int x_7, .int x_8, va_rf o_9, .int x_10, .int x_11])) hk_e1.1 hf_1
  refine cs_i (va_runV (As := []) (rest := []) ⟨hx, hb, hml, hown, hts⟩ (t_X2_nextStation l dC dI cs L ka f e1 s.heap.size hT hk_e1) (cwV 0 hts gX8_bring_X2_nextStation rfl rfl rfl (by decide +kernel) ⟨Nat.le_of_ble_eq_true rfl, Nat.le_of_ble_eq_true rfl⟩) ⟨c_blind, va_recv hKc hPc (ci := 2) (q0 := q_12) rfl hq_12, c_pre hPc hKc hDc hN⟩ rfl rfl hl.1 rfl (lv_room (Nat.le_of_ble_eq_true rfl)) dX8_bring_1 ⟨Nat.le_of_ble_eq_true rfl, Nat.le_of_ble_eq_true rfl⟩) (fun r_13 hr_13 => ?_)
  refine lv_istore_n (lv' := [(3, .int r_13), (0, .ref h0), (1, .ref e1), (2, .ref e2)]) hx hb dX8_bring_4 rfl hl (by decide) rfl (fun ls hl => ?_)
  refine lv_aload_n hx hb dX8_bring_5 rfl (lv_at hl 3 rfl) ?_
  refine lv_aload_n hx hb dX8_bring_6 rfl (lv_at hl 1 rfl) ?_
  refine va_get (D := (dC, dI)) (ci := 8) (v := .ref a9) (C := RX8) (T := TX8) (N := 15) hx hb hts hin8 hown hK hP 0 rfl rfl 8 (by decide) (hts (.fieldLink RX8 58 "YamRiders" "law" "LYamRiders$Statutes;") (by decide +kernel)) (fun _ h9 => h9) rfl dX8_bring_7 ?_
  have hPc := hP.part (cx := []) [] rfl
  have hDc := hD.part (cx := []) [] (by decide) rfl
  have hKc := hK
  obtain ⟨o_15, hf_14, hk_o_15⟩ := hT.get hY.2.2.2.2.2.2.2
  obtain ⟨q_16, hq_16⟩ := pl_at (X := []) (f := f) (e := .inr (5, [.ref o_15])) hY.2.2.2.2.2.2.2.1 hf_14
  refine cs_i (va_runV (As := []) (rest := [.ref e2]) ⟨hx, hb, hml, hown, hts⟩ (t_X5_tire l dC dI cs L ka f a9 s.heap.size hT hY.2.2.2.2.2.2.2) (cwV 0 hts gX8_bring_X5_tire rfl rfl rfl (by decide +kernel) ⟨Nat.le_of_ble_eq_true rfl, Nat.le_of_ble_eq_true rfl⟩) ⟨c_blind, va_recv hKc hPc (ci := 5) (q0 := q_16) rfl hq_16, c_pre hPc hKc hDc hN⟩ rfl rfl hl.1 rfl (lv_room (Nat.le_of_ble_eq_true rfl)) dX8_bring_10 ⟨Nat.le_of_ble_eq_true rfl, Nat.le_of_ble_eq_true rfl⟩) (fun r_17 hr_17 => ?_)
  refine lv_aload_n hx hb dX8_bring_13 rfl (lv_at hl 2 rfl) ?_
  obtain ⟨q_18, hq_18⟩ := pl_at (X := [(h0, .inr (8, [.ref a1, .ref a2, .ref a3, .ref a4, .ref a5, .ref a6, .ref a7, .ref a8, .ref a9, .int j_faultKind, .int j_horseCount, .int j_tabletCount, .int j_riderCount, .int j_lineLength, .int j_hour]))]) (f := f) (e := .inr (2, [.int x_2, .int x_3, .ref o_4, .ref o_5, .int x_6, .int x_7, .int x_8, va_rf o_9, .int x_10, .int x_11])) hk_e1.1 hf_1
  refine va_getN (D := (dC, dI)) (ci := 2) (v := .int x_11) (C := RX2) (T := TX2) (N := 10) hx hb hts hin2 hown hK hP q_18 hq_18 rfl 9 (by decide) (hN.nx (.fieldLinkNest RX8 300 "YamRiders$Rider" "time" "I" "YamRiders") (by decide +kernel)) (fun _ h9 => h9) rfl dX8_bring_14 ?_
  refine lv_imul hx hb dX8_bring_17 ?_
  refine lv_topi (fun v_19 ev_19 => ?_)
  have hPc := hP.part (cx := []) [] rfl
  have hDc := hD.part (cx := []) [] (by decide) rfl
  have hKc := hK
  have hFc := va_freeP (cx := []) hD hS hA [] rfl
  obtain ⟨x_21, x_22, x_23, hf_20⟩ := hT.get hk_e2
  obtain ⟨q_24, hq_24⟩ := pl_at (X := []) (f := f) (e := .inr (0, [.int x_21, .int x_22, .int x_23])) hk_e2.1 hf_20
  refine va_callv (va_runV (As := [.int v_19]) (rest := []) ⟨hx, hb, hml, hown, hts⟩ (t_X0_weaken l dC dI cs L ka f e2 v_19 s.heap.size hT hk_e2) (cwV 1 hts gX8_bring_X0_weaken rfl rfl rfl (by decide +kernel) ⟨Nat.le_of_ble_eq_true rfl, Nat.le_of_ble_eq_true rfl⟩) ⟨c_blind, va_recv hKc hPc (ci := 0) (q0 := q_24) rfl hq_24, c_pre hPc hKc hDc hN⟩ rfl rfl hl.1 rfl (lv_room (Nat.le_of_ble_eq_true rfl)) dX8_bring_18 ⟨Nat.le_of_ble_eq_true rfl, Nat.le_of_ble_eq_true rfl⟩) hS (fun q _ h => hFc q h) hFc (fun u9 t9 H1 locs ht hvm hw hB hz1 hk1 hS => ?_)
  obtain ⟨f_26, hf_x_27, hP1, hK1, hD1⟩ := hB
  rw [ht] at hP1
  have hK1 := va_K.moved hvm.symm hK1
  obtain ⟨hP, hD⟩ := va_joinP (X := [(h0, .inr (8, [.ref a1, .ref a2, .ref a3, .ref a4, .ref a5, .ref a6, .ref a7, .ref a8, .ref a9, .int j_faultKind, .int j_horseCount, .int j_tabletCount, .int j_riderCount, .int j_lineLength, .int j_hour]))]) (cx := []) (wr := [(h0, .inr (8, [.ref a1, .ref a2, .ref a3, .ref a4, .ref a5, .ref a6, .ref a7, .ref a8, .ref a9, .int j_faultKind, .int j_horseCount, .int j_tabletCount, .int j_riderCount, .int j_lineLength, .int j_hour]))]) (rx := []) (pl := va_pl L f) (pl1 := va_pl L f_26) hP hD [] [0] rfl rfl (by decide) (by decide) hk1 hFc hP1 hD1
  have hT := hf_x_27
  generalize H1 = H at hP hS ⊢
  have hP : va_P (dC, dI) vwCl ([(h0, .inr (8, [.ref a1, .ref a2, .ref a3, .ref a4, .ref a5, .ref a6, .ref a7, .ref a8, .ref a9, .int j_faultKind, .int j_horseCount, .int j_tabletCount, .int j_riderCount, .int j_lineLength, .int j_hour]))] ++ va_pl L f_26) H := hP
  have hD : va_D A ([(h0, .inr (8, [.ref a1, .ref a2, .ref a3, .ref a4, .ref a5, .ref a6, .ref a7, .ref a8, .ref a9, .int j_faultKind, .int j_horseCount, .int j_tabletCount, .int j_riderCount, .int j_lineLength, .int j_hour]))] ++ va_pl L f_26) := hD
  refine W.widen (k := 0) (n := 0) (Nat.le_of_ble_eq_true rfl) (Nat.le_of_ble_eq_true rfl) ?_
  refine lv_aload_n hx hb dX8_bring_21 rfl (lv_at hl 3 rfl) ?_
  refine lv_iload_n hx hb dX8_bring_22 rfl (lv_at hl 0 rfl) ?_
  obtain ⟨x_29, x_30, x_31, hf_28⟩ := hT.get hk_e2
  obtain ⟨q_32, hq_32⟩ := pl_at (X := [(h0, .inr (8, [.ref a1, .ref a2, .ref a3, .ref a4, .ref a5, .ref a6, .ref a7, .ref a8, .ref a9, .int j_faultKind, .int j_horseCount, .int j_tabletCount, .int j_riderCount, .int j_lineLength, .int j_hour]))]) (f := f_26) (e := .inr (0, [.int x_29, .int x_30, .int x_31])) hk_e2.1 hf_28
  refine va_putN (D := (dC, dI)) (ci := 0) (v := .int r_13) (ty := (tyX0 1)) (C := RX0) (T := TX0) (N := 3) hx hb hts hin0 tyX0 tyX0_ok nmX0 hown hK hP hD hS q_32 hq_32 rfl 1 (by decide) (hN.nx (.fieldLinkNest RX8 209 "YamRiders$Horse" "station" "I" "YamRiders") (by decide +kernel)) (fun _ h9 => h9) rfl (by decide +kernel) rfl rfl (Nat.le_of_ble_eq_true rfl) dX8_bring_23 (fun H locs hP9 hD9 hS => ?_)
  have hs_33 := pl_st (.inr (0, [.int x_29, .int r_13, .int x_31])) hD hk_e2.1 hf_28 hq_32
  have hP9 : va_P (dC, dI) vwCl ((([(h0, .inr (8, [.ref a1, .ref a2, .ref a3, .ref a4, .ref a5, .ref a6, .ref a7, .ref a8, .ref a9, .int j_faultKind, .int j_horseCount, .int j_tabletCount, .int j_riderCount, .int j_lineLength, .int j_hour]))] : va_W) ++ va_pl L f_26).set q_32 (e2, .inr (0, [.int x_29, .int r_13, .int x_31]))) H := hP9
  have hD9 : va_D A ((([(h0, .inr (8, [.ref a1, .ref a2, .ref a3, .ref a4, .ref a5, .ref a6, .ref a7, .ref a8, .ref a9, .int j_faultKind, .int j_horseCount, .int j_tabletCount, .int j_riderCount, .int j_lineLength, .int j_hour]))] : va_W) ++ va_pl L f_26).set q_32 (e2, .inr (0, [.int x_29, .int r_13, .int x_31]))) := hD9
  rw [hs_33] at hP9 hD9
  have hT := hT.put (e := .inr (0, [.int x_29, .int r_13, .int x_31])) hk_e2 ⟨x_29, r_13, x_31, rfl⟩
  have hf_34 : va_up f_26 e2 (.inr (0, [.int x_29, .int r_13, .int x_31])) e2 = .inr (0, [.int x_29, .int r_13, .int x_31]) := va_up_self _ _ _
  have hP := hP9
  have hD := hD9
  clear hP9 hD9 hs_33
  generalize va_up f_26 e2 (.inr (0, [.int x_29, .int r_13, .int x_31])) = f_35 at hP hD hT hf_34
  refine lv_aload_n hx hb dX8_bring_26 rfl (lv_at hl 2 rfl) ?_
  refine lv_null hx hb dX8_bring_27 ?_
  obtain ⟨x_37, x_38, o_39, o_40, x_41, x_42, x_43, o_44, x_45, x_46, hf_36, hk_o_39, hk_o_40, hq_o_44⟩ := hT.get hk_e1
  obtain ⟨q_47, hq_47⟩ := pl_at (X := [(h0, .inr (8, [.ref a1, .ref a2, .ref a3, .ref a4, .ref a5, .ref a6, .ref a7, .ref a8, .ref a9, .int j_faultKind, .int j_horseCount, .int j_tabletCount, .int j_riderCount, .int j_lineLength, .int j_hour]))]) (f := f_35) (e := .inr (2, [.int x_37, .int x_38, .ref o_39, .ref o_40, .int x_41, .int x_42, .int x_43, va_rf o_44, .int x_45, .int x_46])) hk_e1.1 hf_36
  refine va_putN (D := (dC, dI)) (ci := 2) (v := .null) (ty := (tyX2 7)) (C := RX2) (T := TX2) (N := 10) hx hb hts hin2 tyX2 tyX2_ok nmX2 hown hK hP hD hS q_47 hq_47 rfl 7 (by decide) (hN.nx (.fieldLinkNest RX8 293 "YamRiders$Rider" "horse" "LYamRiders$Horse;" "YamRiders") (by decide +kernel)) (fun _ h9 => h9) rfl (by decide +kernel) rfl rfl (Nat.le_of_ble_eq_true rfl) dX8_bring_28 (fun H locs hP9 hD9 hS => ?_)
  have hs_48 := pl_st (.inr (2, [.int x_37, .int x_38, .ref o_39, .ref o_40, .int x_41, .int x_42, .int x_43, .null, .int x_45, .int x_46])) hD hk_e1.1 hf_36 hq_47
  have hP9 : va_P (dC, dI) vwCl ((([(h0, .inr (8, [.ref a1, .ref a2, .ref a3, .ref a4, .ref a5, .ref a6, .ref a7, .ref a8, .ref a9, .int j_faultKind, .int j_horseCount, .int j_tabletCount, .int j_riderCount, .int j_lineLength, .int j_hour]))] : va_W) ++ va_pl L f_35).set q_47 (e1, .inr (2, [.int x_37, .int x_38, .ref o_39, .ref o_40, .int x_41, .int x_42, .int x_43, .null, .int x_45, .int x_46]))) H := hP9
  have hD9 : va_D A ((([(h0, .inr (8, [.ref a1, .ref a2, .ref a3, .ref a4, .ref a5, .ref a6, .ref a7, .ref a8, .ref a9, .int j_faultKind, .int j_horseCount, .int j_tabletCount, .int j_riderCount, .int j_lineLength, .int j_hour]))] : va_W) ++ va_pl L f_35).set q_47 (e1, .inr (2, [.int x_37, .int x_38, .ref o_39, .ref o_40, .int x_41, .int x_42, .int x_43, .null, .int x_45, .int x_46]))) := hD9
  rw [hs_48] at hP9 hD9
  have hT := hT.put (e := .inr (2, [.int x_37, .int x_38, .ref o_39, .ref o_40, .int x_41, .int x_42, .int x_43, .null, .int x_45, .int x_46])) hk_e1 ⟨x_37, x_38, o_39, o_40, x_41, x_42, x_43, none, x_45, x_46, rfl, hk_o_39, hk_o_40, (fun _ h9 => nomatch h9)⟩
  have hf_49 : va_up f_35 e1 (.inr (2, [.int x_37, .int x_38, .ref o_39, .ref o_40, .int x_41, .int x_42, .int x_43, .null, .int x_45, .int x_46])) e1 = .inr (2, [.int x_37, .int x_38, .ref o_39, .ref o_40, .int x_41, .int x_42, .int x_43, .null, .int x_45, .int x_46]) := va_up_self _ _ _
  have hP := hP9
  have hD := hD9
  clear hP9 hD9 hs_48
  generalize va_up f_35 e1 (.inr (2, [.int x_37, .int x_38, .ref o_39, .ref o_40, .int x_41, .int x_42, .int x_43, .null, .int x_45, .int x_46])) = f_50 at hP hD hT hf_49
  refine lv_aload_n hx hb dX8_bring_31 rfl (lv_at hl 2 rfl) ?_
  obtain ⟨q_51, hq_51⟩ := pl_at (X := [(h0, .inr (8, [.ref a1, .ref a2, .ref a3, .ref a4, .ref a5, .ref a6, .ref a7, .ref a8, .ref a9, .int j_faultKind, .int j_horseCount, .int j_tabletCount, .int j_riderCount, .int j_lineLength, .int j_hour]))]) (f := f_50) (e := .inr (2, [.int x_37, .int x_38, .ref o_39, .ref o_40, .int x_41, .int x_42, .int x_43, .null, .int x_45, .int x_46])) hk_e1.1 hf_49
  refine va_getN (D := (dC, dI)) (ci := 2) (v := .int x_41) (C := RX2) (T := TX2) (N := 10) hx hb hts hin2 hown hK hP q_51 hq_51 rfl 4 (by decide) (hN.nx (.fieldLinkNest RX8 158 "YamRiders$Rider" "state" "I" "YamRiders") (by decide +kernel)) (fun _ h9 => h9) rfl dX8_bring_32 ?_
  refine lv_iconst (v := 1) hx hb dX8_bring_35 (by decide) ?_
  refine lv_icmp_ne (tgt := 60) hx hb dX8_bring_36 (by decide) (fun c_52 => ?_) (fun c_52 => ?_)
  · have hP9 := hP.part (cx := [(h0, .inr (8, [.ref a1, .ref a2, .ref a3, .ref a4, .ref a5, .ref a6, .ref a7, .ref a8, .ref a9, .int j_faultKind, .int j_horseCount, .int j_tabletCount, .int j_riderCount, .int j_lineLength, .int j_hour]))]) [0] rfl
    have hD9 := hD.part (cx := [(h0, .inr (8, [.ref a1, .ref a2, .ref a3, .ref a4, .ref a5, .ref a6, .ref a7, .ref a8, .ref a9, .int j_faultKind, .int j_horseCount, .int j_tabletCount, .int j_riderCount, .int j_lineLength, .int j_hour]))]) [0] (by decide) rfl
    have hK9 := hK.sub (tys' := []) [] rfl
    refine W.widen (k := 0) (n := 0) (Nat.le_of_ble_eq_true rfl) (Nat.le_of_ble_eq_true rfl) ?_
    exact W.vret hx hb hr (fun t9 ht hW => ⟨⟨(), rfl, trivial, f_50, hT, by rw [ht]; exact hP9, va_K.moved hW.alike hK9, hD9⟩, hS.F ht⟩) hS.2.2 dX8_bring_60
  · refine lv_aload_n hx hb dX8_bring_39 rfl (lv_at hl 1 rfl) ?_
    refine lv_aload_n hx hb dX8_bring_40 rfl (lv_at hl 2 rfl) ?_
    have hPc := hP.part (cx := []) [] rfl
    have hDc := hD.part (cx := []) [] (by decide) rfl
    have hKc := hK
    obtain ⟨q_53, hq_53⟩ := pl_at (X := []) (f := f_50) (e := .inr (2, [.int x_37, .int x_38, .ref o_39, .ref o_40, .int x_41, .int x_42, .int x_43, .null, .int x_45, .int x_46])) hk_e1.1 hf_49
    refine cs_i (va_runV (As := []) (rest := [.ref h0]) ⟨hx, hb, hml, hown, hts⟩ (t_X2_lastStation l dC dI cs L ka f_50 e1 H.size hT hk_e1) (cwV 0 hts gX8_bring_X2_lastStation rfl rfl rfl (by decide +kernel) ⟨Nat.le_of_ble_eq_true rfl, Nat.le_of_ble_eq_true rfl⟩) ⟨c_blind, va_recv hKc hPc (ci := 2) (q0 := q_53) rfl hq_53, c_pre hPc hKc hDc hN⟩ rfl rfl hl.1 rfl (lv_room (Nat.le_of_ble_eq_true rfl)) dX8_bring_41 ⟨Nat.le_of_ble_eq_true rfl, Nat.le_of_ble_eq_true rfl⟩) (fun r_54 hr_54 => ?_)
    refine lv_iload_n hx hb dX8_bring_44 rfl (lv_at hl 0 rfl) ?_
    refine lv_aload_n hx hb dX8_bring_45 rfl (lv_at hl 2 rfl) ?_
    obtain ⟨q_55, hq_55⟩ := pl_at (X := [(h0, .inr (8, [.ref a1, .ref a2, .ref a3, .ref a4, .ref a5, .ref a6, .ref a7, .ref a8, .ref a9, .int j_faultKind, .int j_horseCount, .int j_tabletCount, .int j_riderCount, .int j_lineLength, .int j_hour]))]) (f := f_50) (e := .inr (2, [.int x_37, .int x_38, .ref o_39, .ref o_40, .int x_41, .int x_42, .int x_43, .null, .int x_45, .int x_46])) hk_e1.1 hf_49
    refine va_getN (D := (dC, dI)) (ci := 2) (v := .int x_45) (C := RX2) (T := TX2) (N := 10) hx hb hts hin2 hown hK hP q_55 hq_55 rfl 8 (by decide) (hN.nx (.fieldLinkNest RX8 297 "YamRiders$Rider" "left" "I" "YamRiders") (by decide +kernel)) (fun _ h9 => h9) rfl dX8_bring_46 ?_
    have hPc := hP.part (cx := [(h0, .inr (8, [.ref a1, .ref a2, .ref a3, .ref a4, .ref a5, .ref a6, .ref a7, .ref a8, .ref a9, .int j_faultKind, .int j_horseCount, .int j_tabletCount, .int j_riderCount, .int j_lineLength, .int j_hour]))]) [0] rfl
    have hDc := hD.part (cx := [(h0, .inr (8, [.ref a1, .ref a2, .ref a3, .ref a4, .ref a5, .ref a6, .ref a7, .ref a8, .ref a9, .int j_faultKind, .int j_horseCount, .int j_tabletCount, .int j_riderCount, .int j_lineLength, .int j_hour]))]) [0] (by decide) rfl
    have hKc := hK
    have hFc := va_freeP (cx := [(h0, .inr (8, [.ref a1, .ref a2, .ref a3, .ref a4, .ref a5, .ref a6, .ref a7, .ref a8, .ref a9, .int j_faultKind, .int j_horseCount, .int j_tabletCount, .int j_riderCount, .int j_lineLength, .int j_hour]))]) hD hS hA [0] rfl
    refine va_callv (va_runV (As := [.int r_54, .int r_13, .int x_45]) (rest := []) ⟨hx, hb, hml, hown, hts⟩ (t_X8_carryVoids l dC dI cs L ka f_50 h0 a1 a2 a3 a4 a5 a6 a7 a8 a9 j_faultKind j_horseCount j_tabletCount j_riderCount j_lineLength j_hour r_54 r_13 x_45 H.size hT hY) (cwV 3 hts gX8_bring_X8_carryVoids rfl rfl rfl (by decide +kernel) ⟨Nat.le_of_ble_eq_true rfl, Nat.le_of_ble_eq_true rfl⟩) ⟨c_blind, va_recv hKc hPc (ci := 8) (q0 := 0) rfl rfl, c_pre hPc hKc hDc hN⟩ rfl rfl hl.1 rfl (lv_room (Nat.le_of_ble_eq_true rfl)) dX8_bring_49 ⟨Nat.le_of_ble_eq_true rfl, Nat.le_of_ble_eq_true rfl⟩) hS (fun q _ h => hFc q h) hFc (fun u9 t9 H1 locs ht hvm hw hB hz1 hk1 hS => ?_)
    obtain ⟨f_57, hf_x_58, hP1, hK1, hD1⟩ := hB
    rw [ht] at hP1
    have hK1 := va_K.moved hvm.symm hK1
    obtain ⟨hP, hD⟩ := va_joinP (X := [(h0, .inr (8, [.ref a1, .ref a2, .ref a3, .ref a4, .ref a5, .ref a6, .ref a7, .ref a8, .ref a9, .int j_faultKind, .int j_horseCount, .int j_tabletCount, .int j_riderCount, .int j_lineLength, .int j_hour]))]) (cx := [(h0, .inr (8, [.ref a1, .ref a2, .ref a3, .ref a4, .ref a5, .ref a6, .ref a7, .ref a8, .ref a9, .int j_faultKind, .int j_horseCount, .int j_tabletCount, .int j_riderCount, .int j_lineLength, .int j_hour]))]) (wr := []) (rx := [(h0, .inr (8, [.ref a1, .ref a2, .ref a3, .ref a4, .ref a5, .ref a6, .ref a7, .ref a8, .ref a9, .int j_faultKind, .int j_horseCount, .int j_tabletCount, .int j_riderCount, .int j_lineLength, .int j_hour]))]) (pl := va_pl L f_50) (pl1 := va_pl L f_57) hP hD [0] [] rfl rfl (by decide) (by decide) hk1 hFc hP1 hD1
    have hT := hf_x_58
    generalize H1 = H at hP hS ⊢
    have hP : va_P (dC, dI) vwCl ([(h0, .inr (8, [.ref a1, .ref a2, .ref a3, .ref a4, .ref a5, .ref a6, .ref a7, .ref a8, .ref a9, .int j_faultKind, .int j_horseCount, .int j_tabletCount, .int j_riderCount, .int j_lineLength, .int j_hour]))] ++ va_pl L f_57) H := hP
    have hD : va_D A ([(h0, .inr (8, [.ref a1, .ref a2, .ref a3, .ref a4, .ref a5, .ref a6, .ref a7, .ref a8, .ref a9, .int j_faultKind, .int j_horseCount, .int j_tabletCount, .int j_riderCount, .int j_lineLength, .int j_hour]))] ++ va_pl L f_57) := hD
    refine W.widen (k := 0) (n := 0) (Nat.le_of_ble_eq_true rfl) (Nat.le_of_ble_eq_true rfl) ?_
    refine lv_aload_n hx hb dX8_bring_52 rfl (lv_at hl 2 rfl) ?_
    refine lv_aload_n hx hb dX8_bring_53 rfl (lv_at hl 1 rfl) ?_
    refine va_get (D := (dC, dI)) (ci := 8) (v := .int j_hour) (C := RX8) (T := TX8) (N := 15) hx hb hts hin8 hown hK hP 0 rfl rfl 14 (by decide) (hts (.fieldLink RX8 140 "YamRiders" "hour" "I") (by decide +kernel)) (fun _ h9 => h9) rfl dX8_bring_54 ?_
    have hPc := hP.part (cx := []) [] rfl
    have hDc := hD.part (cx := []) [] (by decide) rfl
    have hKc := hK
    have hFc := va_freeP (cx := []) hD hS hA [] rfl
    obtain ⟨x_60, x_61, o_62, o_63, x_64, x_65, x_66, o_67, x_68, x_69, hf_59, hk_o_62, hk_o_63, hq_o_67⟩ := hT.get hk_e1
    obtain ⟨q_70, hq_70⟩ := pl_at (X := []) (f := f_57) (e := .inr (2, [.int x_60, .int x_61, .ref o_62, .ref o_63, .int x_64, .int x_65, .int x_66, va_rf o_67, .int x_68, .int x_69])) hk_e1.1 hf_59
    refine va_callv (va_runV (As := [.int j_hour]) (rest := []) ⟨hx, hb, hml, hown, hts⟩ (t_X2_comeTo l dC dI cs L ka f_57 e1 j_hour H.size hT hk_e1) (cwV 1 hts gX8_bring_X2_comeToNextStation rfl rfl rfl (by decide +kernel) ⟨Nat.le_of_ble_eq_true rfl, Nat.le_of_ble_eq_true rfl⟩) ⟨c_blind, va_recv hKc hPc (ci := 2) (q0 := q_70) rfl hq_70, c_pre hPc hKc hDc hN⟩ rfl rfl hl.1 rfl (lv_room (Nat.le_of_ble_eq_true rfl)) dX8_bring_57 ⟨Nat.le_of_ble_eq_true rfl, Nat.le_of_ble_eq_true rfl⟩) hS (fun q _ h => hFc q h) hFc (fun u9 t9 H1 locs ht hvm hw hB hz1 hk1 hS => ?_)
    obtain ⟨f_72, hf_x_73, hP1, hK1, hD1⟩ := hB
    rw [ht] at hP1
    have hK1 := va_K.moved hvm.symm hK1
    obtain ⟨hP, hD⟩ := va_joinP (X := [(h0, .inr (8, [.ref a1, .ref a2, .ref a3, .ref a4, .ref a5, .ref a6, .ref a7, .ref a8, .ref a9, .int j_faultKind, .int j_horseCount, .int j_tabletCount, .int j_riderCount, .int j_lineLength, .int j_hour]))]) (cx := []) (wr := [(h0, .inr (8, [.ref a1, .ref a2, .ref a3, .ref a4, .ref a5, .ref a6, .ref a7, .ref a8, .ref a9, .int j_faultKind, .int j_horseCount, .int j_tabletCount, .int j_riderCount, .int j_lineLength, .int j_hour]))]) (rx := []) (pl := va_pl L f_57) (pl1 := va_pl L f_72) hP hD [] [0] rfl rfl (by decide) (by decide) hk1 hFc hP1 hD1
    have hT := hf_x_73
    generalize H1 = H at hP hS ⊢
    have hP : va_P (dC, dI) vwCl ([(h0, .inr (8, [.ref a1, .ref a2, .ref a3, .ref a4, .ref a5, .ref a6, .ref a7, .ref a8, .ref a9, .int j_faultKind, .int j_horseCount, .int j_tabletCount, .int j_riderCount, .int j_lineLength, .int j_hour]))] ++ va_pl L f_72) H := hP
    have hD : va_D A ([(h0, .inr (8, [.ref a1, .ref a2, .ref a3, .ref a4, .ref a5, .ref a6, .ref a7, .ref a8, .ref a9, .int j_faultKind, .int j_horseCount, .int j_tabletCount, .int j_riderCount, .int j_lineLength, .int j_hour]))] ++ va_pl L f_72) := hD
    refine W.widen (k := 0) (n := 0) (Nat.le_of_ble_eq_true rfl) (Nat.le_of_ble_eq_true rfl) ?_
    have hP9 := hP.part (cx := [(h0, .inr (8, [.ref a1, .ref a2, .ref a3, .ref a4, .ref a5, .ref a6, .ref a7, .ref a8, .ref a9, .int j_faultKind, .int j_horseCount, .int j_tabletCount, .int j_riderCount, .int j_lineLength, .int j_hour]))]) [0] rfl
    have hD9 := hD.part (cx := [(h0, .inr (8, [.ref a1, .ref a2, .ref a3, .ref a4, .ref a5, .ref a6, .ref a7, .ref a8, .ref a9, .int j_faultKind, .int j_horseCount, .int j_tabletCount, .int j_riderCount, .int j_lineLength, .int j_hour]))]) [0] (by decide) rfl
    have hK9 := hK.sub (tys' := []) [] rfl
    refine W.widen (k := 0) (n := 0) (Nat.le_of_ble_eq_true rfl) (Nat.le_of_ble_eq_true rfl) ?_
    exact W.vret hx hb hr (fun t9 ht hW => ⟨⟨(), rfl, trivial, f_72, hT, by rw [ht]; exact hP9, va_K.moved hW.alike hK9, hD9⟩, hS.F ht⟩) hS.2.2 dX8_bring_60

set_option maxHeartbeats 4000000 in
set_option maxRecDepth 100000 in
theorem t_X8_bringComers (l : Launch) (dC : Nat → ClassId) (dI : Nat → Nat → Nat) (cs : Nat → ClassId) (L : List Nat) (ka : Nat → Nat) (f : Nat → va_E) (h0 : Nat) (a1 : Nat) (a2 : Nat) (a3 : Nat) (a4 : Nat) (a5 : Nat) (a6 : Nat) (a7 : Nat) (a8 : Nat) (a9 : Nat) (j_faultKind : Int32) (j_horseCount : Int32) (j_tabletCount : Int32) (j_riderCount : Int32) (j_lineLength : Int32) (j_hour : Int32) (sz : Nat) (hT : tO L ka cs f) (hY : yK L ka a2 a3 a4 a5 a6 a7 a8 a9) : Met l yX8_bringComers wsX8_bringComers ({ frames := 5, cells := 0, slots := 0, locals := 114 }) (va_Pc [.ref h0] (cP dC dI ([(h0, .inr (8, [.ref a1, .ref a2, .ref a3, .ref a4, .ref a5, .ref a6, .ref a7, .ref a8, .ref a9, .int j_faultKind, .int j_horseCount, .int j_tabletCount, .int j_riderCount, .int j_lineLength, .int j_hour]))] ++ va_pl L f) (tyC cs) sz)) (va_Qv (fun (_ : Unit) => True) (fun (_ : Unit) t9 => ∃ (f2 : Nat → va_E), (tO L ka cs f2) ∧ cQ dC dI ([(h0, .inr (8, [.ref a1, .ref a2, .ref a3, .ref a4, .ref a5, .ref a6, .ref a7, .ref a8, .ref a9, .int j_faultKind, .int j_horseCount, .int j_tabletCount, .int j_riderCount, .int j_lineLength, .int j_hour]))] ++ va_pl L f2) [] (va_A ([(h0, .inr (8, [.ref a1, .ref a2, .ref a3, .ref a4, .ref a5, .ref a6, .ref a7, .ref a8, .ref a9, .int j_faultKind, .int j_horseCount, .int j_tabletCount, .int j_riderCount, .int j_lineLength, .int j_hour]))] ++ va_pl L f) sz) t9) (va_A ([(h0, .inr (8, [.ref a1, .ref a2, .ref a3, .ref a4, .ref a5, .ref a6, .ref a7, .ref a8, .ref a9, .int j_faultKind, .int j_horseCount, .int j_tabletCount, .int j_riderCount, .int j_lineLength, .int j_hour]))] ++ va_pl L f) sz)) 0 0 (va_A ([(h0, .inr (8, [.ref a1, .ref a2, .ref a3, .ref a4, .ref a5, .ref a6, .ref a7, .ref a8, .ref a9, .int j_faultKind, .int j_horseCount, .int j_tabletCount, .int j_riderCount, .int j_lineLength, .int j_hour]))] ++ va_pl L f) sz) := by
  refine Met.ofW (cc := cX8_bringComers) (maxL := 5) (ret := none) (by decide) rfl ?_
  intro p e s m args below meth c s₁ B hml hv
  obtain ⟨rfl, hsz, hP, hK, hD0, hN⟩ := hv
  have hx := B.exec
  have hb := B.bytes
  have hr := B.returns
  have hts := atoms_spec (ws := wsX8_bringComers) B.pre
  have hown : s.vm.findClass RX8 = some m.cls := findClass_of_methodNamed B.named
  have hlocks := B.notSynchronized
  subst hsz
  have hin2 : ∀ w ∈ u_ws RX2 TX2 10, w ∈ wsX8_bringComers := by decide +kernel
  have hin8 : ∀ w ∈ u_ws RX8 TX8 15, w ∈ wsX8_bringComers := by decide +kernel
  have hD := hD0.self (sz := s.heap.size)
  generalize hAe : va_A ([(h0, .inr (8, [.ref a1, .ref a2, .ref a3, .ref a4, .ref a5, .ref a6, .ref a7, .ref a8, .ref a9, .int j_faultKind, .int j_horseCount, .int j_tabletCount, .int j_riderCount, .int j_lineLength, .int j_hour]))] ++ va_pl L f) s.heap.size = A at hD ⊢
  have hA : ∀ q : Nat, s.heap.size ≤ q → A q := fun q h => by rw [← hAe]; exact Or.inr h
  have hS : va_S A s.heap s.heap [] := va_S.rf
  have hP : va_P (dC, dI) vwCl ([(h0, .inr (8, [.ref a1, .ref a2, .ref a3, .ref a4, .ref a5, .ref a6, .ref a7, .ref a8, .ref a9, .int j_faultKind, .int j_horseCount, .int j_tabletCount, .int j_riderCount, .int j_lineLength, .int j_hour]))] ++ va_pl L f) s.heap := hP
  have hl := lv_entry ([.ref h0]) (n := 5) (Nat.le_of_ble_eq_true rfl)
  rw [lg_entry_eq]
  generalize (lg_sl ([.ref h0]) ++ List.replicate (5 - (lg_sl ([.ref h0])).length) Slot.unset).toArray = ls at hl ⊢
  have hl : lv_has ls 5 [(0, .ref h0)] := hl
  refine lv_aload_n hx hb dX8_bringComers_0 rfl (lv_at hl 0 rfl) ?_
  refine va_get (D := (dC, dI)) (ci := 8) (v := .ref a7) (C := RX8) (T := TX8) (N := 15) hx hb hts hin8 hown hK hP 0 rfl rfl 6 (by decide) (hts (.fieldLink RX8 48 "YamRiders" "riders" "[LYamRiders$Rider;") (by decide +kernel)) (fun _ h9 => h9) rfl dX8_bringComers_1 ?_
  refine lv_astore_n (lv' := [(1, .ref a7), (0, .ref h0)]) hx hb dX8_bringComers_4 rfl hl (by decide) rfl (fun ls hl => ?_)
  refine lv_aload_n hx hb dX8_bringComers_5 rfl (lv_at hl 0 rfl) ?_
  obtain ⟨g_2, hf_1, hr_3⟩ := hT.get hY.2.2.2.2.2.1
  obtain ⟨q_4, hq_4⟩ := pl_at (X := [(h0, .inr (8, [.ref a1, .ref a2, .ref a3, .ref a4, .ref a5, .ref a6, .ref a7, .ref a8, .ref a9, .int j_faultKind, .int j_horseCount, .int j_tabletCount, .int j_riderCount, .int j_lineLength, .int j_hour]))]) (f := f) (e := .inl (cs 5, 60, .inr (.inr (.inr (.inr g_2))))) hY.2.2.2.2.2.1.1 hf_1
  refine va_alen (v := 60) hx hb hK hP q_4 5 hq_4 rfl rfl dX8_bringComers_6 ?_
  refine lv_istore_n (lv' := [(2, .int 60), (1, .ref a7), (0, .ref h0)]) hx hb dX8_bringComers_7 rfl hl (by decide) rfl (fun ls hl => ?_)
  refine lv_iconst (v := 0) hx hb dX8_bringComers_8 (by decide) ?_
  refine lv_istore_n (lv' := [(3, .int 0), (2, .int 60), (1, .ref a7), (0, .ref h0)]) hx hb dX8_bringComers_9 rfl hl (by decide) rfl (fun ls hl => ?_)
  have HL : ∀ (n k : Nat), k ≤ 60 → 60 + 1 ≤ k + n → ∀ (f_5 : Nat → va_E) (H : Heap) (locs : List Loc), tO L ka cs f_5 → va_P (dC, dI) vwCl ([(h0, .inr (8, [.ref a1, .ref a2, .ref a3, .ref a4, .ref a5, .ref a6, .ref a7, .ref a8, .ref a9, .int j_faultKind, .int j_horseCount, .int j_tabletCount, .int j_riderCount, .int j_lineLength, .int j_hour]))] ++ va_pl L f_5) H → va_D A ([(h0, .inr (8, [.ref a1, .ref a2, .ref a3, .ref a4, .ref a5, .ref a6, .ref a7, .ref a8, .ref a9, .int j_faultKind, .int j_horseCount, .int j_tabletCount, .int j_riderCount, .int j_lineLength, .int j_hour]))] ++ va_pl L f_5) → va_S A s.heap H locs → ∀ ls : Array Slot, lv_has ls 5 [(0, .ref h0), (1, .ref a7), (2, .int 60), (3, .int (nI k))] → W p l e (headSpec wsX8_bringComers ({ frames := 5, cells := 0, slots := 0, locals := 114 })).room s m ([.ref h0]).toArray below meth c H locs 0 0 (MQ below (va_Qv (fun (_ : Unit) => True) (fun (_ : Unit) t9 => ∃ (f2 : Nat → va_E), (tO L ka cs f2) ∧ cQ dC dI ([(h0, .inr (8, [.ref a1, .ref a2, .ref a3, .ref a4, .ref a5, .ref a6, .ref a7, .ref a8, .ref a9, .int j_faultKind, .int j_horseCount, .int j_tabletCount, .int j_riderCount, .int j_lineLength, .int j_hour]))] ++ va_pl L f2) [] A t9) A) ([.ref h0]).toArray s 0 0 A) (F0 m 10 ls []) := by
    intro n
    induction n with
    | zero => intro k h1 h2; exact absurd h2 (by omega)
    | succ n ih =>
      intro k hk hn f_5 H locs hT hP hD hS ls hl
      refine lv_iload_n hx hb dX8_bringComers_10 rfl (lv_at hl 3 rfl) ?_
      refine lv_iload_n hx hb dX8_bringComers_11 rfl (lv_at hl 2 rfl) ?_
      refine lv_icmp_ge (tgt := 68) hx hb dX8_bringComers_12 (by decide) (fun c_6 => ?_) (fun c_6 => ?_)
      · have hke : k = 60 := by
          rcases Nat.lt_or_ge k 60 with q | q
          · exact absurd c_6 (nI_ge q (by decide))
          · omega
        have hP9 := hP.part (cx := [(h0, .inr (8, [.ref a1, .ref a2, .ref a3, .ref a4, .ref a5, .ref a6, .ref a7, .ref a8, .ref a9, .int j_faultKind, .int j_horseCount, .int j_tabletCount, .int j_riderCount, .int j_lineLength, .int j_hour]))]) [0] rfl
        have hD9 := hD.part (cx := [(h0, .inr (8, [.ref a1, .ref a2, .ref a3, .ref a4, .ref a5, .ref a6, .ref a7, .ref a8, .ref a9, .int j_faultKind, .int j_horseCount, .int j_tabletCount, .int j_riderCount, .int j_lineLength, .int j_hour]))]) [0] (by decide) rfl
        have hK9 := hK.sub (tys' := []) [] rfl
        refine W.widen (k := 0) (n := 0) (Nat.le_of_ble_eq_true rfl) (Nat.le_of_ble_eq_true rfl) ?_
        exact W.vret hx hb hr (fun t9 ht hW => ⟨⟨(), rfl, trivial, f_5, hT, by rw [ht]; exact hP9, va_K.moved hW.alike hK9, hD9⟩, hS.F ht⟩) hS.2.2 dX8_bringComers_68
      · have hlt : k < 60 := by
          rcases Nat.lt_or_ge k 60 with q | q
          · exact q
          · exact absurd (show nI 60 ≤ nI k from nI_le q (by omega)) c_6
        refine lv_aload_n hx hb dX8_bringComers_15 rfl (lv_at hl 1 rfl) ?_
        refine lv_iload_n hx hb dX8_bringComers_16 rfl (lv_at hl 3 rfl) ?_
        obtain ⟨g_8, hf_7, hr_9⟩ := hT.get hY.2.2.2.2.2.1
        obtain ⟨q_10, hq_10⟩ := pl_at (X := [(h0, .inr (8, [.ref a1, .ref a2, .ref a3, .ref a4, .ref a5, .ref a6, .ref a7, .ref a8, .ref a9, .int j_faultKind, .int j_horseCount, .int j_tabletCount, .int j_riderCount, .int j_lineLength, .int j_hour]))]) (f := f_5) (e := .inl (cs 5, 60, .inr (.inr (.inr (.inr g_8))))) hY.2.2.2.2.2.1.1 hf_7
        refine va_aldq hx hb hK hP q_10 5 hq_10 rfl (vp_in_nI hlt (by decide)) dX8_bringComers_17 ?_
        rcases hr_o_11 : g_8 (nI k).toNatClampNeg with _ | o_11
        · refine W.eq (g2 := F0 m 18 ls [.null]) rfl ?_
          refine lv_astoreN (lv' := [(4, .null), (0, .ref h0), (1, .ref a7), (2, .int 60), (3, .int (nI k))]) hx hb dX8_bringComers_18 hl (by decide) rfl (fun ls hl => ?_)
          refine lv_aloadN hx hb dX8_bringComers_20 (lv_at hl 0 rfl) ?_
          refine lv_ifnullN (tgt := 62) hx hb dX8_bringComers_22 (by decide) ?_
          refine lv_iinc (v := nI (k + 1)) (lv' := [(3, .int (nI (k + 1))), (4, .null), (0, .ref h0), (1, .ref a7), (2, .int 60)]) hx hb dX8_bringComers_62 hl (k := 4) rfl (by exact (nI_1 k)) (by decide) rfl (fun ls hl => ?_)
          refine lv_goto (tgt := 10) hx hb dX8_bringComers_65 (by decide) ?_
          exact ih (k + 1) (by omega) (by omega) _ _ _ hT (hP.part (cx := _) [0] rfl) (hD.part (cx := _) [0] (by decide) rfl) hS ls (lv_sub hl [2, 3, 4, 0] rfl)
        · have hk_o_11 := hr_9 _ _ hr_o_11
          refine W.eq (g2 := F0 m 18 ls [.ref o_11]) rfl ?_
          refine lv_astore (lv' := [(4, .ref o_11), (0, .ref h0), (1, .ref a7), (2, .int 60), (3, .int (nI k))]) hx hb dX8_bringComers_18 hl (by decide) rfl (fun ls hl => ?_)
          refine lv_aload hx hb dX8_bringComers_20 (lv_at hl 0 rfl) ?_
          refine lv_ifnull hx hb dX8_bringComers_22 ?_
          refine lv_aload hx hb dX8_bringComers_25 (lv_at hl 0 rfl) ?_
          obtain ⟨x_13, x_14, o_15, o_16, x_17, x_18, x_19, o_20, x_21, x_22, hf_12, hk_o_15, hk_o_16, hq_o_20⟩ := hT.get hk_o_11
          obtain ⟨q_23, hq_23⟩ := pl_at (X := [(h0, .inr (8, [.ref a1, .ref a2, .ref a3, .ref a4, .ref a5, .ref a6, .ref a7, .ref a8, .ref a9, .int j_faultKind, .int j_horseCount, .int j_tabletCount, .int j_riderCount, .int j_lineLength, .int j_hour]))]) (f := f_5) (e := .inr (2, [.int x_13, .int x_14, .ref o_15, .ref o_16, .int x_17, .int x_18, .int x_19, va_rf o_20, .int x_21, .int x_22])) hk_o_11.1 hf_12
          refine va_getN (D := (dC, dI)) (ci := 2) (v := va_rf o_20) (C := RX2) (T := TX2) (N := 10) hx hb hts hin2 hown hK hP q_23 hq_23 rfl 7 (by decide) (hN.nx (.fieldLinkNest RX8 293 "YamRiders$Rider" "horse" "LYamRiders$Horse;" "YamRiders") (by decide +kernel)) (fun _ h9 => h9) rfl dX8_bringComers_27 ?_
          rcases o_20 with _ | o_24
          · have hf_12 : f_5 o_11 = .inr (2, [.int x_13, .int x_14, .ref o_15, .ref o_16, .int x_17, .int x_18, .int x_19, .null, .int x_21, .int x_22]) := hf_12
            refine W.eq (g2 := F0 m 30 ls [.null]) rfl ?_
            refine lv_ifnullN (tgt := 62) hx hb dX8_bringComers_30 (by decide) ?_
            refine lv_iinc (v := nI (k + 1)) (lv' := [(3, .int (nI (k + 1))), (4, .ref o_11), (0, .ref h0), (1, .ref a7), (2, .int 60)]) hx hb dX8_bringComers_62 hl (k := 4) rfl (by exact (nI_1 k)) (by decide) rfl (fun ls hl => ?_)
            refine lv_goto (tgt := 10) hx hb dX8_bringComers_65 (by decide) ?_
            exact ih (k + 1) (by omega) (by omega) _ _ _ hT (hP.part (cx := _) [0] rfl) (hD.part (cx := _) [0] (by decide) rfl) hS ls (lv_sub hl [2, 3, 4, 0] rfl)
          · have hf_12 : f_5 o_11 = .inr (2, [.int x_13, .int x_14, .ref o_15, .ref o_16, .int x_17, .int x_18, .int x_19, .ref o_24, .int x_21, .int x_22]) := hf_12
            have hk_o_24 := hq_o_20 _ rfl
            refine W.eq (g2 := F0 m 30 ls [.ref o_24]) rfl ?_
            refine lv_ifnull hx hb dX8_bringComers_30 ?_
            refine lv_aload hx hb dX8_bringComers_33 (lv_at hl 0 rfl) ?_
            obtain ⟨q_25, hq_25⟩ := pl_at (X := [(h0, .inr (8, [.ref a1, .ref a2, .ref a3, .ref a4, .ref a5, .ref a6, .ref a7, .ref a8, .ref a9, .int j_faultKind, .int j_horseCount, .int j_tabletCount, .int j_riderCount, .int j_lineLength, .int j_hour]))]) (f := f_5) (e := .inr (2, [.int x_13, .int x_14, .ref o_15, .ref o_16, .int x_17, .int x_18, .int x_19, .ref o_24, .int x_21, .int x_22])) hk_o_11.1 hf_12
            refine va_getN (D := (dC, dI)) (ci := 2) (v := .int x_21) (C := RX2) (T := TX2) (N := 10) hx hb hts hin2 hown hK hP q_25 hq_25 rfl 8 (by decide) (hN.nx (.fieldLinkNest RX8 297 "YamRiders$Rider" "left" "I" "YamRiders") (by decide +kernel)) (fun _ h9 => h9) rfl dX8_bringComers_35 ?_
            refine lv_aload hx hb dX8_bringComers_38 (lv_at hl 0 rfl) ?_
            obtain ⟨q_26, hq_26⟩ := pl_at (X := [(h0, .inr (8, [.ref a1, .ref a2, .ref a3, .ref a4, .ref a5, .ref a6, .ref a7, .ref a8, .ref a9, .int j_faultKind, .int j_horseCount, .int j_tabletCount, .int j_riderCount, .int j_lineLength, .int j_hour]))]) (f := f_5) (e := .inr (2, [.int x_13, .int x_14, .ref o_15, .ref o_16, .int x_17, .int x_18, .int x_19, .ref o_24, .int x_21, .int x_22])) hk_o_11.1 hf_12
            refine va_getN (D := (dC, dI)) (ci := 2) (v := .int x_22) (C := RX2) (T := TX2) (N := 10) hx hb hts hin2 hown hK hP q_26 hq_26 rfl 9 (by decide) (hN.nx (.fieldLinkNest RX8 300 "YamRiders$Rider" "time" "I" "YamRiders") (by decide +kernel)) (fun _ h9 => h9) rfl dX8_bringComers_40 ?_
            refine lv_iadd hx hb dX8_bringComers_43 ?_
            refine lv_topi (fun v_27 ev_27 => ?_)
            refine lv_aload_n hx hb dX8_bringComers_44 rfl (lv_at hl 1 rfl) ?_
            refine va_get (D := (dC, dI)) (ci := 8) (v := .int j_hour) (C := RX8) (T := TX8) (N := 15) hx hb hts hin8 hown hK hP 0 rfl rfl 14 (by decide) (hts (.fieldLink RX8 140 "YamRiders" "hour" "I") (by decide +kernel)) (fun _ h9 => h9) rfl dX8_bringComers_45 ?_
            refine lv_icmp_gt (tgt := 62) hx hb dX8_bringComers_48 (by decide) (fun c_28 => ?_) (fun c_28 => ?_)
            · refine lv_iinc (v := nI (k + 1)) (lv' := [(3, .int (nI (k + 1))), (4, .ref o_11), (0, .ref h0), (1, .ref a7), (2, .int 60)]) hx hb dX8_bringComers_62 hl (k := 4) rfl (by exact (nI_1 k)) (by decide) rfl (fun ls hl => ?_)
              refine lv_goto (tgt := 10) hx hb dX8_bringComers_65 (by decide) ?_
              exact ih (k + 1) (by omega) (by omega) _ _ _ hT (hP.part (cx := _) [0] rfl) (hD.part (cx := _) [0] (by decide) rfl) hS ls (lv_sub hl [2, 3, 4, 0] rfl)
            · refine lv_aload_n hx hb dX8_bringComers_51 rfl (lv_at hl 1 rfl) ?_
              refine lv_aload hx hb dX8_bringComers_52 (lv_at hl 0 rfl) ?_
              refine lv_aload hx hb dX8_bringComers_54 (lv_at hl 0 rfl) ?_
              obtain ⟨q_29, hq_29⟩ := pl_at (X := [(h0, .inr (8, [.ref a1, .ref a2, .ref a3, .ref a4, .ref a5, .ref a6, .ref a7, .ref a8, .ref a9, .int j_faultKind, .int j_horseCount, .int j_tabletCount, .int j_riderCount, .int j_lineLength, .int j_hour]))]) (f := f_5) (e := .inr (2, [.int x_13, .int x_14, .ref o_15, .ref o_16, .int x_17, .int x_18, .int x_19, .ref o_24, .int x_21, .int x_22])) hk_o_11.1 hf_12
              refine va_getN (D := (dC, dI)) (ci := 2) (v := .ref o_24) (C := RX2) (T := TX2) (N := 10) hx hb hts hin2 hown hK hP q_29 hq_29 rfl 7 (by decide) (hN.nx (.fieldLinkNest RX8 293 "YamRiders$Rider" "horse" "LYamRiders$Horse;" "YamRiders") (by decide +kernel)) (fun _ h9 => h9) rfl dX8_bringComers_56 ?_
              have hPc := hP.part (cx := [(h0, .inr (8, [.ref a1, .ref a2, .ref a3, .ref a4, .ref a5, .ref a6, .ref a7, .ref a8, .ref a9, .int j_faultKind, .int j_horseCount, .int j_tabletCount, .int j_riderCount, .int j_lineLength, .int j_hour]))]) [0] rfl
              have hDc := hD.part (cx := [(h0, .inr (8, [.ref a1, .ref a2, .ref a3, .ref a4, .ref a5, .ref a6, .ref a7, .ref a8, .ref a9, .int j_faultKind, .int j_horseCount, .int j_tabletCount, .int j_riderCount, .int j_lineLength, .int j_hour]))]) [0] (by decide) rfl
              have hKc := hK
              have hFc := va_freeP (cx := [(h0, .inr (8, [.ref a1, .ref a2, .ref a3, .ref a4, .ref a5, .ref a6, .ref a7, .ref a8, .ref a9, .int j_faultKind, .int j_horseCount, .int j_tabletCount, .int j_riderCount, .int j_lineLength, .int j_hour]))]) hD hS hA [0] rfl
              refine va_callv (va_runV (As := [.ref o_11, .ref o_24]) (rest := []) ⟨hx, hb, hml, hown, hts⟩ (t_X8_bring l dC dI cs L ka f_5 h0 a1 a2 a3 a4 a5 a6 a7 a8 a9 j_faultKind j_horseCount j_tabletCount j_riderCount j_lineLength j_hour o_11 o_24 H.size hT hY hk_o_11 hk_o_24) (cwV 2 hts gX8_bringComers_X8_bring rfl rfl rfl (by decide +kernel) ⟨Nat.le_of_ble_eq_true rfl, Nat.le_of_ble_eq_true rfl⟩) ⟨c_blind, va_recv hKc hPc (ci := 8) (q0 := 0) rfl rfl, c_pre hPc hKc hDc hN⟩ rfl rfl hl.1 rfl (lv_room (Nat.le_of_ble_eq_true rfl)) dX8_bringComers_59 ⟨Nat.le_of_ble_eq_true rfl, Nat.le_of_ble_eq_true rfl⟩) hS (fun q _ h => hFc q h) hFc (fun u9 t9 H1 locs ht hvm hw hB hz1 hk1 hS => ?_)
              obtain ⟨f_31, hf_x_32, hP1, hK1, hD1⟩ := hB
              rw [ht] at hP1
              have hK1 := va_K.moved hvm.symm hK1
              obtain ⟨hP, hD⟩ := va_joinP (X := [(h0, .inr (8, [.ref a1, .ref a2, .ref a3, .ref a4, .ref a5, .ref a6, .ref a7, .ref a8, .ref a9, .int j_faultKind, .int j_horseCount, .int j_tabletCount, .int j_riderCount, .int j_lineLength, .int j_hour]))]) (cx := [(h0, .inr (8, [.ref a1, .ref a2, .ref a3, .ref a4, .ref a5, .ref a6, .ref a7, .ref a8, .ref a9, .int j_faultKind, .int j_horseCount, .int j_tabletCount, .int j_riderCount, .int j_lineLength, .int j_hour]))]) (wr := []) (rx := [(h0, .inr (8, [.ref a1, .ref a2, .ref a3, .ref a4, .ref a5, .ref a6, .ref a7, .ref a8, .ref a9, .int j_faultKind, .int j_horseCount, .int j_tabletCount, .int j_riderCount, .int j_lineLength, .int j_hour]))]) (pl := va_pl L f_5) (pl1 := va_pl L f_31) hP hD [0] [] rfl rfl (by decide) (by decide) hk1 hFc hP1 hD1
              have hT := hf_x_32
              generalize H1 = H at hP hS ⊢
              have hP : va_P (dC, dI) vwCl ([(h0, .inr (8, [.ref a1, .ref a2, .ref a3, .ref a4, .ref a5, .ref a6, .ref a7, .ref a8, .ref a9, .int j_faultKind, .int j_horseCount, .int j_tabletCount, .int j_riderCount, .int j_lineLength, .int j_hour]))] ++ va_pl L f_31) H := hP
              have hD : va_D A ([(h0, .inr (8, [.ref a1, .ref a2, .ref a3, .ref a4, .ref a5, .ref a6, .ref a7, .ref a8, .ref a9, .int j_faultKind, .int j_horseCount, .int j_tabletCount, .int j_riderCount, .int j_lineLength, .int j_hour]))] ++ va_pl L f_31) := hD
              refine W.widen (k := 0) (n := 0) (Nat.le_of_ble_eq_true rfl) (Nat.le_of_ble_eq_true rfl) ?_
              refine lv_iinc (v := nI (k + 1)) (lv' := [(3, .int (nI (k + 1))), (4, .ref o_11), (0, .ref h0), (1, .ref a7), (2, .int 60)]) hx hb dX8_bringComers_62 hl (k := 4) rfl (by exact (nI_1 k)) (by decide) rfl (fun ls hl => ?_)
              refine lv_goto (tgt := 10) hx hb dX8_bringComers_65 (by decide) ?_
              exact ih (k + 1) (by omega) (by omega) _ _ _ hT (hP.part (cx := _) [0] rfl) (hD.part (cx := _) [0] (by decide) rfl) hS ls (lv_sub hl [2, 3, 4, 0] rfl)
  exact HL 61 0 (by omega) (by omega) _ _ _ hT (hP.part (cx := [(h0, .inr (8, [.ref a1, .ref a2, .ref a3, .ref a4, .ref a5, .ref a6, .ref a7, .ref a8, .ref a9, .int j_faultKind, .int j_horseCount, .int j_tabletCount, .int j_riderCount, .int j_lineLength, .int j_hour]))]) [0] rfl) (hD.part (cx := [(h0, .inr (8, [.ref a1, .ref a2, .ref a3, .ref a4, .ref a5, .ref a6, .ref a7, .ref a8, .ref a9, .int j_faultKind, .int j_horseCount, .int j_tabletCount, .int j_riderCount, .int j_lineLength, .int j_hour]))]) [0] (by decide) rfl) hS ls (lv_sub hl [3, 2, 1, 0] rfl)

set_option maxHeartbeats 4000000 in
set_option maxRecDepth 100000 in
theorem t_X8_next (l : Launch) (dC : Nat → ClassId) (dI : Nat → Nat → Nat) (cs : Nat → ClassId) (L : List Nat) (ka : Nat → Nat) (f : Nat → va_E) (h0 : Nat) (a1 : Nat) (a2 : Nat) (a3 : Nat) (a4 : Nat) (a5 : Nat) (a6 : Nat) (a7 : Nat) (a8 : Nat) (a9 : Nat) (j_faultKind : Int32) (j_horseCount : Int32) (j_tabletCount : Int32) (j_riderCount : Int32) (ll9 : Nat) (hr9 : Nat) (sz : Nat) (hT : tO L ka cs f) (hY : yK L ka a2 a3 a4 a5 a6 a7 a8 a9) (hll : ll9 ≤ 60) (hhr : hr9 ≤ 9999) : Met l yX8_next wsX8_next ({ frames := 6, cells := 0, slots := 0, locals := 138 }) (va_Pc [.ref h0] (cP dC dI ([(h0, .inr (8, [.ref a1, .ref a2, .ref a3, .ref a4, .ref a5, .ref a6, .ref a7, .ref a8, .ref a9, .int j_faultKind, .int j_horseCount, .int j_tabletCount, .int j_riderCount, .int (nI ll9), .int (nI hr9)]))] ++ va_pl L f) (tyC cs) sz)) (va_Qi (fun (r rv : Int32) => r = rv) (fun (rv : Int32) t9 => ∃ (f2 : Nat → va_E) (ll2 : Nat) (hr2 : Nat), (tO L ka cs f2) ∧ (ll2 ≤ 60 ∧ hr2 ≤ 9999 ∧ FNx hr9 rv hr2) ∧ cQ dC dI ([(h0, .inr (8, [.ref a1, .ref a2, .ref a3, .ref a4, .ref a5, .ref a6, .ref a7, .ref a8, .ref a9, .int j_faultKind, .int j_horseCount, .int j_tabletCount, .int j_riderCount, .int (nI ll2), .int (nI hr2)]))] ++ va_pl L f2) [] (va_A ([(h0, .inr (8, [.ref a1, .ref a2, .ref a3, .ref a4, .ref a5, .ref a6, .ref a7, .ref a8, .ref a9, .int j_faultKind, .int j_horseCount, .int j_tabletCount, .int j_riderCount, .int (nI ll9), .int (nI hr9)]))] ++ va_pl L f) sz) t9) (va_A ([(h0, .inr (8, [.ref a1, .ref a2, .ref a3, .ref a4, .ref a5, .ref a6, .ref a7, .ref a8, .ref a9, .int j_faultKind, .int j_horseCount, .int j_tabletCount, .int j_riderCount, .int (nI ll9), .int (nI hr9)]))] ++ va_pl L f) sz)) 0 0 (va_A ([(h0, .inr (8, [.ref a1, .ref a2, .ref a3, .ref a4, .ref a5, .ref a6, .ref a7, .ref a8, .ref a9, .int j_faultKind, .int j_horseCount, .int j_tabletCount, .int j_riderCount, .int (nI ll9), .int (nI hr9)]))] ++ va_pl L f) sz) := by
  refine Met.ofW (cc := cX8_next) (maxL := 1) (ret := (some .int)) (by decide) rfl ?_
  intro p e s m args below meth c s₁ B hml hv
  obtain ⟨rfl, hsz, hP, hK, hD0, hN⟩ := hv
  have hx := B.exec
  have hb := B.bytes
  have hr := B.returns
  have hts := atoms_spec (ws := wsX8_next) B.pre
  have hown : s.vm.findClass RX8 = some m.cls := findClass_of_methodNamed B.named
  have hlocks := B.notSynchronized
  subst hsz
  have hin8 : ∀ w ∈ u_ws RX8 TX8 15, w ∈ wsX8_next := by decide +kernel
  have hD := hD0.self (sz := s.heap.size)
  generalize hAe : va_A ([(h0, .inr (8, [.ref a1, .ref a2, .ref a3, .ref a4, .ref a5, .ref a6, .ref a7, .ref a8, .ref a9, .int j_faultKind, .int j_horseCount, .int j_tabletCount, .int j_riderCount, .int (nI ll9), .int (nI hr9)]))] ++ va_pl L f) s.heap.size = A at hD ⊢
  have hA : ∀ q : Nat, s.heap.size ≤ q → A q := fun q h => by rw [← hAe]; exact Or.inr h
  have hS : va_S A s.heap s.heap [] := va_S.rf
  have hP : va_P (dC, dI) vwCl ([(h0, .inr (8, [.ref a1, .ref a2, .ref a3, .ref a4, .ref a5, .ref a6, .ref a7, .ref a8, .ref a9, .int j_faultKind, .int j_horseCount, .int j_tabletCount, .int j_riderCount, .int (nI ll9), .int (nI hr9)]))] ++ va_pl L f) s.heap := hP
  have hl := lv_entry ([.ref h0]) (n := 1) (Nat.le_of_ble_eq_true rfl)
  rw [lg_entry_eq]
  generalize (lg_sl ([.ref h0]) ++ List.replicate (1 - (lg_sl ([.ref h0])).length) Slot.unset).toArray = ls at hl ⊢
  have hl : lv_has ls 1 [(0, .ref h0)] := hl
  refine lv_aload_n hx hb dX8_next_0 rfl (lv_at hl 0 rfl) ?_
  refine va_get (D := (dC, dI)) (ci := 8) (v := .int (nI hr9)) (C := RX8) (T := TX8) (N := 15) hx hb hts hin8 hown hK hP 0 rfl rfl 14 (by decide) (hts (.fieldLink RX8 140 "YamRiders" "hour" "I") (by decide +kernel)) (fun _ h9 => h9) rfl dX8_next_1 ?_
  refine lv_sipush (v := 9999) hx hb dX8_next_4 (by decide) ?_
  refine lv_icmp_lt (tgt := 12) hx hb dX8_next_7 (by decide) (fun c_1 => ?_) (fun c_1 => ?_)
  · refine lv_aload_n hx hb dX8_next_12 rfl (lv_at hl 0 rfl) ?_
    have hPc := hP.part (cx := [(h0, .inr (8, [.ref a1, .ref a2, .ref a3, .ref a4, .ref a5, .ref a6, .ref a7, .ref a8, .ref a9, .int j_faultKind, .int j_horseCount, .int j_tabletCount, .int j_riderCount, .int (nI ll9), .int (nI hr9)]))]) [0] rfl
    have hDc := hD.part (cx := [(h0, .inr (8, [.ref a1, .ref a2, .ref a3, .ref a4, .ref a5, .ref a6, .ref a7, .ref a8, .ref a9, .int j_faultKind, .int j_horseCount, .int j_tabletCount, .int j_riderCount, .int (nI ll9), .int (nI hr9)]))]) [0] (by decide) rfl
    have hKc := hK
    have hFc := va_freeP (cx := [(h0, .inr (8, [.ref a1, .ref a2, .ref a3, .ref a4, .ref a5, .ref a6, .ref a7, .ref a8, .ref a9, .int j_faultKind, .int j_horseCount, .int j_tabletCount, .int j_riderCount, .int (nI ll9), .int (nI hr9)]))]) hD hS hA [0] rfl
    refine va_callv (va_runV (As := []) (rest := []) ⟨hx, hb, hml, hown, hts⟩ (t_X8_careForHorses l dC dI cs L ka f h0 a1 a2 a3 a4 a5 a6 a7 a8 a9 j_faultKind j_horseCount j_tabletCount j_riderCount (nI ll9) (nI hr9) s.heap.size hT hY) (cwV 0 hts gX8_next_X8_careForHorses rfl rfl rfl (by decide +kernel) ⟨Nat.le_of_ble_eq_true rfl, Nat.le_of_ble_eq_true rfl⟩) ⟨c_blind, va_recv hKc hPc (ci := 8) (q0 := 0) rfl rfl, c_pre hPc hKc hDc hN⟩ rfl rfl hl.1 rfl (lv_room (Nat.le_of_ble_eq_true rfl)) dX8_next_13 ⟨Nat.le_of_ble_eq_true rfl, Nat.le_of_ble_eq_true rfl⟩) hS (fun q _ h => hFc q h) hFc (fun u9 t9 H1 locs ht hvm hw hB hz1 hk1 hS => ?_)
    obtain ⟨f_3, hf_x_4, hP1, hK1, hD1⟩ := hB
    rw [ht] at hP1
    have hK1 := va_K.moved hvm.symm hK1
    obtain ⟨hP, hD⟩ := va_joinP (X := [(h0, .inr (8, [.ref a1, .ref a2, .ref a3, .ref a4, .ref a5, .ref a6, .ref a7, .ref a8, .ref a9, .int j_faultKind, .int j_horseCount, .int j_tabletCount, .int j_riderCount, .int (nI ll9), .int (nI hr9)]))]) (cx := [(h0, .inr (8, [.ref a1, .ref a2, .ref a3, .ref a4, .ref a5, .ref a6, .ref a7, .ref a8, .ref a9, .int j_faultKind, .int j_horseCount, .int j_tabletCount, .int j_riderCount, .int (nI ll9), .int (nI hr9)]))]) (wr := []) (rx := [(h0, .inr (8, [.ref a1, .ref a2, .ref a3, .ref a4, .ref a5, .ref a6, .ref a7, .ref a8, .ref a9, .int j_faultKind, .int j_horseCount, .int j_tabletCount, .int j_riderCount, .int (nI ll9), .int (nI hr9)]))]) (pl := va_pl L f) (pl1 := va_pl L f_3) hP hD [0] [] rfl rfl (by decide) (by decide) hk1 hFc hP1 hD1
    have hT := hf_x_4
    generalize H1 = H at hP hS ⊢
    have hP : va_P (dC, dI) vwCl ([(h0, .inr (8, [.ref a1, .ref a2, .ref a3, .ref a4, .ref a5, .ref a6, .ref a7, .ref a8, .ref a9, .int j_faultKind, .int j_horseCount, .int j_tabletCount, .int j_riderCount, .int (nI ll9), .int (nI hr9)]))] ++ va_pl L f_3) H := hP
    have hD : va_D A ([(h0, .inr (8, [.ref a1, .ref a2, .ref a3, .ref a4, .ref a5, .ref a6, .ref a7, .ref a8, .ref a9, .int j_faultKind, .int j_horseCount, .int j_tabletCount, .int j_riderCount, .int (nI ll9), .int (nI hr9)]))] ++ va_pl L f_3) := hD
    refine W.widen (k := 0) (n := 0) (Nat.le_of_ble_eq_true rfl) (Nat.le_of_ble_eq_true rfl) ?_
    refine lv_aload_n hx hb dX8_next_16 rfl (lv_at hl 0 rfl) ?_
    have hPc := hP.part (cx := [(h0, .inr (8, [.ref a1, .ref a2, .ref a3, .ref a4, .ref a5, .ref a6, .ref a7, .ref a8, .ref a9, .int j_faultKind, .int j_horseCount, .int j_tabletCount, .int j_riderCount, .int (nI ll9), .int (nI hr9)]))]) [0] rfl
    have hDc := hD.part (cx := [(h0, .inr (8, [.ref a1, .ref a2, .ref a3, .ref a4, .ref a5, .ref a6, .ref a7, .ref a8, .ref a9, .int j_faultKind, .int j_horseCount, .int j_tabletCount, .int j_riderCount, .int (nI ll9), .int (nI hr9)]))]) [0] (by decide) rfl
    have hKc := hK
    have hFc := va_freeP (cx := [(h0, .inr (8, [.ref a1, .ref a2, .ref a3, .ref a4, .ref a5, .ref a6, .ref a7, .ref a8, .ref a9, .int j_faultKind, .int j_horseCount, .int j_tabletCount, .int j_riderCount, .int (nI ll9), .int (nI hr9)]))]) hD hS hA [0] rfl
    refine va_callv (va_runV (As := []) (rest := []) ⟨hx, hb, hml, hown, hts⟩ (t_X8_lineUpWaiting l dC dI cs L ka f_3 h0 a1 a2 a3 a4 a5 a6 a7 a8 a9 j_faultKind j_horseCount j_tabletCount j_riderCount (nI ll9) (nI hr9) H.size hT hY) (cwV 0 hts gX8_next_X8_lineUpWaiting rfl rfl rfl (by decide +kernel) ⟨Nat.le_of_ble_eq_true rfl, Nat.le_of_ble_eq_true rfl⟩) ⟨c_blind, va_recv hKc hPc (ci := 8) (q0 := 0) rfl rfl, c_pre hPc hKc hDc hN⟩ rfl rfl hl.1 rfl (lv_room (Nat.le_of_ble_eq_true rfl)) dX8_next_17 ⟨Nat.le_of_ble_eq_true rfl, Nat.le_of_ble_eq_true rfl⟩) hS (fun q _ h => hFc q h) hFc (fun u9 t9 H1 locs ht hvm hw hB hz1 hk1 hS => ?_)
    obtain ⟨f_6, ll_7, hf_x_8, hf_x_9, hP1, hK1, hD1⟩ := hB
    rw [ht] at hP1
    have hK1 := va_K.moved hvm.symm hK1
    obtain ⟨hP, hD⟩ := va_joinP (X := [(h0, .inr (8, [.ref a1, .ref a2, .ref a3, .ref a4, .ref a5, .ref a6, .ref a7, .ref a8, .ref a9, .int j_faultKind, .int j_horseCount, .int j_tabletCount, .int j_riderCount, .int (nI ll9), .int (nI hr9)]))]) (cx := [(h0, .inr (8, [.ref a1, .ref a2, .ref a3, .ref a4, .ref a5, .ref a6, .ref a7, .ref a8, .ref a9, .int j_faultKind, .int j_horseCount, .int j_tabletCount, .int j_riderCount, .int (nI ll9), .int (nI hr9)]))]) (wr := []) (rx := [(h0, .inr (8, [.ref a1, .ref a2, .ref a3, .ref a4, .ref a5, .ref a6, .ref a7, .ref a8, .ref a9, .int j_faultKind, .int j_horseCount, .int j_tabletCount, .int j_riderCount, .int (nI ll_7), .int (nI hr9)]))]) (pl := va_pl L f_3) (pl1 := va_pl L f_6) hP hD [0] [] rfl rfl (by decide) (by decide) hk1 hFc hP1 hD1
    have hT := hf_x_8
    generalize H1 = H at hP hS ⊢
    have hP : va_P (dC, dI) vwCl ([(h0, .inr (8, [.ref a1, .ref a2, .ref a3, .ref a4, .ref a5, .ref a6, .ref a7, .ref a8, .ref a9, .int j_faultKind, .int j_horseCount, .int j_tabletCount, .int j_riderCount, .int (nI ll_7), .int (nI hr9)]))] ++ va_pl L f_6) H := hP
    have hD : va_D A ([(h0, .inr (8, [.ref a1, .ref a2, .ref a3, .ref a4, .ref a5, .ref a6, .ref a7, .ref a8, .ref a9, .int j_faultKind, .int j_horseCount, .int j_tabletCount, .int j_riderCount, .int (nI ll_7), .int (nI hr9)]))] ++ va_pl L f_6) := hD
    refine W.widen (k := 0) (n := 0) (Nat.le_of_ble_eq_true rfl) (Nat.le_of_ble_eq_true rfl) ?_
    refine lv_aload_n hx hb dX8_next_20 rfl (lv_at hl 0 rfl) ?_
    have hPc := hP.part (cx := [(h0, .inr (8, [.ref a1, .ref a2, .ref a3, .ref a4, .ref a5, .ref a6, .ref a7, .ref a8, .ref a9, .int j_faultKind, .int j_horseCount, .int j_tabletCount, .int j_riderCount, .int (nI ll_7), .int (nI hr9)]))]) [0] rfl
    have hDc := hD.part (cx := [(h0, .inr (8, [.ref a1, .ref a2, .ref a3, .ref a4, .ref a5, .ref a6, .ref a7, .ref a8, .ref a9, .int j_faultKind, .int j_horseCount, .int j_tabletCount, .int j_riderCount, .int (nI ll_7), .int (nI hr9)]))]) [0] (by decide) rfl
    have hKc := hK
    have hFc := va_freeP (cx := [(h0, .inr (8, [.ref a1, .ref a2, .ref a3, .ref a4, .ref a5, .ref a6, .ref a7, .ref a8, .ref a9, .int j_faultKind, .int j_horseCount, .int j_tabletCount, .int j_riderCount, .int (nI ll_7), .int (nI hr9)]))]) hD hS hA [0] rfl
    refine va_callv (va_runV (As := []) (rest := []) ⟨hx, hb, hml, hown, hts⟩ (t_X8_sendLine l dC dI cs L ka f_6 h0 a1 a2 a3 a4 a5 a6 a7 a8 a9 j_faultKind j_horseCount j_tabletCount j_riderCount (nI hr9) ll_7 H.size hT hY (by omega)) (cwV 0 hts gX8_next_X8_sendLine rfl rfl rfl (by decide +kernel) ⟨Nat.le_of_ble_eq_true rfl, Nat.le_of_ble_eq_true rfl⟩) ⟨c_blind, va_recv hKc hPc (ci := 8) (q0 := 0) rfl rfl, c_pre hPc hKc hDc hN⟩ rfl rfl hl.1 rfl (lv_room (Nat.le_of_ble_eq_true rfl)) dX8_next_21 ⟨Nat.le_of_ble_eq_true rfl, Nat.le_of_ble_eq_true rfl⟩) hS (fun q _ h => hFc q h) hFc (fun u9 t9 H1 locs ht hvm hw hB hz1 hk1 hS => ?_)
    obtain ⟨f_11, hf_x_12, hP1, hK1, hD1⟩ := hB
    rw [ht] at hP1
    have hK1 := va_K.moved hvm.symm hK1
    obtain ⟨hP, hD⟩ := va_joinP (X := [(h0, .inr (8, [.ref a1, .ref a2, .ref a3, .ref a4, .ref a5, .ref a6, .ref a7, .ref a8, .ref a9, .int j_faultKind, .int j_horseCount, .int j_tabletCount, .int j_riderCount, .int (nI ll_7), .int (nI hr9)]))]) (cx := [(h0, .inr (8, [.ref a1, .ref a2, .ref a3, .ref a4, .ref a5, .ref a6, .ref a7, .ref a8, .ref a9, .int j_faultKind, .int j_horseCount, .int j_tabletCount, .int j_riderCount, .int (nI ll_7), .int (nI hr9)]))]) (wr := []) (rx := [(h0, .inr (8, [.ref a1, .ref a2, .ref a3, .ref a4, .ref a5, .ref a6, .ref a7, .ref a8, .ref a9, .int j_faultKind, .int j_horseCount, .int j_tabletCount, .int j_riderCount, .int (nI ll_7), .int (nI hr9)]))]) (pl := va_pl L f_6) (pl1 := va_pl L f_11) hP hD [0] [] rfl rfl (by decide) (by decide) hk1 hFc hP1 hD1
    have hT := hf_x_12
    generalize H1 = H at hP hS ⊢
    have hP : va_P (dC, dI) vwCl ([(h0, .inr (8, [.ref a1, .ref a2, .ref a3, .ref a4, .ref a5, .ref a6, .ref a7, .ref a8, .ref a9, .int j_faultKind, .int j_horseCount, .int j_tabletCount, .int j_riderCount, .int (nI ll_7), .int (nI hr9)]))] ++ va_pl L f_11) H := hP
    have hD : va_D A ([(h0, .inr (8, [.ref a1, .ref a2, .ref a3, .ref a4, .ref a5, .ref a6, .ref a7, .ref a8, .ref a9, .int j_faultKind, .int j_horseCount, .int j_tabletCount, .int j_riderCount, .int (nI ll_7), .int (nI hr9)]))] ++ va_pl L f_11) := hD
    refine W.widen (k := 0) (n := 0) (Nat.le_of_ble_eq_true rfl) (Nat.le_of_ble_eq_true rfl) ?_
    refine lv_aload_n hx hb dX8_next_24 rfl (lv_at hl 0 rfl) ?_
    refine lv_dup hx hb dX8_next_25 rfl ?_
    refine va_get (D := (dC, dI)) (ci := 8) (v := .int (nI hr9)) (C := RX8) (T := TX8) (N := 15) hx hb hts hin8 hown hK hP 0 rfl rfl 14 (by decide) (hts (.fieldLink RX8 140 "YamRiders" "hour" "I") (by decide +kernel)) (fun _ h9 => h9) rfl dX8_next_26 ?_
    refine lv_iconst (v := 1) hx hb dX8_next_29 (by decide) ?_
    refine lv_iadd hx hb dX8_next_30 ?_
    refine lv_topi (fun v_13 ev_13 => ?_)
    obtain rfl : v_13 = nI (hr9 + 1) := ev_13.trans (nI_1 hr9)
    refine va_put (D := (dC, dI)) (ci := 8) (v := .int (nI (hr9 + 1))) (ty := (tyX8 14)) (C := RX8) (T := TX8) (N := 15) hx hb hts hin8 tyX8 tyX8_ok nmX8 hown hK hP hD hS 0 rfl rfl 14 (by decide) (hts (.fieldLink RX8 140 "YamRiders" "hour" "I") (by decide +kernel)) (fun _ h9 => h9) rfl (by decide +kernel) rfl rfl (Nat.le_of_ble_eq_true rfl) dX8_next_31 (fun H locs hP hD hS => ?_)
    have hP : va_P (dC, dI) vwCl ([(h0, .inr (8, [.ref a1, .ref a2, .ref a3, .ref a4, .ref a5, .ref a6, .ref a7, .ref a8, .ref a9, .int j_faultKind, .int j_horseCount, .int j_tabletCount, .int j_riderCount, .int (nI ll_7), .int (nI (hr9 + 1))]))] ++ va_pl L f_11) H := hP
    have hD : va_D A ([(h0, .inr (8, [.ref a1, .ref a2, .ref a3, .ref a4, .ref a5, .ref a6, .ref a7, .ref a8, .ref a9, .int j_faultKind, .int j_horseCount, .int j_tabletCount, .int j_riderCount, .int (nI ll_7), .int (nI (hr9 + 1))]))] ++ va_pl L f_11) := hD
    refine lv_aload_n hx hb dX8_next_34 rfl (lv_at hl 0 rfl) ?_
    have hPc := hP.part (cx := [(h0, .inr (8, [.ref a1, .ref a2, .ref a3, .ref a4, .ref a5, .ref a6, .ref a7, .ref a8, .ref a9, .int j_faultKind, .int j_horseCount, .int j_tabletCount, .int j_riderCount, .int (nI ll_7), .int (nI (hr9 + 1))]))]) [0] rfl
    have hDc := hD.part (cx := [(h0, .inr (8, [.ref a1, .ref a2, .ref a3, .ref a4, .ref a5, .ref a6, .ref a7, .ref a8, .ref a9, .int j_faultKind, .int j_horseCount, .int j_tabletCount, .int j_riderCount, .int (nI ll_7), .int (nI (hr9 + 1))]))]) [0] (by decide) rfl
    have hKc := hK
    have hFc := va_freeP (cx := [(h0, .inr (8, [.ref a1, .ref a2, .ref a3, .ref a4, .ref a5, .ref a6, .ref a7, .ref a8, .ref a9, .int j_faultKind, .int j_horseCount, .int j_tabletCount, .int j_riderCount, .int (nI ll_7), .int (nI (hr9 + 1))]))]) hD hS hA [0] rfl
    refine va_callv (va_runV (As := []) (rest := []) ⟨hx, hb, hml, hown, hts⟩ (t_X8_bringComers l dC dI cs L ka f_11 h0 a1 a2 a3 a4 a5 a6 a7 a8 a9 j_faultKind j_horseCount j_tabletCount j_riderCount (nI ll_7) (nI (hr9 + 1)) H.size hT hY) (cwV 0 hts gX8_next_X8_bringComers rfl rfl rfl (by decide +kernel) ⟨Nat.le_of_ble_eq_true rfl, Nat.le_of_ble_eq_true rfl⟩) ⟨c_blind, va_recv hKc hPc (ci := 8) (q0 := 0) rfl rfl, c_pre hPc hKc hDc hN⟩ rfl rfl hl.1 rfl (lv_room (Nat.le_of_ble_eq_true rfl)) dX8_next_35 ⟨Nat.le_of_ble_eq_true rfl, Nat.le_of_ble_eq_true rfl⟩) hS (fun q _ h => hFc q h) hFc (fun u9 t9 H1 locs ht hvm hw hB hz1 hk1 hS => ?_)
    obtain ⟨f_15, hf_x_16, hP1, hK1, hD1⟩ := hB
    rw [ht] at hP1
    have hK1 := va_K.moved hvm.symm hK1
    obtain ⟨hP, hD⟩ := va_joinP (X := [(h0, .inr (8, [.ref a1, .ref a2, .ref a3, .ref a4, .ref a5, .ref a6, .ref a7, .ref a8, .ref a9, .int j_faultKind, .int j_horseCount, .int j_tabletCount, .int j_riderCount, .int (nI ll_7), .int (nI (hr9 + 1))]))]) (cx := [(h0, .inr (8, [.ref a1, .ref a2, .ref a3, .ref a4, .ref a5, .ref a6, .ref a7, .ref a8, .ref a9, .int j_faultKind, .int j_horseCount, .int j_tabletCount, .int j_riderCount, .int (nI ll_7), .int (nI (hr9 + 1))]))]) (wr := []) (rx := [(h0, .inr (8, [.ref a1, .ref a2, .ref a3, .ref a4, .ref a5, .ref a6, .ref a7, .ref a8, .ref a9, .int j_faultKind, .int j_horseCount, .int j_tabletCount, .int j_riderCount, .int (nI ll_7), .int (nI (hr9 + 1))]))]) (pl := va_pl L f_11) (pl1 := va_pl L f_15) hP hD [0] [] rfl rfl (by decide) (by decide) hk1 hFc hP1 hD1
    have hT := hf_x_16
    generalize H1 = H at hP hS ⊢
    have hP : va_P (dC, dI) vwCl ([(h0, .inr (8, [.ref a1, .ref a2, .ref a3, .ref a4, .ref a5, .ref a6, .ref a7, .ref a8, .ref a9, .int j_faultKind, .int j_horseCount, .int j_tabletCount, .int j_riderCount, .int (nI ll_7), .int (nI (hr9 + 1))]))] ++ va_pl L f_15) H := hP
    have hD : va_D A ([(h0, .inr (8, [.ref a1, .ref a2, .ref a3, .ref a4, .ref a5, .ref a6, .ref a7, .ref a8, .ref a9, .int j_faultKind, .int j_horseCount, .int j_tabletCount, .int j_riderCount, .int (nI ll_7), .int (nI (hr9 + 1))]))] ++ va_pl L f_15) := hD
    refine W.widen (k := 0) (n := 0) (Nat.le_of_ble_eq_true rfl) (Nat.le_of_ble_eq_true rfl) ?_
    refine lv_aload_n hx hb dX8_next_38 rfl (lv_at hl 0 rfl) ?_
    refine va_get (D := (dC, dI)) (ci := 8) (v := .int (nI (hr9 + 1))) (C := RX8) (T := TX8) (N := 15) hx hb hts hin8 hown hK hP 0 rfl rfl 14 (by decide) (hts (.fieldLink RX8 140 "YamRiders" "hour" "I") (by decide +kernel)) (fun _ h9 => h9) rfl dX8_next_39 ?_
    have hP9 := hP.part (cx := [(h0, .inr (8, [.ref a1, .ref a2, .ref a3, .ref a4, .ref a5, .ref a6, .ref a7, .ref a8, .ref a9, .int j_faultKind, .int j_horseCount, .int j_tabletCount, .int j_riderCount, .int (nI ll_7), .int (nI (hr9 + 1))]))]) [0] rfl
    have hD9 := hD.part (cx := [(h0, .inr (8, [.ref a1, .ref a2, .ref a3, .ref a4, .ref a5, .ref a6, .ref a7, .ref a8, .ref a9, .int j_faultKind, .int j_horseCount, .int j_tabletCount, .int j_riderCount, .int (nI ll_7), .int (nI (hr9 + 1))]))]) [0] (by decide) rfl
    have hK9 := hK.sub (tys' := []) [] rfl
    refine W.widen (k := 0) (n := 0) (Nat.le_of_ble_eq_true rfl) (Nat.le_of_ble_eq_true rfl) ?_
    exact W.iret (v := nI (hr9 + 1)) hx hb hr (fun t9 ht hW => ⟨⟨_, nI (hr9 + 1), rfl, rfl, f_15, ll_7, (hr9 + 1), hT, (by have h9 := (nI_ltN (n := 9999) c_1 (by omega) (by decide)); exact ⟨by omega, by omega, (Or.inr ⟨rfl, rfl, (nI_ltN (n := 9999) c_1 (by omega) (by decide))⟩)⟩), by rw [ht]; exact hP9, va_K.moved hW.alike hK9, hD9⟩, hS.F ht⟩) hS.2.2 dX8_next_42
  · refine lv_iconst (v := (-1)) hx hb dX8_next_10 (by decide) ?_
    have hP9 := hP.part (cx := [(h0, .inr (8, [.ref a1, .ref a2, .ref a3, .ref a4, .ref a5, .ref a6, .ref a7, .ref a8, .ref a9, .int j_faultKind, .int j_horseCount, .int j_tabletCount, .int j_riderCount, .int (nI ll9), .int (nI hr9)]))]) [0] rfl
    have hD9 := hD.part (cx := [(h0, .inr (8, [.ref a1, .ref a2, .ref a3, .ref a4, .ref a5, .ref a6, .ref a7, .ref a8, .ref a9, .int j_faultKind, .int j_horseCount, .int j_tabletCount, .int j_riderCount, .int (nI ll9), .int (nI hr9)]))]) [0] (by decide) rfl
    have hK9 := hK.sub (tys' := []) [] rfl
    refine W.widen (k := 0) (n := 0) (Nat.le_of_ble_eq_true rfl) (Nat.le_of_ble_eq_true rfl) ?_
    exact W.iret (v := (-1)) hx hb hr (fun t9 ht hW => ⟨⟨_, (-1), rfl, rfl, f, ll9, hr9, hT, ⟨by omega, by omega, (Or.inl ⟨rfl, rfl, (nI_geN (m := 9999) (Int32.not_lt.mp c_1) (by decide) (by omega))⟩)⟩, by rw [ht]; exact hP9, va_K.moved hW.alike hK9, hD9⟩, hS.F ht⟩) hS.2.2 dX8_next_11
