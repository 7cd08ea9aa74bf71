set_option maxHeartbeats 4000000 in
set_option maxRecDepth 100000 in
theorem e_X8_carryVoids (l : Launch) (dC : Nat → ClassId) (dI : Nat → Nat → Nat) (cs : Nat → ClassId) (L : List Nat) (ka : Nat → Nat) (ix : Nat → Nat) (ad : Nat → Nat → Nat) (n0 : Nat) (n6 : Nat) (n2 : Nat) (S : Nat → Nat → Nat → Int32) (f : Nat → va_E) (gq : Nat) (h0 : Nat) (a1 : Nat) (a2 : Nat) (a3 : Nat) (a4 : Nat) (a5 : Nat) (a6 : Nat) (a7 : Nat) (a8 : Nat) (a9 : Nat) (j_faultKind : Int32) (j_horseCount : Int32) (j_tabletCount : Int32) (j_riderCount : Int32) (j_lineLength : Int32) (j_hour : Int32) (p0 : Int32) (p1 : Int32) (p2 : Int32) (sz : Nat) (hT : tB L ka ix ad cs n0 n6 n2 S f) (hY : yX L ka ix ad gq a2 a3 a4 a5 a6 a7 a8 a9) : Met l yX8_carryVoids wsX8_carryVoids ({ frames := 3, cells := 0, slots := 0, locals := 64 }) (va_Pc [.ref h0, .int p0, .int p1, .int p2] (cP dC dI ([(h0, .inr (8, [.ref a1, .ref a2, .ref a3, .ref a4, .ref a5, .ref a6, .ref a7, .ref a8, .ref a9, .int j_faultKind, .int j_horseCount, .int j_tabletCount, .int j_riderCount, .int j_lineLength, .int j_hour]))] ++ va_pl L f) (tyC cs) sz)) (va_Qv (fun (_ : Unit) => True) (fun (_ : Unit) t9 => ∃ (S2 : Nat → Nat → Nat → Int32) (f2 : Nat → va_E), (tB L ka ix ad cs n0 n6 n2 S2 f2) ∧ (FR S S2) ∧ (S2 = cvK S n6 p0 p1 p2 j_hour 20) ∧ cQ dC dI ([(h0, .inr (8, [.ref a1, .ref a2, .ref a3, .ref a4, .ref a5, .ref a6, .ref a7, .ref a8, .ref a9, .int j_faultKind, .int j_horseCount, .int j_tabletCount, .int j_riderCount, .int j_lineLength, .int j_hour]))] ++ va_pl L f2) [] (va_A ([(h0, .inr (8, [.ref a1, .ref a2, .ref a3, .ref a4, .ref a5, .ref a6, .ref a7, .ref a8, .ref a9, .int j_faultKind, .int j_horseCount, .int j_tabletCount, .int j_riderCount, .int j_lineLength, .int j_hour]))] ++ va_pl L f) sz) t9) (va_A ([(h0, .inr (8, [.ref a1, .ref a2, .ref a3, .ref a4, .ref a5, .ref a6, .ref a7, .ref a8, .ref a9, .int j_faultKind, .int j_horseCount, .int j_tabletCount, .int j_riderCount, .int j_lineLength, .int j_hour]))] ++ va_pl L f) sz)) 0 0 (va_A ([(h0, .inr (8, [.ref a1, .ref a2, .ref a3, .ref a4, .ref a5, .ref a6, .ref a7, .ref a8, .ref a9, .int j_faultKind, .int j_horseCount, .int j_tabletCount, .int j_riderCount, .int j_lineLength, .int j_hour]))] ++ va_pl L f) sz) := by
  refine Met.ofW (cc := cX8_carryVoids) (maxL := 8) (ret := none) (by decide) rfl ?_
  intro p e s m args below meth c s₁ B hml hv
  obtain ⟨rfl, hsz, hP, hK, hD0, hN⟩ := hv
  have hx := B.exec
  have hb := B.bytes
  have hr := B.returns
  have hts := atoms_spec (ws := wsX8_carryVoids) B.pre
  have hown : s.vm.findClass RX8 = some m.cls := findClass_of_methodNamed B.named
  have hlocks := B.notSynchronized
  subst hsz
  have hin8 : ∀ w ∈ u_ws RX8 TX8 15, w ∈ wsX8_carryVoids := by decide +kernel
  have hD := hD0.self (sz := s.heap.size)
  generalize hAe : va_A ([(h0, .inr (8, [.ref a1, .ref a2, .ref a3, .ref a4, .ref a5, .ref a6, .ref a7, .ref a8, .ref a9, .int j_faultKind, .int j_horseCount, .int j_tabletCount, .int j_riderCount, .int j_lineLength, .int j_hour]))] ++ va_pl L f) s.heap.size = A at hD ⊢
  have hA : ∀ q : Nat, s.heap.size ≤ q → A q := fun q h => by rw [← hAe]; exact Or.inr h
  have hS : va_S A s.heap s.heap [] := va_S.rf
  have hP : va_P (dC, dI) vwCl ([(h0, .inr (8, [.ref a1, .ref a2, .ref a3, .ref a4, .ref a5, .ref a6, .ref a7, .ref a8, .ref a9, .int j_faultKind, .int j_horseCount, .int j_tabletCount, .int j_riderCount, .int j_lineLength, .int j_hour]))] ++ va_pl L f) s.heap := hP
  have hl := lv_entry ([.ref h0, .int p0, .int p1, .int p2]) (n := 8) (Nat.le_of_ble_eq_true rfl)
  rw [lg_entry_eq]
  generalize (lg_sl ([.ref h0, .int p0, .int p1, .int p2]) ++ List.replicate (8 - (lg_sl ([.ref h0, .int p0, .int p1, .int p2])).length) Slot.unset).toArray = ls at hl ⊢
  have hl : lv_has ls 8 [(0, .ref h0), (1, .int p0), (2, .int p1), (3, .int p2)] := hl
  refine lv_aload_n hx hb dX8_carryVoids_0 rfl (lv_at hl 0 rfl) ?_
  refine va_get (D := (dC, dI)) (ci := 8) (v := .ref a6) (C := RX8) (T := TX8) (N := 15) hx hb hts hin8 hown hK hP 0 rfl rfl 5 (by decide) (hts (.fieldLink RX8 42 "YamRiders" "tablets" "[LYamRiders$Tablet;") (by decide +kernel)) (fun _ h9 => h9) rfl dX8_carryVoids_1 ?_
  refine lv_astore (lv' := [(4, .ref a6), (0, .ref h0), (1, .int p0), (2, .int p1), (3, .int p2)]) hx hb dX8_carryVoids_4 hl (by decide) rfl (fun ls hl => ?_)
  refine lv_aload hx hb dX8_carryVoids_6 (lv_at hl 0 rfl) ?_
  have hf_1 : f a6 = .inl (cs 4, 20, .inr (.inr (.inr (.inr (gl ad 6 n6))))) := hT.get hY.2.2.2.2.1
  obtain ⟨q_2, hq_2⟩ := pl_at (X := [(h0, .inr (8, [.ref a1, .ref a2, .ref a3, .ref a4, .ref a5, .ref a6, .ref a7, .ref a8, .ref a9, .int j_faultKind, .int j_horseCount, .int j_tabletCount, .int j_riderCount, .int j_lineLength, .int j_hour]))]) (f := f) (e := .inl (cs 4, 20, .inr (.inr (.inr (.inr (gl ad 6 n6)))))) hY.2.2.2.2.1.1 hf_1
  refine va_alen (v := 20) hx hb hK hP q_2 4 hq_2 rfl rfl dX8_carryVoids_8 ?_
  refine lv_istore (lv' := [(5, .int 20), (4, .ref a6), (0, .ref h0), (1, .int p0), (2, .int p1), (3, .int p2)]) hx hb dX8_carryVoids_9 hl (by decide) rfl (fun ls hl => ?_)
  refine lv_iconst (v := 0) hx hb dX8_carryVoids_11 (by decide) ?_
  refine lv_istore (lv' := [(6, .int 0), (5, .int 20), (4, .ref a6), (0, .ref h0), (1, .int p0), (2, .int p1), (3, .int p2)]) hx hb dX8_carryVoids_12 hl (by decide) rfl (fun ls hl => ?_)
  have HL : ∀ (n k : Nat) (S8 : Nat → Nat → Nat → Int32), k ≤ 20 → 20 + 1 ≤ k + n → (FR S S8) → (S8 = cvK S n6 p0 p1 p2 j_hour k) → ∀ (f_3 : Nat → va_E) (H : Heap) (locs : List Loc), tB L ka ix ad cs n0 n6 n2 S8 f_3 → va_P (dC, dI) vwCl ([(h0, .inr (8, [.ref a1, .ref a2, .ref a3, .ref a4, .ref a5, .ref a6, .ref a7, .ref a8, .ref a9, .int j_faultKind, .int j_horseCount, .int j_tabletCount, .int j_riderCount, .int j_lineLength, .int j_hour]))] ++ va_pl L f_3) H → va_D A ([(h0, .inr (8, [.ref a1, .ref a2, .ref a3, .ref a4, .ref a5, .ref a6, .ref a7, .ref a8, .ref a9, .int j_faultKind, .int j_horseCount, .int j_tabletCount, .int j_riderCount, .int j_lineLength, .int j_hour]))] ++ va_pl L f_3) → va_S A s.heap H locs → ∀ ls : Array Slot, lv_has ls 8 [(0, .ref h0), (1, .int p0), (2, .int p1), (3, .int p2), (4, .ref a6), (5, .int 20), (6, .int (nI k))] → W p l e (headSpec wsX8_carryVoids ({ frames := 3, cells := 0, slots := 0, locals := 64 })).room s m ([.ref h0, .int p0, .int p1, .int p2]).toArray below meth c H locs 0 0 (MQ below (va_Qv (fun (_ : Unit) => True) (fun (_ : Unit) t9 => ∃ (S2 : Nat → Nat → Nat → Int32) (f2 : Nat → va_E), (tB L ka ix ad cs n0 n6 n2 S2 f2) ∧ (FR S S2) ∧ (S2 = cvK S n6 p0 p1 p2 j_hour 20) ∧ cQ dC dI ([(h0, .inr (8, [.ref a1, .ref a2, .ref a3, .ref a4, .ref a5, .ref a6, .ref a7, .ref a8, .ref a9, .int j_faultKind, .int j_horseCount, .int j_tabletCount, .int j_riderCount, .int j_lineLength, .int j_hour]))] ++ va_pl L f2) [] A t9) A) ([.ref h0, .int p0, .int p1, .int p2]).toArray s 0 0 A) (F0 m 14 ls []) := by
    intro n
    induction n with
    | zero => intro k S8 h1 h2; exact absurd h2 (by omega)
    | succ n ih =>
      intro k S8 hk hn hFrS8 hit f_3 H locs hT hP hD hS ls hl
      refine lv_iload hx hb dX8_carryVoids_14 (lv_at hl 6 rfl) ?_
      refine lv_iload hx hb dX8_carryVoids_16 (lv_at hl 5 rfl) ?_
      refine lv_icmp_ge (tgt := 60) hx hb dX8_carryVoids_18 (by decide) (fun c_4 => ?_) (fun c_4 => ?_)
      · have hke : k = 20 := by
          rcases Nat.lt_or_ge k 20 with q | q
          · exact absurd c_4 (nI_ge q (by decide))
          · omega
        have hP9 := hP.part (cx := [(h0, .inr (8, [.ref a1, .ref a2, .ref a3, .ref a4, .ref a5, .ref a6, .ref a7, .ref a8, .ref a9, .int j_faultKind, .int j_horseCount, .int j_tabletCount, .int j_riderCount, .int j_lineLength, .int j_hour]))]) [0] rfl
        have hD9 := hD.part (cx := [(h0, .inr (8, [.ref a1, .ref a2, .ref a3, .ref a4, .ref a5, .ref a6, .ref a7, .ref a8, .ref a9, .int j_faultKind, .int j_horseCount, .int j_tabletCount, .int j_riderCount, .int j_lineLength, .int j_hour]))]) [0] (by decide) rfl
        have hK9 := hK.sub (tys' := []) [] rfl
        refine W.widen (k := 0) (n := 0) (Nat.le_of_ble_eq_true rfl) (Nat.le_of_ble_eq_true rfl) ?_
        exact W.vret hx hb hr (fun t9 ht hW => ⟨⟨(), rfl, trivial, S8, f_3, hT, hFrS8, (hke ▸ hit), by rw [ht]; exact hP9, va_K.moved hW.alike hK9, hD9⟩, hS.F ht⟩) hS.2.2 dX8_carryVoids_60
      · have hlt : k < 20 := by
          rcases Nat.lt_or_ge k 20 with q | q
          · exact q
          · exact absurd (show nI 20 ≤ nI k from nI_le q (by omega)) c_4
        refine lv_aload hx hb dX8_carryVoids_21 (lv_at hl 4 rfl) ?_
        refine lv_iload hx hb dX8_carryVoids_23 (lv_at hl 6 rfl) ?_
        have hf_5 : f_3 a6 = .inl (cs 4, 20, .inr (.inr (.inr (.inr (gl ad 6 n6))))) := hT.get hY.2.2.2.2.1
        obtain ⟨q_6, hq_6⟩ := pl_at (X := [(h0, .inr (8, [.ref a1, .ref a2, .ref a3, .ref a4, .ref a5, .ref a6, .ref a7, .ref a8, .ref a9, .int j_faultKind, .int j_horseCount, .int j_tabletCount, .int j_riderCount, .int j_lineLength, .int j_hour]))]) (f := f_3) (e := .inl (cs 4, 20, .inr (.inr (.inr (.inr (gl ad 6 n6)))))) hY.2.2.2.2.1.1 hf_5
        refine va_aldq hx hb hK hP q_6 4 hq_6 rfl (vp_in_nI (by omega) (by omega)) dX8_carryVoids_25 ?_
        by_cases c_7 : k < n6
        · rw [show gl ad 6 n6 (nI k).toNatClampNeg = some (ad 6 k) from by rw [(nI_clamp (by omega))]; exact gl_p c_7]
          refine W.eq (g2 := F0 m 26 ls [.ref (ad 6 k)]) rfl ?_
          refine lv_astore (lv' := [(7, .ref (ad 6 k)), (0, .ref h0), (1, .int p0), (2, .int p1), (3, .int p2), (4, .ref a6), (5, .int 20), (6, .int (nI k))]) hx hb dX8_carryVoids_26 hl (by decide) rfl (fun ls hl => ?_)
          refine lv_aload hx hb dX8_carryVoids_28 (lv_at hl 0 rfl) ?_
          refine lv_ifnull hx hb dX8_carryVoids_30 ?_
          refine lv_aload hx hb dX8_carryVoids_33 (lv_at hl 0 rfl) ?_
          refine lv_iload_n hx hb dX8_carryVoids_35 rfl (lv_at hl 2 rfl) ?_
          refine lv_iload_n hx hb dX8_carryVoids_36 rfl (lv_at hl 4 rfl) ?_
          have hPc := hP.part (cx := []) [] rfl
          have hDc := hD.part (cx := []) [] (by decide) rfl
          have hKc := hK
          have hf_8 : f_3 (ad 6 k) = .inr (6, [.int (S8 96 k 0), .ref (ad 35 k)]) := hT.get (hT.k6 (i := k) (by omega))
          obtain ⟨q_9, hq_9⟩ := pl_at (X := []) (f := f_3) (e := .inr (6, [.int (S8 96 k 0), .ref (ad 35 k)])) (hT.k6 (i := k) (by omega)).1 hf_8
          refine cs_i (va_runV (As := [.int p0, .int p2]) (rest := []) ⟨hx, hb, hml, hown, hts⟩ (e_X6_wasVoid l dC dI cs L ka ix ad n0 n6 n2 S8 f_3 k (ad 6 k) p0 p2 H.size hT (hT.k6 (i := k) (by omega)) (by omega)) (cwV 2 hts gX8_carryVoids_X6_wasVoid rfl rfl rfl (by decide +kernel) ⟨Nat.le_of_ble_eq_true rfl, Nat.le_of_ble_eq_true rfl⟩) ⟨c_blind, va_recv hKc hPc (ci := 6) (q0 := q_9) rfl hq_9, c_pre hPc hKc hDc hN⟩ rfl rfl hl.1 rfl (lv_room (Nat.le_of_ble_eq_true rfl)) dX8_carryVoids_37 ⟨Nat.le_of_ble_eq_true rfl, Nat.le_of_ble_eq_true rfl⟩) (fun r_10 hr_10 => ?_)
          subst hr_10
          refine lv_if_eq (tgt := 54) hx hb dX8_carryVoids_40 (by decide) (fun c_11 => ?_) (fun c_11 => ?_)
          · refine lv_iinc (v := nI (k + 1)) (lv' := [(6, .int (nI (k + 1))), (7, .ref (ad 6 k)), (0, .ref h0), (1, .int p0), (2, .int p1), (3, .int p2), (4, .ref a6), (5, .int 20)]) hx hb dX8_carryVoids_54 hl (k := 7) rfl (by exact (nI_1 k)) (by decide) rfl (fun ls hl => ?_)
            refine lv_goto (tgt := 14) hx hb dX8_carryVoids_57 (by decide) ?_
            exact ih (k + 1) S8 (by omega) (by omega) hFrS8 (cvK_s hit (by unfold cv1; rw [if_pos c_7, if_pos c_11])) _ _ _ hT (hP.part (cx := _) [0] rfl) (hD.part (cx := _) [0] (by decide) rfl) hS ls (lv_sub hl [2, 3, 4, 5, 6, 7, 0] rfl)
          · refine lv_aload hx hb dX8_carryVoids_43 (lv_at hl 0 rfl) ?_
            refine lv_iload_n hx hb dX8_carryVoids_45 rfl (lv_at hl 3 rfl) ?_
            refine lv_aload_n hx hb dX8_carryVoids_46 rfl (lv_at hl 1 rfl) ?_
            refine va_get (D := (dC, dI)) (ci := 8) (v := .int j_hour) (C := RX8) (T := TX8) (N := 15) hx hb hts hin8 hown hK hP 0 rfl rfl 14 (by decide) (hts (.fieldLink RX8 140 "YamRiders" "hour" "I") (by decide +kernel)) (fun _ h9 => h9) rfl dX8_carryVoids_47 ?_
            have hPc := hP.part (cx := []) [] rfl
            have hDc := hD.part (cx := []) [] (by decide) rfl
            have hKc := hK
            have hFc := va_freeP (cx := []) hD hS hA [] rfl
            obtain ⟨q_12, hq_12⟩ := pl_at (X := []) (f := f_3) (e := .inr (6, [.int (S8 96 k 0), .ref (ad 35 k)])) (hT.k6 (i := k) (by omega)).1 hf_8
            refine va_calli (va_runV (As := [.int p1, .int j_hour]) (rest := []) ⟨hx, hb, hml, hown, hts⟩ (e_X6_tellVoid l dC dI cs L ka ix ad n0 n6 n2 S8 f_3 k (ad 6 k) p1 j_hour H.size hT (hT.k6 (i := k) (by omega)) (by omega)) (cwV 2 hts gX8_carryVoids_X6_tellVoid rfl rfl rfl (by decide +kernel) ⟨Nat.le_of_ble_eq_true rfl, Nat.le_of_ble_eq_true rfl⟩) ⟨c_blind, va_recv hKc hPc (ci := 6) (q0 := q_12) rfl hq_12, c_pre hPc hKc hDc hN⟩ rfl rfl hl.1 rfl (lv_room (Nat.le_of_ble_eq_true rfl)) dX8_carryVoids_50 ⟨Nat.le_of_ble_eq_true rfl, Nat.le_of_ble_eq_true rfl⟩) hS (fun q _ h => hFc q h) hFc (fun r_13 u9 t9 H1 locs ht hvm hw hB hz1 hk1 hS => ?_)
            obtain ⟨S_14, f_15, hf_x_16, hf_x_17, hf_x_18, hP1, hK1, hD1⟩ := hB
            rw [ht] at hP1
            have hK1 := va_K.moved hvm.symm hK1
            obtain ⟨hP, hD⟩ := va_joinP (X := [(h0, .inr (8, [.ref a1, .ref a2, .ref a3, .ref a4, .ref a5, .ref a6, .ref a7, .ref a8, .ref a9, .int j_faultKind, .int j_horseCount, .int j_tabletCount, .int j_riderCount, .int j_lineLength, .int j_hour]))]) (cx := []) (wr := [(h0, .inr (8, [.ref a1, .ref a2, .ref a3, .ref a4, .ref a5, .ref a6, .ref a7, .ref a8, .ref a9, .int j_faultKind, .int j_horseCount, .int j_tabletCount, .int j_riderCount, .int j_lineLength, .int j_hour]))]) (rx := []) (pl := va_pl L f_3) (pl1 := va_pl L f_15) hP hD [] [0] rfl rfl (by decide) (by decide) hk1 hFc hP1 hD1
            have hT := hf_x_16
            generalize H1 = H at hP hS ⊢
            have hP : va_P (dC, dI) vwCl ([(h0, .inr (8, [.ref a1, .ref a2, .ref a3, .ref a4, .ref a5, .ref a6, .ref a7, .ref a8, .ref a9, .int j_faultKind, .int j_horseCount, .int j_tabletCount, .int j_riderCount, .int j_lineLength, .int j_hour]))] ++ va_pl L f_15) H := hP
            have hD : va_D A ([(h0, .inr (8, [.ref a1, .ref a2, .ref a3, .ref a4, .ref a5, .ref a6, .ref a7, .ref a8, .ref a9, .int j_faultKind, .int j_horseCount, .int j_tabletCount, .int j_riderCount, .int j_lineLength, .int j_hour]))] ++ va_pl L f_15) := hD
            have hFr_19 := FR.tr hFrS8 hf_x_17
            refine W.widen (k := 0) (n := 0) (Nat.le_of_ble_eq_true rfl) (Nat.le_of_ble_eq_true rfl) ?_
            try dsimp only at hw
            subst hw
            refine lv_pop hx hb dX8_carryVoids_53 rfl ?_
            refine lv_iinc (v := nI (k + 1)) (lv' := [(6, .int (nI (k + 1))), (7, .ref (ad 6 k)), (0, .ref h0), (1, .int p0), (2, .int p1), (3, .int p2), (4, .ref a6), (5, .int 20)]) hx hb dX8_carryVoids_54 hl (k := 7) rfl (by exact (nI_1 k)) (by decide) rfl (fun ls hl => ?_)
            refine lv_goto (tgt := 14) hx hb dX8_carryVoids_57 (by decide) ?_
            exact ih (k + 1) S_14 (by omega) (by omega) hFr_19 (cvK_s hit (by unfold cv1; rw [if_pos c_7, if_neg c_11]; exact hf_x_18.1)) _ _ _ hT (hP.part (cx := _) [0] rfl) (hD.part (cx := _) [0] (by decide) rfl) hS ls (lv_sub hl [2, 3, 4, 5, 6, 7, 0] rfl)
        · rw [show gl ad 6 n6 (nI k).toNatClampNeg = none from by rw [(nI_clamp (by omega))]; exact gl_n c_7]
          refine W.eq (g2 := F0 m 26 ls [.null]) rfl ?_
          refine lv_astoreN (lv' := [(7, .null), (0, .ref h0), (1, .int p0), (2, .int p1), (3, .int p2), (4, .ref a6), (5, .int 20), (6, .int (nI k))]) hx hb dX8_carryVoids_26 hl (by decide) rfl (fun ls hl => ?_)
          refine lv_aloadN hx hb dX8_carryVoids_28 (lv_at hl 0 rfl) ?_
          refine lv_ifnullN (tgt := 54) hx hb dX8_carryVoids_30 (by decide) ?_
          refine lv_iinc (v := nI (k + 1)) (lv' := [(6, .int (nI (k + 1))), (7, .null), (0, .ref h0), (1, .int p0), (2, .int p1), (3, .int p2), (4, .ref a6), (5, .int 20)]) hx hb dX8_carryVoids_54 hl (k := 7) rfl (by exact (nI_1 k)) (by decide) rfl (fun ls hl => ?_)
          refine lv_goto (tgt := 14) hx hb dX8_carryVoids_57 (by decide) ?_
          exact ih (k + 1) S8 (by omega) (by omega) hFrS8 (cvK_s hit (by unfold cv1; rw [if_neg c_7])) _ _ _ hT (hP.part (cx := _) [0] rfl) (hD.part (cx := _) [0] (by decide) rfl) hS ls (lv_sub hl [2, 3, 4, 5, 6, 7, 0] rfl)
  exact HL 21 0 S (by omega) (by omega) FR.rf rfl _ _ _ hT (hP.part (cx := _) [0] rfl) (hD.part (cx := _) [0] (by decide) rfl) hS ls (lv_sub hl [3, 4, 5, 6, 2, 1, 0] rfl)

set_option maxHeartbeats 4000000 in
set_option maxRecDepth 100000 in
theorem e_X8_bring (l : Launch) (dC : Nat → ClassId) (dI : Nat → Nat → Nat) (cs : Nat → ClassId) (L : List Nat) (ka : Nat → Nat) (ix : Nat → Nat) (ad : Nat → Nat → Nat) (n0 : Nat) (n6 : Nat) (n2 : Nat) (S : Nat → Nat → Nat → Int32) (f : Nat → va_E) (gq : Nat) (i9 : Nat) (i8 : Nat) (h0 : Nat) (a1 : Nat) (a2 : Nat) (a3 : Nat) (a4 : Nat) (a5 : Nat) (a6 : Nat) (a7 : Nat) (a8 : Nat) (a9 : Nat) (j_faultKind : Int32) (j_horseCount : Int32) (j_tabletCount : Int32) (j_riderCount : Int32) (j_lineLength : Int32) (j_hour : Int32) (e1 : Nat) (e2 : Nat) (sz : Nat) (hT : tB L ka ix ad cs n0 n6 n2 S f) (hY : yX L ka ix ad gq a2 a3 a4 a5 a6 a7 a8 a9) (hk_e1 : tpx L ka ix 2 i9 e1) (hk_e2 : tpx L ka ix 0 i8 e2) (hlt_i9 : i9 < n2) (hlt_i8 : i8 < n0) : Met l yX8_bring wsX8_bring ({ frames := 4, cells := 0, slots := 0, locals := 91 }) (va_Pc [.ref h0, .ref e1, .ref e2] (cP dC dI ([(h0, .inr (8, [.ref a1, .ref a2, .ref a3, .ref a4, .ref a5, .ref a6, .ref a7, .ref a8, .ref a9, .int j_faultKind, .int j_horseCount, .int j_tabletCount, .int j_riderCount, .int j_lineLength, .int j_hour]))] ++ va_pl L f) (tyC cs) sz)) (va_Qv (fun (_ : Unit) => True) (fun (_ : Unit) t9 => ∃ (S2 : Nat → Nat → Nat → Int32) (f2 : Nat → va_E), (tB L ka ix ad cs n0 n6 n2 S2 f2) ∧ (FR S S2) ∧ (S2 = brS S gq n6 j_hour i9 i8) ∧ cQ dC dI ([(h0, .inr (8, [.ref a1, .ref a2, .ref a3, .ref a4, .ref a5, .ref a6, .ref a7, .ref a8, .ref a9, .int j_faultKind, .int j_horseCount, .int j_tabletCount, .int j_riderCount, .int j_lineLength, .int j_hour]))] ++ va_pl L f2) [] (va_A ([(h0, .inr (8, [.ref a1, .ref a2, .ref a3, .ref a4, .ref a5, .ref a6, .ref a7, .ref a8, .ref a9, .int j_faultKind, .int j_horseCount, .int j_tabletCount, .int j_riderCount, .int j_lineLength, .int j_hour]))] ++ va_pl L f) sz) t9) (va_A ([(h0, .inr (8, [.ref a1, .ref a2, .ref a3, .ref a4, .ref a5, .ref a6, .ref a7, .ref a8, .ref a9, .int j_faultKind, .int j_horseCount, .int j_tabletCount, .int j_riderCount, .int j_lineLength, .int j_hour]))] ++ va_pl L f) sz)) 0 0 (va_A ([(h0, .inr (8, [.ref a1, .ref a2, .ref a3, .ref a4, .ref a5, .ref a6, .ref a7, .ref a8, .ref a9, .int j_faultKind, .int j_horseCount, .int j_tabletCount, .int j_riderCount, .int j_lineLength, .int j_hour]))] ++ va_pl L f) sz) := by
  refine Met.ofW (cc := cX8_bring) (maxL := 4) (ret := none) (by decide) rfl ?_
  intro p e s m args below meth c s₁ B hml hv
  obtain ⟨rfl, hsz, hP, hK, hD0, hN⟩ := hv
  have hx := B.exec
  have hb := B.bytes
  have hr := B.returns
  have hts := atoms_spec (ws := wsX8_bring) B.pre
  have hown : s.vm.findClass RX8 = some m.cls := findClass_of_methodNamed B.named
  have hlocks := B.notSynchronized
  subst hsz
  have hin0 : ∀ w ∈ u_ws RX0 TX0 3, w ∈ wsX8_bring := by decide +kernel
  have hin2 : ∀ w ∈ u_ws RX2 TX2 10, w ∈ wsX8_bring := by decide +kernel
  have hin8 : ∀ w ∈ u_ws RX8 TX8 15, w ∈ wsX8_bring := by decide +kernel
  have hD := hD0.self (sz := s.heap.size)
  generalize hAe : va_A ([(h0, .inr (8, [.ref a1, .ref a2, .ref a3, .ref a4, .ref a5, .ref a6, .ref a7, .ref a8, .ref a9, .int j_faultKind, .int j_horseCount, .int j_tabletCount, .int j_riderCount, .int j_lineLength, .int j_hour]))] ++ va_pl L f) s.heap.size = A at hD ⊢
  have hA : ∀ q : Nat, s.heap.size ≤ q → A q := fun q h => by rw [← hAe]; exact Or.inr h
  have hS : va_S A s.heap s.heap [] := va_S.rf
  have hP : va_P (dC, dI) vwCl ([(h0, .inr (8, [.ref a1, .ref a2, .ref a3, .ref a4, .ref a5, .ref a6, .ref a7, .ref a8, .ref a9, .int j_faultKind, .int j_horseCount, .int j_tabletCount, .int j_riderCount, .int j_lineLength, .int j_hour]))] ++ va_pl L f) s.heap := hP
  have hl := lv_entry ([.ref h0, .ref e1, .ref e2]) (n := 4) (Nat.le_of_ble_eq_true rfl)
  rw [lg_entry_eq]
  generalize (lg_sl ([.ref h0, .ref e1, .ref e2]) ++ List.replicate (4 - (lg_sl ([.ref h0, .ref e1, .ref e2])).length) Slot.unset).toArray = ls at hl ⊢
  have hl : lv_has ls 4 [(0, .ref h0), (1, .ref e1), (2, .ref e2)] := hl
  refine lv_aload_n hx hb dX8_bring_0 rfl (lv_at hl 1 rfl) ?_
  have hPc := hP.part (cx := []) [] rfl
  have hDc := hD.part (cx := []) [] (by decide) rfl
  have hKc := hK
  have hf_1 : f e1 = .inr (2, [.int (S 32 i9 0), .int (S 33 i9 0), .ref (ad 37 i9), .ref (ad 36 i9), .int (S 36 i9 0), .int (S 37 i9 0), .int (S 38 i9 0), va_rf (oq ad 0 (S 39 i9 0)), .int (S 40 i9 0), .int (S 41 i9 0)]) := hT.get hk_e1
  obtain ⟨q_2, hq_2⟩ := pl_at (X := []) (f := f) (e := .inr (2, [.int (S 32 i9 0), .int (S 33 i9 0), .ref (ad 37 i9), .ref (ad 36 i9), .int (S 36 i9 0), .int (S 37 i9 0), .int (S 38 i9 0), va_rf (oq ad 0 (S 39 i9 0)), .int (S 40 i9 0), .int (S 41 i9 0)])) hk_e1.1 hf_1
  refine cs_i (va_runV (As := []) (rest := []) ⟨hx, hb, hml, hown, hts⟩ (e_X2_nextStation l dC dI cs L ka ix ad n0 n6 n2 S f i9 e1 s.heap.size hT hk_e1 (by omega)) (cwV 0 hts gX8_bring_X2_nextStation rfl rfl rfl (by decide +kernel) ⟨Nat.le_of_ble_eq_true rfl, Nat.le_of_ble_eq_true rfl⟩) ⟨c_blind, va_recv hKc hPc (ci := 2) (q0 := q_2) rfl hq_2, c_pre hPc hKc hDc hN⟩ rfl rfl hl.1 rfl (lv_room (Nat.le_of_ble_eq_true rfl)) dX8_bring_1 ⟨Nat.le_of_ble_eq_true rfl, Nat.le_of_ble_eq_true rfl⟩) (fun r_3 hr_3 => ?_)
  subst hr_3
  refine lv_istore_n (lv' := [(3, .int (sSW S i9 (S 37 i9 0))), (0, .ref h0), (1, .ref e1), (2, .ref e2)]) hx hb dX8_bring_4 rfl hl (by decide) rfl (fun ls hl => ?_)
  refine lv_aload_n hx hb dX8_bring_5 rfl (lv_at hl 3 rfl) ?_
  refine lv_aload_n hx hb dX8_bring_6 rfl (lv_at hl 1 rfl) ?_
  refine va_get (D := (dC, dI)) (ci := 8) (v := .ref a9) (C := RX8) (T := TX8) (N := 15) hx hb hts hin8 hown hK hP 0 rfl rfl 8 (by decide) (hts (.fieldLink RX8 58 "YamRiders" "law" "LYamRiders$Statutes;") (by decide +kernel)) (fun _ h9 => h9) rfl dX8_bring_7 ?_
  have hPc := hP.part (cx := []) [] rfl
  have hDc := hD.part (cx := []) [] (by decide) rfl
  have hKc := hK
  have hf_4 : f a9 = .inr (5, [.ref (ad 14 gq)]) := hT.get hY.2.2.2.2.2.2.2.1
  obtain ⟨q_5, hq_5⟩ := pl_at (X := []) (f := f) (e := .inr (5, [.ref (ad 14 gq)])) hY.2.2.2.2.2.2.2.1.1 hf_4
  refine cs_i (va_runV (As := []) (rest := [.ref e2]) ⟨hx, hb, hml, hown, hts⟩ (e_X5_tire l dC dI cs L ka ix ad n0 n6 n2 S f gq a9 s.heap.size hT hY.2.2.2.2.2.2.2.2 hY.2.2.2.2.2.2.2.1) (cwV 0 hts gX8_bring_X5_tire rfl rfl rfl (by decide +kernel) ⟨Nat.le_of_ble_eq_true rfl, Nat.le_of_ble_eq_true rfl⟩) ⟨c_blind, va_recv hKc hPc (ci := 5) (q0 := q_5) rfl hq_5, c_pre hPc hKc hDc hN⟩ rfl rfl hl.1 rfl (lv_room (Nat.le_of_ble_eq_true rfl)) dX8_bring_10 ⟨Nat.le_of_ble_eq_true rfl, Nat.le_of_ble_eq_true rfl⟩) (fun r_6 hr_6 => ?_)
  subst hr_6
  refine lv_aload_n hx hb dX8_bring_13 rfl (lv_at hl 2 rfl) ?_
  obtain ⟨q_7, hq_7⟩ := pl_at (X := [(h0, .inr (8, [.ref a1, .ref a2, .ref a3, .ref a4, .ref a5, .ref a6, .ref a7, .ref a8, .ref a9, .int j_faultKind, .int j_horseCount, .int j_tabletCount, .int j_riderCount, .int j_lineLength, .int j_hour]))]) (f := f) (e := .inr (2, [.int (S 32 i9 0), .int (S 33 i9 0), .ref (ad 37 i9), .ref (ad 36 i9), .int (S 36 i9 0), .int (S 37 i9 0), .int (S 38 i9 0), va_rf (oq ad 0 (S 39 i9 0)), .int (S 40 i9 0), .int (S 41 i9 0)])) hk_e1.1 hf_1
  refine va_getN (D := (dC, dI)) (ci := 2) (v := .int (S 41 i9 0)) (C := RX2) (T := TX2) (N := 10) hx hb hts hin2 hown hK hP q_7 hq_7 rfl 9 (by decide) (hN.nx (.fieldLinkNest RX8 300 "YamRiders$Rider" "time" "I" "YamRiders") (by decide +kernel)) (fun _ h9 => h9) rfl dX8_bring_14 ?_
  refine lv_imul hx hb dX8_bring_17 ?_
  have hPc := hP.part (cx := []) [] rfl
  have hDc := hD.part (cx := []) [] (by decide) rfl
  have hKc := hK
  have hFc := va_freeP (cx := []) hD hS hA [] rfl
  have hf_8 : f e2 = .inr (0, [.int (nI i8), .int (S 1 i8 0), .int (S 2 i8 0)]) := hT.get hk_e2
  obtain ⟨q_9, hq_9⟩ := pl_at (X := []) (f := f) (e := .inr (0, [.int (nI i8), .int (S 1 i8 0), .int (S 2 i8 0)])) hk_e2.1 hf_8
  refine va_callv (va_runV (As := [.int ((S 224 gq 0) * (S 41 i9 0))]) (rest := []) ⟨hx, hb, hml, hown, hts⟩ (e_X0_weaken l dC dI cs L ka ix ad n0 n6 n2 S f i8 e2 ((S 224 gq 0) * (S 41 i9 0)) s.heap.size hT hk_e2 (by omega)) (cwV 1 hts gX8_bring_X0_weaken rfl rfl rfl (by decide +kernel) ⟨Nat.le_of_ble_eq_true rfl, Nat.le_of_ble_eq_true rfl⟩) ⟨c_blind, va_recv hKc hPc (ci := 0) (q0 := q_9) rfl hq_9, c_pre hPc hKc hDc hN⟩ rfl rfl hl.1 rfl (lv_room (Nat.le_of_ble_eq_true rfl)) dX8_bring_18 ⟨Nat.le_of_ble_eq_true rfl, Nat.le_of_ble_eq_true rfl⟩) hS (fun q _ h => hFc q h) hFc (fun u9 t9 H1 locs ht hvm hw hB hz1 hk1 hS => ?_)
  obtain ⟨S_11, f_12, hf_x_13, hf_x_14, hf_x_15, hP1, hK1, hD1⟩ := hB
  rw [ht] at hP1
  have hK1 := va_K.moved hvm.symm hK1
  obtain ⟨hP, hD⟩ := va_joinP (X := [(h0, .inr (8, [.ref a1, .ref a2, .ref a3, .ref a4, .ref a5, .ref a6, .ref a7, .ref a8, .ref a9, .int j_faultKind, .int j_horseCount, .int j_tabletCount, .int j_riderCount, .int j_lineLength, .int j_hour]))]) (cx := []) (wr := [(h0, .inr (8, [.ref a1, .ref a2, .ref a3, .ref a4, .ref a5, .ref a6, .ref a7, .ref a8, .ref a9, .int j_faultKind, .int j_horseCount, .int j_tabletCount, .int j_riderCount, .int j_lineLength, .int j_hour]))]) (rx := []) (pl := va_pl L f) (pl1 := va_pl L f_12) hP hD [] [0] rfl rfl (by decide) (by decide) hk1 hFc hP1 hD1
  have hT := hf_x_13
  generalize H1 = H at hP hS ⊢
  have hP : va_P (dC, dI) vwCl ([(h0, .inr (8, [.ref a1, .ref a2, .ref a3, .ref a4, .ref a5, .ref a6, .ref a7, .ref a8, .ref a9, .int j_faultKind, .int j_horseCount, .int j_tabletCount, .int j_riderCount, .int j_lineLength, .int j_hour]))] ++ va_pl L f_12) H := hP
  have hD : va_D A ([(h0, .inr (8, [.ref a1, .ref a2, .ref a3, .ref a4, .ref a5, .ref a6, .ref a7, .ref a8, .ref a9, .int j_faultKind, .int j_horseCount, .int j_tabletCount, .int j_riderCount, .int j_lineLength, .int j_hour]))] ++ va_pl L f_12) := hD
  have hFr_16 := FR.tr FR.rf hf_x_14
  refine W.widen (k := 0) (n := 0) (Nat.le_of_ble_eq_true rfl) (Nat.le_of_ble_eq_true rfl) ?_
  refine lv_aload_n hx hb dX8_bring_21 rfl (lv_at hl 3 rfl) ?_
  refine lv_iload_n hx hb dX8_bring_22 rfl (lv_at hl 0 rfl) ?_
  have hf_17 : f_12 e2 = .inr (0, [.int (nI i8), .int (S_11 1 i8 0), .int (S_11 2 i8 0)]) := hT.get hk_e2
  obtain ⟨q_18, hq_18⟩ := pl_at (X := [(h0, .inr (8, [.ref a1, .ref a2, .ref a3, .ref a4, .ref a5, .ref a6, .ref a7, .ref a8, .ref a9, .int j_faultKind, .int j_horseCount, .int j_tabletCount, .int j_riderCount, .int j_lineLength, .int j_hour]))]) (f := f_12) (e := .inr (0, [.int (nI i8), .int (S_11 1 i8 0), .int (S_11 2 i8 0)])) hk_e2.1 hf_17
  refine va_putN (D := (dC, dI)) (ci := 0) (v := .int (sSW S i9 (S 37 i9 0))) (ty := (tyX0 1)) (C := RX0) (T := TX0) (N := 3) hx hb hts hin0 tyX0 tyX0_ok nmX0 hown hK hP hD hS q_18 hq_18 rfl 1 (by decide) (hN.nx (.fieldLinkNest RX8 209 "YamRiders$Horse" "station" "I" "YamRiders") (by decide +kernel)) (fun _ h9 => h9) rfl (by decide +kernel) rfl rfl (Nat.le_of_ble_eq_true rfl) dX8_bring_23 (fun H locs hP9 hD9 hS => ?_)
  have hs_19 := pl_st (.inr (0, [.int (nI i8), .int (sSW S i9 (S 37 i9 0)), .int (S_11 2 i8 0)])) hD hk_e2.1 hf_17 hq_18
  have hP9 : va_P (dC, dI) vwCl ((([(h0, .inr (8, [.ref a1, .ref a2, .ref a3, .ref a4, .ref a5, .ref a6, .ref a7, .ref a8, .ref a9, .int j_faultKind, .int j_horseCount, .int j_tabletCount, .int j_riderCount, .int j_lineLength, .int j_hour]))] : va_W) ++ va_pl L f_12).set q_18 (e2, .inr (0, [.int (nI i8), .int (sSW S i9 (S 37 i9 0)), .int (S_11 2 i8 0)]))) H := hP9
  have hD9 : va_D A ((([(h0, .inr (8, [.ref a1, .ref a2, .ref a3, .ref a4, .ref a5, .ref a6, .ref a7, .ref a8, .ref a9, .int j_faultKind, .int j_horseCount, .int j_tabletCount, .int j_riderCount, .int j_lineLength, .int j_hour]))] : va_W) ++ va_pl L f_12).set q_18 (e2, .inr (0, [.int (nI i8), .int (sSW S i9 (S 37 i9 0)), .int (S_11 2 i8 0)]))) := hD9
  rw [hs_19] at hP9 hD9
  have hT := hT.up (c := 1) (j := 0) (v := (sSW S i9 (S 37 i9 0))) (e := .inr (0, [.int (nI i8), .int (sSW S i9 (S 37 i9 0)), .int (S_11 2 i8 0)])) hk_e2 rfl (hT.2.2.up (by decide) (by decide) (by decide)) (by simp [EN, up3])
  have hP := hP9
  have hD := hD9
  clear hP9 hD9 hs_19
  obtain ⟨S_21, eS_21⟩ : ∃ S9 : Nat → Nat → Nat → Int32, S9 = up3 S_11 1 i8 0 (sSW S i9 (S 37 i9 0)) := ⟨_, rfl⟩
  rw [← eS_21] at hT
  generalize va_up f_12 e2 (.inr (0, [.int (nI i8), .int (sSW S i9 (S 37 i9 0)), .int (S_11 2 i8 0)])) = f_20 at hP hD hT
  have hFr_22 : FR S S_21 := by rw [eS_21]; exact FR.up hFr_16 (by decide) (by decide)
  refine lv_aload_n hx hb dX8_bring_26 rfl (lv_at hl 2 rfl) ?_
  refine lv_null hx hb dX8_bring_27 ?_
  have hf_23 : f_20 e1 = .inr (2, [.int (S_21 32 i9 0), .int (S_21 33 i9 0), .ref (ad 37 i9), .ref (ad 36 i9), .int (S_21 36 i9 0), .int (S_21 37 i9 0), .int (S_21 38 i9 0), va_rf (oq ad 0 (S_21 39 i9 0)), .int (S_21 40 i9 0), .int (S_21 41 i9 0)]) := hT.get hk_e1
  obtain ⟨q_24, hq_24⟩ := pl_at (X := [(h0, .inr (8, [.ref a1, .ref a2, .ref a3, .ref a4, .ref a5, .ref a6, .ref a7, .ref a8, .ref a9, .int j_faultKind, .int j_horseCount, .int j_tabletCount, .int j_riderCount, .int j_lineLength, .int j_hour]))]) (f := f_20) (e := .inr (2, [.int (S_21 32 i9 0), .int (S_21 33 i9 0), .ref (ad 37 i9), .ref (ad 36 i9), .int (S_21 36 i9 0), .int (S_21 37 i9 0), .int (S_21 38 i9 0), va_rf (oq ad 0 (S_21 39 i9 0)), .int (S_21 40 i9 0), .int (S_21 41 i9 0)])) hk_e1.1 hf_23
  refine va_putN (D := (dC, dI)) (ci := 2) (v := .null) (ty := (tyX2 7)) (C := RX2) (T := TX2) (N := 10) hx hb hts hin2 tyX2 tyX2_ok nmX2 hown hK hP hD hS q_24 hq_24 rfl 7 (by decide) (hN.nx (.fieldLinkNest RX8 293 "YamRiders$Rider" "horse" "LYamRiders$Horse;" "YamRiders") (by decide +kernel)) (fun _ h9 => h9) rfl (by decide +kernel) rfl rfl (Nat.le_of_ble_eq_true rfl) dX8_bring_28 (fun H locs hP9 hD9 hS => ?_)
  have hs_25 := pl_st (.inr (2, [.int (S_21 32 i9 0), .int (S_21 33 i9 0), .ref (ad 37 i9), .ref (ad 36 i9), .int (S_21 36 i9 0), .int (S_21 37 i9 0), .int (S_21 38 i9 0), .null, .int (S_21 40 i9 0), .int (S_21 41 i9 0)])) hD hk_e1.1 hf_23 hq_24
  have hP9 : va_P (dC, dI) vwCl ((([(h0, .inr (8, [.ref a1, .ref a2, .ref a3, .ref a4, .ref a5, .ref a6, .ref a7, .ref a8, .ref a9, .int j_faultKind, .int j_horseCount, .int j_tabletCount, .int j_riderCount, .int j_lineLength, .int j_hour]))] : va_W) ++ va_pl L f_20).set q_24 (e1, .inr (2, [.int (S_21 32 i9 0), .int (S_21 33 i9 0), .ref (ad 37 i9), .ref (ad 36 i9), .int (S_21 36 i9 0), .int (S_21 37 i9 0), .int (S_21 38 i9 0), .null, .int (S_21 40 i9 0), .int (S_21 41 i9 0)]))) H := hP9
  have hD9 : va_D A ((([(h0, .inr (8, [.ref a1, .ref a2, .ref a3, .ref a4, .ref a5, .ref a6, .ref a7, .ref a8, .ref a9, .int j_faultKind, .int j_horseCount, .int j_tabletCount, .int j_riderCount, .int j_lineLength, .int j_hour]))] : va_W) ++ va_pl L f_20).set q_24 (e1, .inr (2, [.int (S_21 32 i9 0), .int (S_21 33 i9 0), .ref (ad 37 i9), .ref (ad 36 i9), .int (S_21 36 i9 0), .int (S_21 37 i9 0), .int (S_21 38 i9 0), .null, .int (S_21 40 i9 0), .int (S_21 41 i9 0)]))) := hD9
  rw [hs_25] at hP9 hD9
  have hT := hT.up (c := 39) (j := 0) (v := (-1)) (e := .inr (2, [.int (S_21 32 i9 0), .int (S_21 33 i9 0), .ref (ad 37 i9), .ref (ad 36 i9), .int (S_21 36 i9 0), .int (S_21 37 i9 0), .int (S_21 38 i9 0), .null, .int (S_21 40 i9 0), .int (S_21 41 i9 0)])) hk_e1 rfl (hT.2.2.ho (Or.inl rfl)) (by simp [EN, up3, oq_m1, va_rf])
  have hP := hP9
  have hD := hD9
  clear hP9 hD9 hs_25
  obtain ⟨S_27, eS_27⟩ : ∃ S9 : Nat → Nat → Nat → Int32, S9 = up3 S_21 39 i9 0 (-1) := ⟨_, rfl⟩
  rw [← eS_27] at hT
  generalize va_up f_20 e1 (.inr (2, [.int (S_21 32 i9 0), .int (S_21 33 i9 0), .ref (ad 37 i9), .ref (ad 36 i9), .int (S_21 36 i9 0), .int (S_21 37 i9 0), .int (S_21 38 i9 0), .null, .int (S_21 40 i9 0), .int (S_21 41 i9 0)])) = f_26 at hP hD hT
  have hFr_28 : FR S S_27 := by rw [eS_27]; exact FR.up hFr_22 (by decide) (by decide)
  refine lv_aload_n hx hb dX8_bring_31 rfl (lv_at hl 2 rfl) ?_
  have hf_29 : f_26 e1 = .inr (2, [.int (S_27 32 i9 0), .int (S_27 33 i9 0), .ref (ad 37 i9), .ref (ad 36 i9), .int (S_27 36 i9 0), .int (S_27 37 i9 0), .int (S_27 38 i9 0), va_rf (oq ad 0 (S_27 39 i9 0)), .int (S_27 40 i9 0), .int (S_27 41 i9 0)]) := hT.get hk_e1
  obtain ⟨q_30, hq_30⟩ := pl_at (X := [(h0, .inr (8, [.ref a1, .ref a2, .ref a3, .ref a4, .ref a5, .ref a6, .ref a7, .ref a8, .ref a9, .int j_faultKind, .int j_horseCount, .int j_tabletCount, .int j_riderCount, .int j_lineLength, .int j_hour]))]) (f := f_26) (e := .inr (2, [.int (S_27 32 i9 0), .int (S_27 33 i9 0), .ref (ad 37 i9), .ref (ad 36 i9), .int (S_27 36 i9 0), .int (S_27 37 i9 0), .int (S_27 38 i9 0), va_rf (oq ad 0 (S_27 39 i9 0)), .int (S_27 40 i9 0), .int (S_27 41 i9 0)])) hk_e1.1 hf_29
  refine va_getN (D := (dC, dI)) (ci := 2) (v := .int (S_27 36 i9 0)) (C := RX2) (T := TX2) (N := 10) hx hb hts hin2 hown hK hP q_30 hq_30 rfl 4 (by decide) (hN.nx (.fieldLinkNest RX8 158 "YamRiders$Rider" "state" "I" "YamRiders") (by decide +kernel)) (fun _ h9 => h9) rfl dX8_bring_32 ?_
  refine lv_iconst (v := 1) hx hb dX8_bring_35 (by decide) ?_
  refine lv_icmp_ne (tgt := 60) hx hb dX8_bring_36 (by decide) (fun c_31 => ?_) (fun c_31 => ?_)
  · have hP9 := hP.part (cx := [(h0, .inr (8, [.ref a1, .ref a2, .ref a3, .ref a4, .ref a5, .ref a6, .ref a7, .ref a8, .ref a9, .int j_faultKind, .int j_horseCount, .int j_tabletCount, .int j_riderCount, .int j_lineLength, .int j_hour]))]) [0] rfl
    have hD9 := hD.part (cx := [(h0, .inr (8, [.ref a1, .ref a2, .ref a3, .ref a4, .ref a5, .ref a6, .ref a7, .ref a8, .ref a9, .int j_faultKind, .int j_horseCount, .int j_tabletCount, .int j_riderCount, .int j_lineLength, .int j_hour]))]) [0] (by decide) rfl
    have hK9 := hK.sub (tys' := []) [] rfl
    refine W.widen (k := 0) (n := 0) (Nat.le_of_ble_eq_true rfl) (Nat.le_of_ble_eq_true rfl) ?_
    exact W.vret hx hb hr (fun t9 ht hW => ⟨⟨(), rfl, trivial, S_27, f_26, hT, hFr_28, (by unfold brS; rw [← hf_x_15, ← eS_21, ← eS_27]; unfold br2; rw [if_neg c_31]), by rw [ht]; exact hP9, va_K.moved hW.alike hK9, hD9⟩, hS.F ht⟩) hS.2.2 dX8_bring_60
  · refine lv_aload_n hx hb dX8_bring_39 rfl (lv_at hl 1 rfl) ?_
    refine lv_aload_n hx hb dX8_bring_40 rfl (lv_at hl 2 rfl) ?_
    have hPc := hP.part (cx := []) [] rfl
    have hDc := hD.part (cx := []) [] (by decide) rfl
    have hKc := hK
    obtain ⟨q_32, hq_32⟩ := pl_at (X := []) (f := f_26) (e := .inr (2, [.int (S_27 32 i9 0), .int (S_27 33 i9 0), .ref (ad 37 i9), .ref (ad 36 i9), .int (S_27 36 i9 0), .int (S_27 37 i9 0), .int (S_27 38 i9 0), va_rf (oq ad 0 (S_27 39 i9 0)), .int (S_27 40 i9 0), .int (S_27 41 i9 0)])) hk_e1.1 hf_29
    refine cs_i (va_runV (As := []) (rest := [.ref h0]) ⟨hx, hb, hml, hown, hts⟩ (e_X2_lastStation l dC dI cs L ka ix ad n0 n6 n2 S_27 f_26 i9 e1 H.size hT hk_e1 (by omega)) (cwV 0 hts gX8_bring_X2_lastStation rfl rfl rfl (by decide +kernel) ⟨Nat.le_of_ble_eq_true rfl, Nat.le_of_ble_eq_true rfl⟩) ⟨c_blind, va_recv hKc hPc (ci := 2) (q0 := q_32) rfl hq_32, c_pre hPc hKc hDc hN⟩ rfl rfl hl.1 rfl (lv_room (Nat.le_of_ble_eq_true rfl)) dX8_bring_41 ⟨Nat.le_of_ble_eq_true rfl, Nat.le_of_ble_eq_true rfl⟩) (fun r_33 hr_33 => ?_)
    subst hr_33
    refine lv_iload_n hx hb dX8_bring_44 rfl (lv_at hl 0 rfl) ?_
    refine lv_aload_n hx hb dX8_bring_45 rfl (lv_at hl 2 rfl) ?_
    obtain ⟨q_34, hq_34⟩ := pl_at (X := [(h0, .inr (8, [.ref a1, .ref a2, .ref a3, .ref a4, .ref a5, .ref a6, .ref a7, .ref a8, .ref a9, .int j_faultKind, .int j_horseCount, .int j_tabletCount, .int j_riderCount, .int j_lineLength, .int j_hour]))]) (f := f_26) (e := .inr (2, [.int (S_27 32 i9 0), .int (S_27 33 i9 0), .ref (ad 37 i9), .ref (ad 36 i9), .int (S_27 36 i9 0), .int (S_27 37 i9 0), .int (S_27 38 i9 0), va_rf (oq ad 0 (S_27 39 i9 0)), .int (S_27 40 i9 0), .int (S_27 41 i9 0)])) hk_e1.1 hf_29
    refine va_getN (D := (dC, dI)) (ci := 2) (v := .int (S_27 40 i9 0)) (C := RX2) (T := TX2) (N := 10) hx hb hts hin2 hown hK hP q_34 hq_34 rfl 8 (by decide) (hN.nx (.fieldLinkNest RX8 297 "YamRiders$Rider" "left" "I" "YamRiders") (by decide +kernel)) (fun _ h9 => h9) rfl dX8_bring_46 ?_
    have hPc := hP.part (cx := [(h0, .inr (8, [.ref a1, .ref a2, .ref a3, .ref a4, .ref a5, .ref a6, .ref a7, .ref a8, .ref a9, .int j_faultKind, .int j_horseCount, .int j_tabletCount, .int j_riderCount, .int j_lineLength, .int j_hour]))]) [0] rfl
    have hDc := hD.part (cx := [(h0, .inr (8, [.ref a1, .ref a2, .ref a3, .ref a4, .ref a5, .ref a6, .ref a7, .ref a8, .ref a9, .int j_faultKind, .int j_horseCount, .int j_tabletCount, .int j_riderCount, .int j_lineLength, .int j_hour]))]) [0] (by decide) rfl
    have hKc := hK
    have hFc := va_freeP (cx := [(h0, .inr (8, [.ref a1, .ref a2, .ref a3, .ref a4, .ref a5, .ref a6, .ref a7, .ref a8, .ref a9, .int j_faultKind, .int j_horseCount, .int j_tabletCount, .int j_riderCount, .int j_lineLength, .int j_hour]))]) hD hS hA [0] rfl
    refine va_callv (va_runV (As := [.int (sSW S_27 i9 ((S_27 37 i9 0) - 1)), .int (sSW S i9 (S 37 i9 0)), .int (S_27 40 i9 0)]) (rest := []) ⟨hx, hb, hml, hown, hts⟩ (e_X8_carryVoids l dC dI cs L ka ix ad n0 n6 n2 S_27 f_26 gq h0 a1 a2 a3 a4 a5 a6 a7 a8 a9 j_faultKind j_horseCount j_tabletCount j_riderCount j_lineLength j_hour (sSW S_27 i9 ((S_27 37 i9 0) - 1)) (sSW S i9 (S 37 i9 0)) (S_27 40 i9 0) H.size hT hY) (cwV 3 hts gX8_bring_X8_carryVoids rfl rfl rfl (by decide +kernel) ⟨Nat.le_of_ble_eq_true rfl, Nat.le_of_ble_eq_true rfl⟩) ⟨c_blind, va_recv hKc hPc (ci := 8) (q0 := 0) rfl rfl, c_pre hPc hKc hDc hN⟩ rfl rfl hl.1 rfl (lv_room (Nat.le_of_ble_eq_true rfl)) dX8_bring_49 ⟨Nat.le_of_ble_eq_true rfl, Nat.le_of_ble_eq_true rfl⟩) hS (fun q _ h => hFc q h) hFc (fun u9 t9 H1 locs ht hvm hw hB hz1 hk1 hS => ?_)
    obtain ⟨S_36, f_37, hf_x_38, hf_x_39, hf_x_40, hP1, hK1, hD1⟩ := hB
    rw [ht] at hP1
    have hK1 := va_K.moved hvm.symm hK1
    obtain ⟨hP, hD⟩ := va_joinP (X := [(h0, .inr (8, [.ref a1, .ref a2, .ref a3, .ref a4, .ref a5, .ref a6, .ref a7, .ref a8, .ref a9, .int j_faultKind, .int j_horseCount, .int j_tabletCount, .int j_riderCount, .int j_lineLength, .int j_hour]))]) (cx := [(h0, .inr (8, [.ref a1, .ref a2, .ref a3, .ref a4, .ref a5, .ref a6, .ref a7, .ref a8, .ref a9, .int j_faultKind, .int j_horseCount, .int j_tabletCount, .int j_riderCount, .int j_lineLength, .int j_hour]))]) (wr := []) (rx := [(h0, .inr (8, [.ref a1, .ref a2, .ref a3, .ref a4, .ref a5, .ref a6, .ref a7, .ref a8, .ref a9, .int j_faultKind, .int j_horseCount, .int j_tabletCount, .int j_riderCount, .int j_lineLength, .int j_hour]))]) (pl := va_pl L f_26) (pl1 := va_pl L f_37) hP hD [0] [] rfl rfl (by decide) (by decide) hk1 hFc hP1 hD1
    have hT := hf_x_38
    generalize H1 = H at hP hS ⊢
    have hP : va_P (dC, dI) vwCl ([(h0, .inr (8, [.ref a1, .ref a2, .ref a3, .ref a4, .ref a5, .ref a6, .ref a7, .ref a8, .ref a9, .int j_faultKind, .int j_horseCount, .int j_tabletCount, .int j_riderCount, .int j_lineLength, .int j_hour]))] ++ va_pl L f_37) H := hP
    have hD : va_D A ([(h0, .inr (8, [.ref a1, .ref a2, .ref a3, .ref a4, .ref a5, .ref a6, .ref a7, .ref a8, .ref a9, .int j_faultKind, .int j_horseCount, .int j_tabletCount, .int j_riderCount, .int j_lineLength, .int j_hour]))] ++ va_pl L f_37) := hD
    have hFr_41 := FR.tr hFr_28 hf_x_39
    refine W.widen (k := 0) (n := 0) (Nat.le_of_ble_eq_true rfl) (Nat.le_of_ble_eq_true rfl) ?_
    refine lv_aload_n hx hb dX8_bring_52 rfl (lv_at hl 2 rfl) ?_
    refine lv_aload_n hx hb dX8_bring_53 rfl (lv_at hl 1 rfl) ?_
    refine va_get (D := (dC, dI)) (ci := 8) (v := .int j_hour) (C := RX8) (T := TX8) (N := 15) hx hb hts hin8 hown hK hP 0 rfl rfl 14 (by decide) (hts (.fieldLink RX8 140 "YamRiders" "hour" "I") (by decide +kernel)) (fun _ h9 => h9) rfl dX8_bring_54 ?_
    have hPc := hP.part (cx := []) [] rfl
    have hDc := hD.part (cx := []) [] (by decide) rfl
    have hKc := hK
    have hFc := va_freeP (cx := []) hD hS hA [] rfl
    have hf_42 : f_37 e1 = .inr (2, [.int (S_36 32 i9 0), .int (S_36 33 i9 0), .ref (ad 37 i9), .ref (ad 36 i9), .int (S_36 36 i9 0), .int (S_36 37 i9 0), .int (S_36 38 i9 0), va_rf (oq ad 0 (S_36 39 i9 0)), .int (S_36 40 i9 0), .int (S_36 41 i9 0)]) := hT.get hk_e1
    obtain ⟨q_43, hq_43⟩ := pl_at (X := []) (f := f_37) (e := .inr (2, [.int (S_36 32 i9 0), .int (S_36 33 i9 0), .ref (ad 37 i9), .ref (ad 36 i9), .int (S_36 36 i9 0), .int (S_36 37 i9 0), .int (S_36 38 i9 0), va_rf (oq ad 0 (S_36 39 i9 0)), .int (S_36 40 i9 0), .int (S_36 41 i9 0)])) hk_e1.1 hf_42
    refine va_callv (va_runV (As := [.int j_hour]) (rest := []) ⟨hx, hb, hml, hown, hts⟩ (e_X2_comeTo l dC dI cs L ka ix ad n0 n6 n2 S_36 f_37 i9 e1 j_hour H.size hT hk_e1 (by omega)) (cwV 1 hts gX8_bring_X2_comeToNextStation rfl rfl rfl (by decide +kernel) ⟨Nat.le_of_ble_eq_true rfl, Nat.le_of_ble_eq_true rfl⟩) ⟨c_blind, va_recv hKc hPc (ci := 2) (q0 := q_43) rfl hq_43, c_pre hPc hKc hDc hN⟩ rfl rfl hl.1 rfl (lv_room (Nat.le_of_ble_eq_true rfl)) dX8_bring_57 ⟨Nat.le_of_ble_eq_true rfl, Nat.le_of_ble_eq_true rfl⟩) hS (fun q _ h => hFc q h) hFc (fun u9 t9 H1 locs ht hvm hw hB hz1 hk1 hS => ?_)
    obtain ⟨S_45, f_46, hf_x_47, hf_x_48, hf_x_49, hP1, hK1, hD1⟩ := hB
    rw [ht] at hP1
    have hK1 := va_K.moved hvm.symm hK1
    obtain ⟨hP, hD⟩ := va_joinP (X := [(h0, .inr (8, [.ref a1, .ref a2, .ref a3, .ref a4, .ref a5, .ref a6, .ref a7, .ref a8, .ref a9, .int j_faultKind, .int j_horseCount, .int j_tabletCount, .int j_riderCount, .int j_lineLength, .int j_hour]))]) (cx := []) (wr := [(h0, .inr (8, [.ref a1, .ref a2, .ref a3, .ref a4, .ref a5, .ref a6, .ref a7, .ref a8, .ref a9, .int j_faultKind, .int j_horseCount, .int j_tabletCount, .int j_riderCount, .int j_lineLength, .int j_hour]))]) (rx := []) (pl := va_pl L f_37) (pl1 := va_pl L f_46) hP hD [] [0] rfl rfl (by decide) (by decide) hk1 hFc hP1 hD1
    have hT := hf_x_47
    generalize H1 = H at hP hS ⊢
    have hP : va_P (dC, dI) vwCl ([(h0, .inr (8, [.ref a1, .ref a2, .ref a3, .ref a4, .ref a5, .ref a6, .ref a7, .ref a8, .ref a9, .int j_faultKind, .int j_horseCount, .int j_tabletCount, .int j_riderCount, .int j_lineLength, .int j_hour]))] ++ va_pl L f_46) H := hP
    have hD : va_D A ([(h0, .inr (8, [.ref a1, .ref a2, .ref a3, .ref a4, .ref a5, .ref a6, .ref a7, .ref a8, .ref a9, .int j_faultKind, .int j_horseCount, .int j_tabletCount, .int j_riderCount, .int j_lineLength, .int j_hour]))] ++ va_pl L f_46) := hD
    have hFr_50 := FR.tr hFr_41 hf_x_48
    refine W.widen (k := 0) (n := 0) (Nat.le_of_ble_eq_true rfl) (Nat.le_of_ble_eq_true rfl) ?_
    have hP9 := hP.part (cx := [(h0, .inr (8, [.ref a1, .ref a2, .ref a3, .ref a4, .ref a5, .ref a6, .ref a7, .ref a8, .ref a9, .int j_faultKind, .int j_horseCount, .int j_tabletCount, .int j_riderCount, .int j_lineLength, .int j_hour]))]) [0] rfl
    have hD9 := hD.part (cx := [(h0, .inr (8, [.ref a1, .ref a2, .ref a3, .ref a4, .ref a5, .ref a6, .ref a7, .ref a8, .ref a9, .int j_faultKind, .int j_horseCount, .int j_tabletCount, .int j_riderCount, .int j_lineLength, .int j_hour]))]) [0] (by decide) rfl
    have hK9 := hK.sub (tys' := []) [] rfl
    refine W.widen (k := 0) (n := 0) (Nat.le_of_ble_eq_true rfl) (Nat.le_of_ble_eq_true rfl) ?_
    exact W.vret hx hb hr (fun t9 ht hW => ⟨⟨(), rfl, trivial, S_45, f_46, hT, hFr_50, (by unfold brS; rw [← hf_x_15, ← eS_21, ← eS_27]; unfold br2; rw [if_pos c_31, ← hf_x_40]; exact hf_x_49), by rw [ht]; exact hP9, va_K.moved hW.alike hK9, hD9⟩, hS.F ht⟩) hS.2.2 dX8_bring_60

set_option maxHeartbeats 4000000 in
set_option maxRecDepth 100000 in
theorem e_X8_bringComers (l : Launch) (dC : Nat → ClassId) (dI : Nat → Nat → Nat) (cs : Nat → ClassId) (L : List Nat) (ka : Nat → Nat) (ix : Nat → Nat) (ad : Nat → Nat → Nat) (n0 : Nat) (n6 : Nat) (n2 : Nat) (S : Nat → Nat → Nat → Int32) (f : Nat → va_E) (gq : Nat) (h0 : Nat) (a1 : Nat) (a2 : Nat) (a3 : Nat) (a4 : Nat) (a5 : Nat) (a6 : Nat) (a7 : Nat) (a8 : Nat) (a9 : Nat) (j_faultKind : Int32) (j_horseCount : Int32) (j_tabletCount : Int32) (j_riderCount : Int32) (j_lineLength : Int32) (j_hour : Int32) (sz : Nat) (hT : tB L ka ix ad cs n0 n6 n2 S f) (hY : yX L ka ix ad gq a2 a3 a4 a5 a6 a7 a8 a9) : Met l yX8_bringComers wsX8_bringComers ({ frames := 5, cells := 0, slots := 0, locals := 114 }) (va_Pc [.ref h0] (cP dC dI ([(h0, .inr (8, [.ref a1, .ref a2, .ref a3, .ref a4, .ref a5, .ref a6, .ref a7, .ref a8, .ref a9, .int j_faultKind, .int j_horseCount, .int j_tabletCount, .int j_riderCount, .int j_lineLength, .int j_hour]))] ++ va_pl L f) (tyC cs) sz)) (va_Qv (fun (_ : Unit) => True) (fun (_ : Unit) t9 => ∃ (S2 : Nat → Nat → Nat → Int32) (f2 : Nat → va_E), (tB L ka ix ad cs n0 n6 n2 S2 f2) ∧ (FR S S2) ∧ (S2 = brK S gq n6 n2 j_hour 60) ∧ cQ dC dI ([(h0, .inr (8, [.ref a1, .ref a2, .ref a3, .ref a4, .ref a5, .ref a6, .ref a7, .ref a8, .ref a9, .int j_faultKind, .int j_horseCount, .int j_tabletCount, .int j_riderCount, .int j_lineLength, .int j_hour]))] ++ va_pl L f2) [] (va_A ([(h0, .inr (8, [.ref a1, .ref a2, .ref a3, .ref a4, .ref a5, .ref a6, .ref a7, .ref a8, .ref a9, .int j_faultKind, .int j_horseCount, .int j_tabletCount, .int j_riderCount, .int j_lineLength, .int j_hour]))] ++ va_pl L f) sz) t9) (va_A ([(h0, .inr (8, [.ref a1, .ref a2, .ref a3, .ref a4, .ref a5, .ref a6, .ref a7, .ref a8, .ref a9, .int j_faultKind, .int j_horseCount, .int j_tabletCount, .int j_riderCount, .int j_lineLength, .int j_hour]))] ++ va_pl L f) sz)) 0 0 (va_A ([(h0, .inr (8, [.ref a1, .ref a2, .ref a3, .ref a4, .ref a5, .ref a6, .ref a7, .ref a8, .ref a9, .int j_faultKind, .int j_horseCount, .int j_tabletCount, .int j_riderCount, .int j_lineLength, .int j_hour]))] ++ va_pl L f) sz) := by
  refine Met.ofW (cc := cX8_bringComers) (maxL := 5) (ret := none) (by decide) rfl ?_
  intro p e s m args below meth c s₁ B hml hv
  obtain ⟨rfl, hsz, hP, hK, hD0, hN⟩ := hv
  have hx := B.exec
  have hb := B.bytes
  have hr := B.returns
  have hts := atoms_spec (ws := wsX8_bringComers) B.pre
  have hown : s.vm.findClass RX8 = some m.cls := findClass_of_methodNamed B.named
  have hlocks := B.notSynchronized
  subst hsz
  have hin2 : ∀ w ∈ u_ws RX2 TX2 10, w ∈ wsX8_bringComers := by decide +kernel
  have hin8 : ∀ w ∈ u_ws RX8 TX8 15, w ∈ wsX8_bringComers := by decide +kernel
  have hD := hD0.self (sz := s.heap.size)
  generalize hAe : va_A ([(h0, .inr (8, [.ref a1, .ref a2, .ref a3, .ref a4, .ref a5, .ref a6, .ref a7, .ref a8, .ref a9, .int j_faultKind, .int j_horseCount, .int j_tabletCount, .int j_riderCount, .int j_lineLength, .int j_hour]))] ++ va_pl L f) s.heap.size = A at hD ⊢
  have hA : ∀ q : Nat, s.heap.size ≤ q → A q := fun q h => by rw [← hAe]; exact Or.inr h
  have hS : va_S A s.heap s.heap [] := va_S.rf
  have hP : va_P (dC, dI) vwCl ([(h0, .inr (8, [.ref a1, .ref a2, .ref a3, .ref a4, .ref a5, .ref a6, .ref a7, .ref a8, .ref a9, .int j_faultKind, .int j_horseCount, .int j_tabletCount, .int j_riderCount, .int j_lineLength, .int j_hour]))] ++ va_pl L f) s.heap := hP
  have hl := lv_entry ([.ref h0]) (n := 5) (Nat.le_of_ble_eq_true rfl)
  rw [lg_entry_eq]
  generalize (lg_sl ([.ref h0]) ++ List.replicate (5 - (lg_sl ([.ref h0])).length) Slot.unset).toArray = ls at hl ⊢
  have hl : lv_has ls 5 [(0, .ref h0)] := hl
  refine lv_aload_n hx hb dX8_bringComers_0 rfl (lv_at hl 0 rfl) ?_
  refine va_get (D := (dC, dI)) (ci := 8) (v := .ref a7) (C := RX8) (T := TX8) (N := 15) hx hb hts hin8 hown hK hP 0 rfl rfl 6 (by decide) (hts (.fieldLink RX8 48 "YamRiders" "riders" "[LYamRiders$Rider;") (by decide +kernel)) (fun _ h9 => h9) rfl dX8_bringComers_1 ?_
  refine lv_astore_n (lv' := [(1, .ref a7), (0, .ref h0)]) hx hb dX8_bringComers_4 rfl hl (by decide) rfl (fun ls hl => ?_)
  refine lv_aload_n hx hb dX8_bringComers_5 rfl (lv_at hl 0 rfl) ?_
  have hf_1 : f a7 = .inl (cs 5, 60, .inr (.inr (.inr (.inr (gl ad 2 n2))))) := hT.get hY.2.2.2.2.2.1
  obtain ⟨q_2, hq_2⟩ := pl_at (X := [(h0, .inr (8, [.ref a1, .ref a2, .ref a3, .ref a4, .ref a5, .ref a6, .ref a7, .ref a8, .ref a9, .int j_faultKind, .int j_horseCount, .int j_tabletCount, .int j_riderCount, .int j_lineLength, .int j_hour]))]) (f := f) (e := .inl (cs 5, 60, .inr (.inr (.inr (.inr (gl ad 2 n2)))))) hY.2.2.2.2.2.1.1 hf_1
  refine va_alen (v := 60) hx hb hK hP q_2 5 hq_2 rfl rfl dX8_bringComers_6 ?_
  refine lv_istore_n (lv' := [(2, .int 60), (1, .ref a7), (0, .ref h0)]) hx hb dX8_bringComers_7 rfl hl (by decide) rfl (fun ls hl => ?_)
  refine lv_iconst (v := 0) hx hb dX8_bringComers_8 (by decide) ?_
  refine lv_istore_n (lv' := [(3, .int 0), (2, .int 60), (1, .ref a7), (0, .ref h0)]) hx hb dX8_bringComers_9 rfl hl (by decide) rfl (fun ls hl => ?_)
  have HL : ∀ (n k : Nat) (S8 : Nat → Nat → Nat → Int32), k ≤ 60 → 60 + 1 ≤ k + n → (FR S S8) → (S8 = brK S gq n6 n2 j_hour k) → ∀ (f_3 : Nat → va_E) (H : Heap) (locs : List Loc), tB L ka ix ad cs n0 n6 n2 S8 f_3 → va_P (dC, dI) vwCl ([(h0, .inr (8, [.ref a1, .ref a2, .ref a3, .ref a4, .ref a5, .ref a6, .ref a7, .ref a8, .ref a9, .int j_faultKind, .int j_horseCount, .int j_tabletCount, .int j_riderCount, .int j_lineLength, .int j_hour]))] ++ va_pl L f_3) H → va_D A ([(h0, .inr (8, [.ref a1, .ref a2, .ref a3, .ref a4, .ref a5, .ref a6, .ref a7, .ref a8, .ref a9, .int j_faultKind, .int j_horseCount, .int j_tabletCount, .int j_riderCount, .int j_lineLength, .int j_hour]))] ++ va_pl L f_3) → va_S A s.heap H locs → ∀ ls : Array Slot, lv_has ls 5 [(0, .ref h0), (1, .ref a7), (2, .int 60), (3, .int (nI k))] → W p l e (headSpec wsX8_bringComers ({ frames := 5, cells := 0, slots := 0, locals := 114 })).room s m ([.ref h0]).toArray below meth c H locs 0 0 (MQ below (va_Qv (fun (_ : Unit) => True) (fun (_ : Unit) t9 => ∃ (S2 : Nat → Nat → Nat → Int32) (f2 : Nat → va_E), (tB L ka ix ad cs n0 n6 n2 S2 f2) ∧ (FR S S2) ∧ (S2 = brK S gq n6 n2 j_hour 60) ∧ cQ dC dI ([(h0, .inr (8, [.ref a1, .ref a2, .ref a3, .ref a4, .ref a5, .ref a6, .ref a7, .ref a8, .ref a9, .int j_faultKind, .int j_horseCount, .int j_tabletCount, .int j_riderCount, .int j_lineLength, .int j_hour]))] ++ va_pl L f2) [] A t9) A) ([.ref h0]).toArray s 0 0 A) (F0 m 10 ls []) := by
    intro n
    induction n with
    | zero => intro k S8 h1 h2; exact absurd h2 (by omega)
    | succ n ih =>
      intro k S8 hk hn hFrS8 hit f_3 H locs hT hP hD hS ls hl
      refine lv_iload_n hx hb dX8_bringComers_10 rfl (lv_at hl 3 rfl) ?_
      refine lv_iload_n hx hb dX8_bringComers_11 rfl (lv_at hl 2 rfl) ?_
      refine lv_icmp_ge (tgt := 68) hx hb dX8_bringComers_12 (by decide) (fun c_4 => ?_) (fun c_4 => ?_)
      · have hke : k = 60 := by
          rcases Nat.lt_or_ge k 60 with q | q
          · exact absurd c_4 (nI_ge q (by decide))
          · omega
        have hP9 := hP.part (cx := [(h0, .inr (8, [.ref a1, .ref a2, .ref a3, .ref a4, .ref a5, .ref a6, .ref a7, .ref a8, .ref a9, .int j_faultKind, .int j_horseCount, .int j_tabletCount, .int j_riderCount, .int j_lineLength, .int j_hour]))]) [0] rfl
        have hD9 := hD.part (cx := [(h0, .inr (8, [.ref a1, .ref a2, .ref a3, .ref a4, .ref a5, .ref a6, .ref a7, .ref a8, .ref a9, .int j_faultKind, .int j_horseCount, .int j_tabletCount, .int j_riderCount, .int j_lineLength, .int j_hour]))]) [0] (by decide) rfl
        have hK9 := hK.sub (tys' := []) [] rfl
        refine W.widen (k := 0) (n := 0) (Nat.le_of_ble_eq_true rfl) (Nat.le_of_ble_eq_true rfl) ?_
        exact W.vret hx hb hr (fun t9 ht hW => ⟨⟨(), rfl, trivial, S8, f_3, hT, hFrS8, (hke ▸ hit), by rw [ht]; exact hP9, va_K.moved hW.alike hK9, hD9⟩, hS.F ht⟩) hS.2.2 dX8_bringComers_68
      · have hlt : k < 60 := by
          rcases Nat.lt_or_ge k 60 with q | q
          · exact q
          · exact absurd (show nI 60 ≤ nI k from nI_le q (by omega)) c_4
        refine lv_aload_n hx hb dX8_bringComers_15 rfl (lv_at hl 1 rfl) ?_
        refine lv_iload_n hx hb dX8_bringComers_16 rfl (lv_at hl 3 rfl) ?_
        have hf_5 : f_3 a7 = .inl (cs 5, 60, .inr (.inr (.inr (.inr (gl ad 2 n2))))) := hT.get hY.2.2.2.2.2.1
        obtain ⟨q_6, hq_6⟩ := pl_at (X := [(h0, .inr (8, [.ref a1, .ref a2, .ref a3, .ref a4, .ref a5, .ref a6, .ref a7, .ref a8, .ref a9, .int j_faultKind, .int j_horseCount, .int j_tabletCount, .int j_riderCount, .int j_lineLength, .int j_hour]))]) (f := f_3) (e := .inl (cs 5, 60, .inr (.inr (.inr (.inr (gl ad 2 n2)))))) hY.2.2.2.2.2.1.1 hf_5
        refine va_aldq hx hb hK hP q_6 5 hq_6 rfl (vp_in_nI (by omega) (by omega)) dX8_bringComers_17 ?_
        by_cases c_7 : k < n2
        · rw [show gl ad 2 n2 (nI k).toNatClampNeg = some (ad 2 k) from by rw [(nI_clamp (by omega))]; exact gl_p c_7]
          refine W.eq (g2 := F0 m 18 ls [.ref (ad 2 k)]) rfl ?_
          refine lv_astore (lv' := [(4, .ref (ad 2 k)), (0, .ref h0), (1, .ref a7), (2, .int 60), (3, .int (nI k))]) hx hb dX8_bringComers_18 hl (by decide) rfl (fun ls hl => ?_)
          refine lv_aload hx hb dX8_bringComers_20 (lv_at hl 0 rfl) ?_
          refine lv_ifnull hx hb dX8_bringComers_22 ?_
          refine lv_aload hx hb dX8_bringComers_25 (lv_at hl 0 rfl) ?_
          have hf_8 : f_3 (ad 2 k) = .inr (2, [.int (S8 32 k 0), .int (S8 33 k 0), .ref (ad 37 k), .ref (ad 36 k), .int (S8 36 k 0), .int (S8 37 k 0), .int (S8 38 k 0), va_rf (oq ad 0 (S8 39 k 0)), .int (S8 40 k 0), .int (S8 41 k 0)]) := hT.get (hT.k2 (i := k) (by omega))
          obtain ⟨q_9, hq_9⟩ := pl_at (X := [(h0, .inr (8, [.ref a1, .ref a2, .ref a3, .ref a4, .ref a5, .ref a6, .ref a7, .ref a8, .ref a9, .int j_faultKind, .int j_horseCount, .int j_tabletCount, .int j_riderCount, .int j_lineLength, .int j_hour]))]) (f := f_3) (e := .inr (2, [.int (S8 32 k 0), .int (S8 33 k 0), .ref (ad 37 k), .ref (ad 36 k), .int (S8 36 k 0), .int (S8 37 k 0), .int (S8 38 k 0), va_rf (oq ad 0 (S8 39 k 0)), .int (S8 40 k 0), .int (S8 41 k 0)])) (hT.k2 (i := k) (by omega)).1 hf_8
          refine va_getN (D := (dC, dI)) (ci := 2) (v := va_rf (oq ad 0 (S8 39 k 0))) (C := RX2) (T := TX2) (N := 10) hx hb hts hin2 hown hK hP q_9 hq_9 rfl 7 (by decide) (hN.nx (.fieldLinkNest RX8 293 "YamRiders$Rider" "horse" "LYamRiders$Horse;" "YamRiders") (by decide +kernel)) (fun _ h9 => h9) rfl dX8_bringComers_27 ?_
          by_cases c_10 : S8 39 k 0 = -1
          · rw [show (oq ad 0 (S8 39 k 0)) = none from oq_n c_10]
            refine W.eq (g2 := F0 m 30 ls [.null]) rfl ?_
            refine lv_ifnullN (tgt := 62) hx hb dX8_bringComers_30 (by decide) ?_
            refine lv_iinc (v := nI (k + 1)) (lv' := [(3, .int (nI (k + 1))), (4, .ref (ad 2 k)), (0, .ref h0), (1, .ref a7), (2, .int 60)]) hx hb dX8_bringComers_62 hl (k := 4) rfl (by exact (nI_1 k)) (by decide) rfl (fun ls hl => ?_)
            refine lv_goto (tgt := 10) hx hb dX8_bringComers_65 (by decide) ?_
            exact ih (k + 1) S8 (by omega) (by omega) hFrS8 (brK_s hit (by unfold br1; rw [if_pos c_7, if_pos c_10])) _ _ _ hT (hP.part (cx := _) [0] rfl) (hD.part (cx := _) [0] (by decide) rfl) hS ls (lv_sub hl [2, 3, 4, 0] rfl)
          · obtain ⟨u_11, hu_11, eu_11⟩ := hT.ho (r := k) (by omega) c_10
            have hn9 := hT.b0
            rw [show (oq ad 0 (S8 39 k 0)) = some (ad 0 u_11) from by rw [eu_11]; exact oq_s (by omega)]
            refine W.eq (g2 := F0 m 30 ls [.ref (ad 0 u_11)]) rfl ?_
            refine lv_ifnull hx hb dX8_bringComers_30 ?_
            refine lv_aload hx hb dX8_bringComers_33 (lv_at hl 0 rfl) ?_
            obtain ⟨q_12, hq_12⟩ := pl_at (X := [(h0, .inr (8, [.ref a1, .ref a2, .ref a3, .ref a4, .ref a5, .ref a6, .ref a7, .ref a8, .ref a9, .int j_faultKind, .int j_horseCount, .int j_tabletCount, .int j_riderCount, .int j_lineLength, .int j_hour]))]) (f := f_3) (e := .inr (2, [.int (S8 32 k 0), .int (S8 33 k 0), .ref (ad 37 k), .ref (ad 36 k), .int (S8 36 k 0), .int (S8 37 k 0), .int (S8 38 k 0), va_rf (oq ad 0 (S8 39 k 0)), .int (S8 40 k 0), .int (S8 41 k 0)])) (hT.k2 (i := k) (by omega)).1 hf_8
            refine va_getN (D := (dC, dI)) (ci := 2) (v := .int (S8 40 k 0)) (C := RX2) (T := TX2) (N := 10) hx hb hts hin2 hown hK hP q_12 hq_12 rfl 8 (by decide) (hN.nx (.fieldLinkNest RX8 297 "YamRiders$Rider" "left" "I" "YamRiders") (by decide +kernel)) (fun _ h9 => h9) rfl dX8_bringComers_35 ?_
            refine lv_aload hx hb dX8_bringComers_38 (lv_at hl 0 rfl) ?_
            obtain ⟨q_13, hq_13⟩ := pl_at (X := [(h0, .inr (8, [.ref a1, .ref a2, .ref a3, .ref a4, .ref a5, .ref a6, .ref a7, .ref a8, .ref a9, .int j_faultKind, .int j_horseCount, .int j_tabletCount, .int j_riderCount, .int j_lineLength, .int j_hour]))]) (f := f_3) (e := .inr (2, [.int (S8 32 k 0), .int (S8 33 k 0), .ref (ad 37 k), .ref (ad 36 k), .int (S8 36 k 0), .int (S8 37 k 0), .int (S8 38 k 0), va_rf (oq ad 0 (S8 39 k 0)), .int (S8 40 k 0), .int (S8 41 k 0)])) (hT.k2 (i := k) (by omega)).1 hf_8
            refine va_getN (D := (dC, dI)) (ci := 2) (v := .int (S8 41 k 0)) (C := RX2) (T := TX2) (N := 10) hx hb hts hin2 hown hK hP q_13 hq_13 rfl 9 (by decide) (hN.nx (.fieldLinkNest RX8 300 "YamRiders$Rider" "time" "I" "YamRiders") (by decide +kernel)) (fun _ h9 => h9) rfl dX8_bringComers_40 ?_
            refine lv_iadd hx hb dX8_bringComers_43 ?_
            refine lv_aload_n hx hb dX8_bringComers_44 rfl (lv_at hl 1 rfl) ?_
            refine va_get (D := (dC, dI)) (ci := 8) (v := .int j_hour) (C := RX8) (T := TX8) (N := 15) hx hb hts hin8 hown hK hP 0 rfl rfl 14 (by decide) (hts (.fieldLink RX8 140 "YamRiders" "hour" "I") (by decide +kernel)) (fun _ h9 => h9) rfl dX8_bringComers_45 ?_
            refine lv_icmp_gt (tgt := 62) hx hb dX8_bringComers_48 (by decide) (fun c_14 => ?_) (fun c_14 => ?_)
            · refine lv_iinc (v := nI (k + 1)) (lv' := [(3, .int (nI (k + 1))), (4, .ref (ad 2 k)), (0, .ref h0), (1, .ref a7), (2, .int 60)]) hx hb dX8_bringComers_62 hl (k := 4) rfl (by exact (nI_1 k)) (by decide) rfl (fun ls hl => ?_)
              refine lv_goto (tgt := 10) hx hb dX8_bringComers_65 (by decide) ?_
              exact ih (k + 1) S8 (by omega) (by omega) hFrS8 (brK_s hit (by unfold br1; rw [if_pos c_7, if_neg c_10, if_pos c_14])) _ _ _ hT (hP.part (cx := _) [0] rfl) (hD.part (cx := _) [0] (by decide) rfl) hS ls (lv_sub hl [2, 3, 4, 0] rfl)
            · refine lv_aload_n hx hb dX8_bringComers_51 rfl (lv_at hl 1 rfl) ?_
              refine lv_aload hx hb dX8_bringComers_52 (lv_at hl 0 rfl) ?_
              refine lv_aload hx hb dX8_bringComers_54 (lv_at hl 0 rfl) ?_
              obtain ⟨q_15, hq_15⟩ := pl_at (X := [(h0, .inr (8, [.ref a1, .ref a2, .ref a3, .ref a4, .ref a5, .ref a6, .ref a7, .ref a8, .ref a9, .int j_faultKind, .int j_horseCount, .int j_tabletCount, .int j_riderCount, .int j_lineLength, .int j_hour]))]) (f := f_3) (e := .inr (2, [.int (S8 32 k 0), .int (S8 33 k 0), .ref (ad 37 k), .ref (ad 36 k), .int (S8 36 k 0), .int (S8 37 k 0), .int (S8 38 k 0), va_rf (oq ad 0 (S8 39 k 0)), .int (S8 40 k 0), .int (S8 41 k 0)])) (hT.k2 (i := k) (by omega)).1 hf_8
              refine va_getN (D := (dC, dI)) (ci := 2) (v := va_rf (oq ad 0 (S8 39 k 0))) (C := RX2) (T := TX2) (N := 10) hx hb hts hin2 hown hK hP q_15 hq_15 rfl 7 (by decide) (hN.nx (.fieldLinkNest RX8 293 "YamRiders$Rider" "horse" "LYamRiders$Horse;" "YamRiders") (by decide +kernel)) (fun _ h9 => h9) rfl dX8_bringComers_56 ?_
              have hn9 := hT.b0
              rw [show (oq ad 0 (S8 39 k 0)) = some (ad 0 u_11) from by rw [eu_11]; exact oq_s (by omega)]
              refine W.eq (g2 := F0 m 59 ls [.ref (ad 0 u_11), .ref (ad 2 k), .ref h0]) rfl ?_
              have hPc := hP.part (cx := [(h0, .inr (8, [.ref a1, .ref a2, .ref a3, .ref a4, .ref a5, .ref a6, .ref a7, .ref a8, .ref a9, .int j_faultKind, .int j_horseCount, .int j_tabletCount, .int j_riderCount, .int j_lineLength, .int j_hour]))]) [0] rfl
              have hDc := hD.part (cx := [(h0, .inr (8, [.ref a1, .ref a2, .ref a3, .ref a4, .ref a5, .ref a6, .ref a7, .ref a8, .ref a9, .int j_faultKind, .int j_horseCount, .int j_tabletCount, .int j_riderCount, .int j_lineLength, .int j_hour]))]) [0] (by decide) rfl
              have hKc := hK
              have hFc := va_freeP (cx := [(h0, .inr (8, [.ref a1, .ref a2, .ref a3, .ref a4, .ref a5, .ref a6, .ref a7, .ref a8, .ref a9, .int j_faultKind, .int j_horseCount, .int j_tabletCount, .int j_riderCount, .int j_lineLength, .int j_hour]))]) hD hS hA [0] rfl
              refine va_callv (va_runV (As := [.ref (ad 2 k), .ref (ad 0 u_11)]) (rest := []) ⟨hx, hb, hml, hown, hts⟩ (e_X8_bring l dC dI cs L ka ix ad n0 n6 n2 S8 f_3 gq k u_11 h0 a1 a2 a3 a4 a5 a6 a7 a8 a9 j_faultKind j_horseCount j_tabletCount j_riderCount j_lineLength j_hour (ad 2 k) (ad 0 u_11) H.size hT hY (hT.k2 (i := k) (by omega)) (hT.k0 (i := u_11) (by omega)) (by omega) (by omega)) (cwV 2 hts gX8_bringComers_X8_bring rfl rfl rfl (by decide +kernel) ⟨Nat.le_of_ble_eq_true rfl, Nat.le_of_ble_eq_true rfl⟩) ⟨c_blind, va_recv hKc hPc (ci := 8) (q0 := 0) rfl rfl, c_pre hPc hKc hDc hN⟩ rfl rfl hl.1 rfl (lv_room (Nat.le_of_ble_eq_true rfl)) dX8_bringComers_59 ⟨Nat.le_of_ble_eq_true rfl, Nat.le_of_ble_eq_true rfl⟩) hS (fun q _ h => hFc q h) hFc (fun u9 t9 H1 locs ht hvm hw hB hz1 hk1 hS => ?_)
              obtain ⟨S_17, f_18, hf_x_19, hf_x_20, hf_x_21, hP1, hK1, hD1⟩ := hB
              rw [ht] at hP1
              have hK1 := va_K.moved hvm.symm hK1
              obtain ⟨hP, hD⟩ := va_joinP (X := [(h0, .inr (8, [.ref a1, .ref a2, .ref a3, .ref a4, .ref a5, .ref a6, .ref a7, .ref a8, .ref a9, .int j_faultKind, .int j_horseCount, .int j_tabletCount, .int j_riderCount, .int j_lineLength, .int j_hour]))]) (cx := [(h0, .inr (8, [.ref a1, .ref a2, .ref a3, .ref a4, .ref a5, .ref a6, .ref a7, .ref a8, .ref a9, .int j_faultKind, .int j_horseCount, .int j_tabletCount, .int j_riderCount, .int j_lineLength, .int j_hour]))]) (wr := []) (rx := [(h0, .inr (8, [.ref a1, .ref a2, .ref a3, .ref a4, .ref a5, .ref a6, .ref a7, .ref a8, .ref a9, .int j_faultKind, .int j_horseCount, .int j_tabletCount, .int j_riderCount, .int j_lineLength, .int j_hour]))]) (pl := va_pl L f_3) (pl1 := va_pl L f_18) hP hD [0] [] rfl rfl (by decide) (by decide) hk1 hFc hP1 hD1
              have hT := hf_x_19
              generalize H1 = H at hP hS ⊢
              have hP : va_P (dC, dI) vwCl ([(h0, .inr (8, [.ref a1, .ref a2, .ref a3, .ref a4, .ref a5, .ref a6, .ref a7, .ref a8, .ref a9, .int j_faultKind, .int j_horseCount, .int j_tabletCount, .int j_riderCount, .int j_lineLength, .int j_hour]))] ++ va_pl L f_18) H := hP
              have hD : va_D A ([(h0, .inr (8, [.ref a1, .ref a2, .ref a3, .ref a4, .ref a5, .ref a6, .ref a7, .ref a8, .ref a9, .int j_faultKind, .int j_horseCount, .int j_tabletCount, .int j_riderCount, .int j_lineLength, .int j_hour]))] ++ va_pl L f_18) := hD
              have hFr_22 := FR.tr hFrS8 hf_x_20
              refine W.widen (k := 0) (n := 0) (Nat.le_of_ble_eq_true rfl) (Nat.le_of_ble_eq_true rfl) ?_
              refine lv_iinc (v := nI (k + 1)) (lv' := [(3, .int (nI (k + 1))), (4, .ref (ad 2 k)), (0, .ref h0), (1, .ref a7), (2, .int 60)]) hx hb dX8_bringComers_62 hl (k := 4) rfl (by exact (nI_1 k)) (by decide) rfl (fun ls hl => ?_)
              refine lv_goto (tgt := 10) hx hb dX8_bringComers_65 (by decide) ?_
              exact ih (k + 1) S_17 (by omega) (by omega) hFr_22 (brK_s hit (by unfold br1; rw [if_pos c_7, if_neg c_10, if_neg c_14, eu_11, nI_clamp (by omega)]; exact hf_x_21)) _ _ _ hT (hP.part (cx := _) [0] rfl) (hD.part (cx := _) [0] (by decide) rfl) hS ls (lv_sub hl [2, 3, 4, 0] rfl)
        · rw [show gl ad 2 n2 (nI k).toNatClampNeg = none from by rw [(nI_clamp (by omega))]; exact gl_n c_7]
          refine W.eq (g2 := F0 m 18 ls [.null]) rfl ?_
          refine lv_astoreN (lv' := [(4, .null), (0, .ref h0), (1, .ref a7), (2, .int 60), (3, .int (nI k))]) hx hb dX8_bringComers_18 hl (by decide) rfl (fun ls hl => ?_)
          refine lv_aloadN hx hb dX8_bringComers_20 (lv_at hl 0 rfl) ?_
          refine lv_ifnullN (tgt := 62) hx hb dX8_bringComers_22 (by decide) ?_
          refine lv_iinc (v := nI (k + 1)) (lv' := [(3, .int (nI (k + 1))), (4, .null), (0, .ref h0), (1, .ref a7), (2, .int 60)]) hx hb dX8_bringComers_62 hl (k := 4) rfl (by exact (nI_1 k)) (by decide) rfl (fun ls hl => ?_)
          refine lv_goto (tgt := 10) hx hb dX8_bringComers_65 (by decide) ?_
          exact ih (k + 1) S8 (by omega) (by omega) hFrS8 (brK_s hit (by unfold br1; rw [if_neg c_7])) _ _ _ hT (hP.part (cx := _) [0] rfl) (hD.part (cx := _) [0] (by decide) rfl) hS ls (lv_sub hl [2, 3, 4, 0] rfl)
  exact HL 61 0 S (by omega) (by omega) FR.rf rfl _ _ _ hT (hP.part (cx := _) [0] rfl) (hD.part (cx := _) [0] (by decide) rfl) hS ls (lv_sub hl [3, 2, 1, 0] rfl)

set_option maxHeartbeats 4000000 in
set_option maxRecDepth 100000 in
theorem e_X8_next (l : Launch) (dC : Nat → ClassId) (dI : Nat → Nat → Nat) (cs : Nat → ClassId) (L : List Nat) (ka : Nat → Nat) (ix : Nat → Nat) (ad : Nat → Nat → Nat) (n0 : Nat) (n6 : Nat) (n2 : Nat) (S : Nat → Nat → Nat → Int32) (f : Nat → va_E) (gq : Nat) (h0 : Nat) (a1 : Nat) (a2 : Nat) (a3 : Nat) (a4 : Nat) (a5 : Nat) (a6 : Nat) (a7 : Nat) (a8 : Nat) (a9 : Nat) (j_faultKind : Int32) (j_horseCount : Int32) (j_tabletCount : Int32) (j_riderCount : Int32) (ll9 : Nat) (hr9 : Nat) (sz : Nat) (hT : tB L ka ix ad cs n0 n6 n2 S f) (hY : yX L ka ix ad gq a2 a3 a4 a5 a6 a7 a8 a9) (hll : ll9 ≤ 60) (hhr : hr9 ≤ 9999) : Met l yX8_next wsX8_next ({ frames := 6, cells := 0, slots := 0, locals := 138 }) (va_Pc [.ref h0] (cP dC dI ([(h0, .inr (8, [.ref a1, .ref a2, .ref a3, .ref a4, .ref a5, .ref a6, .ref a7, .ref a8, .ref a9, .int j_faultKind, .int j_horseCount, .int j_tabletCount, .int j_riderCount, .int (nI ll9), .int (nI hr9)]))] ++ va_pl L f) (tyC cs) sz)) (va_Qi (fun (r rv : Int32) => r = rv) (fun (rv : Int32) t9 => ∃ (S2 : Nat → Nat → Nat → Int32) (f2 : Nat → va_E) (ll2 : Nat) (hr2 : Nat), (tB L ka ix ad cs n0 n6 n2 S2 f2) ∧ (FR S S2) ∧ (ll2 ≤ 60 ∧ hr2 ≤ 9999 ∧ FNx hr9 rv hr2) ∧ (NXc S S2 gq n0 n6 n2 hr9) ∧ cQ dC dI ([(h0, .inr (8, [.ref a1, .ref a2, .ref a3, .ref a4, .ref a5, .ref a6, .ref a7, .ref a8, .ref a9, .int j_faultKind, .int j_horseCount, .int j_tabletCount, .int j_riderCount, .int (nI ll2), .int (nI hr2)]))] ++ va_pl L f2) [] (va_A ([(h0, .inr (8, [.ref a1, .ref a2, .ref a3, .ref a4, .ref a5, .ref a6, .ref a7, .ref a8, .ref a9, .int j_faultKind, .int j_horseCount, .int j_tabletCount, .int j_riderCount, .int (nI ll9), .int (nI hr9)]))] ++ va_pl L f) sz) t9) (va_A ([(h0, .inr (8, [.ref a1, .ref a2, .ref a3, .ref a4, .ref a5, .ref a6, .ref a7, .ref a8, .ref a9, .int j_faultKind, .int j_horseCount, .int j_tabletCount, .int j_riderCount, .int (nI ll9), .int (nI hr9)]))] ++ va_pl L f) sz)) 0 0 (va_A ([(h0, .inr (8, [.ref a1, .ref a2, .ref a3, .ref a4, .ref a5, .ref a6, .ref a7, .ref a8, .ref a9, .int j_faultKind, .int j_horseCount, .int j_tabletCount, .int j_riderCount, .int (nI ll9), .int (nI hr9)]))] ++ va_pl L f) sz) := by
  refine Met.ofW (cc := cX8_next) (maxL := 1) (ret := (some .int)) (by decide) rfl ?_
  intro p e s m args below meth c s₁ B hml hv
  obtain ⟨rfl, hsz, hP, hK, hD0, hN⟩ := hv
  have hx := B.exec
  have hb := B.bytes
  have hr := B.returns
  have hts := atoms_spec (ws := wsX8_next) B.pre
  have hown : s.vm.findClass RX8 = some m.cls := findClass_of_methodNamed B.named
  have hlocks := B.notSynchronized
  subst hsz
  have hin8 : ∀ w ∈ u_ws RX8 TX8 15, w ∈ wsX8_next := by decide +kernel
  have hD := hD0.self (sz := s.heap.size)
  generalize hAe : va_A ([(h0, .inr (8, [.ref a1, .ref a2, .ref a3, .ref a4, .ref a5, .ref a6, .ref a7, .ref a8, .ref a9, .int j_faultKind, .int j_horseCount, .int j_tabletCount, .int j_riderCount, .int (nI ll9), .int (nI hr9)]))] ++ va_pl L f) s.heap.size = A at hD ⊢
  have hA : ∀ q : Nat, s.heap.size ≤ q → A q := fun q h => by rw [← hAe]; exact Or.inr h
  have hS : va_S A s.heap s.heap [] := va_S.rf
  have hP : va_P (dC, dI) vwCl ([(h0, .inr (8, [.ref a1, .ref a2, .ref a3, .ref a4, .ref a5, .ref a6, .ref a7, .ref a8, .ref a9, .int j_faultKind, .int j_horseCount, .int j_tabletCount, .int j_riderCount, .int (nI ll9), .int (nI hr9)]))] ++ va_pl L f) s.heap := hP
  have hl := lv_entry ([.ref h0]) (n := 1) (Nat.le_of_ble_eq_true rfl)
  rw [lg_entry_eq]
  generalize (lg_sl ([.ref h0]) ++ List.replicate (1 - (lg_sl ([.ref h0])).length) Slot.unset).toArray = ls at hl ⊢
  have hl : lv_has ls 1 [(0, .ref h0)] := hl
  refine lv_aload_n hx hb dX8_next_0 rfl (lv_at hl 0 rfl) ?_
  refine va_get (D := (dC, dI)) (ci := 8) (v := .int (nI hr9)) (C := RX8) (T := TX8) (N := 15) hx hb hts hin8 hown hK hP 0 rfl rfl 14 (by decide) (hts (.fieldLink RX8 140 "YamRiders" "hour" "I") (by decide +kernel)) (fun _ h9 => h9) rfl dX8_next_1 ?_
  refine lv_sipush (v := 9999) hx hb dX8_next_4 (by decide) ?_
  refine lv_icmp_lt (tgt := 12) hx hb dX8_next_7 (by decide) (fun c_1 => ?_) (fun c_1 => ?_)
  · refine lv_aload_n hx hb dX8_next_12 rfl (lv_at hl 0 rfl) ?_
    have hPc := hP.part (cx := [(h0, .inr (8, [.ref a1, .ref a2, .ref a3, .ref a4, .ref a5, .ref a6, .ref a7, .ref a8, .ref a9, .int j_faultKind, .int j_horseCount, .int j_tabletCount, .int j_riderCount, .int (nI ll9), .int (nI hr9)]))]) [0] rfl
    have hDc := hD.part (cx := [(h0, .inr (8, [.ref a1, .ref a2, .ref a3, .ref a4, .ref a5, .ref a6, .ref a7, .ref a8, .ref a9, .int j_faultKind, .int j_horseCount, .int j_tabletCount, .int j_riderCount, .int (nI ll9), .int (nI hr9)]))]) [0] (by decide) rfl
    have hKc := hK
    have hFc := va_freeP (cx := [(h0, .inr (8, [.ref a1, .ref a2, .ref a3, .ref a4, .ref a5, .ref a6, .ref a7, .ref a8, .ref a9, .int j_faultKind, .int j_horseCount, .int j_tabletCount, .int j_riderCount, .int (nI ll9), .int (nI hr9)]))]) hD hS hA [0] rfl
    refine va_callv (va_runV (As := []) (rest := []) ⟨hx, hb, hml, hown, hts⟩ (e_X8_careForHorses l dC dI cs L ka ix ad n0 n6 n2 S f gq h0 a1 a2 a3 a4 a5 a6 a7 a8 a9 j_faultKind j_horseCount j_tabletCount j_riderCount (nI ll9) (nI hr9) s.heap.size hT hY) (cwV 0 hts gX8_next_X8_careForHorses rfl rfl rfl (by decide +kernel) ⟨Nat.le_of_ble_eq_true rfl, Nat.le_of_ble_eq_true rfl⟩) ⟨c_blind, va_recv hKc hPc (ci := 8) (q0 := 0) rfl rfl, c_pre hPc hKc hDc hN⟩ rfl rfl hl.1 rfl (lv_room (Nat.le_of_ble_eq_true rfl)) dX8_next_13 ⟨Nat.le_of_ble_eq_true rfl, Nat.le_of_ble_eq_true rfl⟩) hS (fun q _ h => hFc q h) hFc (fun u9 t9 H1 locs ht hvm hw hB hz1 hk1 hS => ?_)
    obtain ⟨S_3, f_4, hf_x_5, hf_x_6, hf_x_7, hP1, hK1, hD1⟩ := hB
    rw [ht] at hP1
    have hK1 := va_K.moved hvm.symm hK1
    obtain ⟨hP, hD⟩ := va_joinP (X := [(h0, .inr (8, [.ref a1, .ref a2, .ref a3, .ref a4, .ref a5, .ref a6, .ref a7, .ref a8, .ref a9, .int j_faultKind, .int j_horseCount, .int j_tabletCount, .int j_riderCount, .int (nI ll9), .int (nI hr9)]))]) (cx := [(h0, .inr (8, [.ref a1, .ref a2, .ref a3, .ref a4, .ref a5, .ref a6, .ref a7, .ref a8, .ref a9, .int j_faultKind, .int j_horseCount, .int j_tabletCount, .int j_riderCount, .int (nI ll9), .int (nI hr9)]))]) (wr := []) (rx := [(h0, .inr (8, [.ref a1, .ref a2, .ref a3, .ref a4, .ref a5, .ref a6, .ref a7, .ref a8, .ref a9, .int j_faultKind, .int j_horseCount, .int j_tabletCount, .int j_riderCount, .int (nI ll9), .int (nI hr9)]))]) (pl := va_pl L f) (pl1 := va_pl L f_4) hP hD [0] [] rfl rfl (by decide) (by decide) hk1 hFc hP1 hD1
    have hT := hf_x_5
    generalize H1 = H at hP hS ⊢
    have hP : va_P (dC, dI) vwCl ([(h0, .inr (8, [.ref a1, .ref a2, .ref a3, .ref a4, .ref a5, .ref a6, .ref a7, .ref a8, .ref a9, .int j_faultKind, .int j_horseCount, .int j_tabletCount, .int j_riderCount, .int (nI ll9), .int (nI hr9)]))] ++ va_pl L f_4) H := hP
    have hD : va_D A ([(h0, .inr (8, [.ref a1, .ref a2, .ref a3, .ref a4, .ref a5, .ref a6, .ref a7, .ref a8, .ref a9, .int j_faultKind, .int j_horseCount, .int j_tabletCount, .int j_riderCount, .int (nI ll9), .int (nI hr9)]))] ++ va_pl L f_4) := hD
    have hFr_8 := FR.tr FR.rf hf_x_6
    refine W.widen (k := 0) (n := 0) (Nat.le_of_ble_eq_true rfl) (Nat.le_of_ble_eq_true rfl) ?_
    refine lv_aload_n hx hb dX8_next_16 rfl (lv_at hl 0 rfl) ?_
    have hPc := hP.part (cx := [(h0, .inr (8, [.ref a1, .ref a2, .ref a3, .ref a4, .ref a5, .ref a6, .ref a7, .ref a8, .ref a9, .int j_faultKind, .int j_horseCount, .int j_tabletCount, .int j_riderCount, .int (nI ll9), .int (nI hr9)]))]) [0] rfl
    have hDc := hD.part (cx := [(h0, .inr (8, [.ref a1, .ref a2, .ref a3, .ref a4, .ref a5, .ref a6, .ref a7, .ref a8, .ref a9, .int j_faultKind, .int j_horseCount, .int j_tabletCount, .int j_riderCount, .int (nI ll9), .int (nI hr9)]))]) [0] (by decide) rfl
    have hKc := hK
    have hFc := va_freeP (cx := [(h0, .inr (8, [.ref a1, .ref a2, .ref a3, .ref a4, .ref a5, .ref a6, .ref a7, .ref a8, .ref a9, .int j_faultKind, .int j_horseCount, .int j_tabletCount, .int j_riderCount, .int (nI ll9), .int (nI hr9)]))]) hD hS hA [0] rfl
    refine va_callv (va_runV (As := []) (rest := []) ⟨hx, hb, hml, hown, hts⟩ (e_X8_lineUpWaiting l dC dI cs L ka ix ad n0 n6 n2 S_3 f_4 gq h0 a1 a2 a3 a4 a5 a6 a7 a8 a9 j_faultKind j_horseCount j_tabletCount j_riderCount (nI ll9) (nI hr9) H.size hT hY) (cwV 0 hts gX8_next_X8_lineUpWaiting rfl rfl rfl (by decide +kernel) ⟨Nat.le_of_ble_eq_true rfl, Nat.le_of_ble_eq_true rfl⟩) ⟨c_blind, va_recv hKc hPc (ci := 8) (q0 := 0) rfl rfl, c_pre hPc hKc hDc hN⟩ rfl rfl hl.1 rfl (lv_room (Nat.le_of_ble_eq_true rfl)) dX8_next_17 ⟨Nat.le_of_ble_eq_true rfl, Nat.le_of_ble_eq_true rfl⟩) hS (fun q _ h => hFc q h) hFc (fun u9 t9 H1 locs ht hvm hw hB hz1 hk1 hS => ?_)
    obtain ⟨S_10, f_11, ll_12, lm_13, hf_x_14, hf_x_15, hf_x_16, hP1, hK1, hD1⟩ := hB
    rw [ht] at hP1
    have hK1 := va_K.moved hvm.symm hK1
    obtain ⟨hP, hD⟩ := va_joinP (X := [(h0, .inr (8, [.ref a1, .ref a2, .ref a3, .ref a4, .ref a5, .ref a6, .ref a7, .ref a8, .ref a9, .int j_faultKind, .int j_horseCount, .int j_tabletCount, .int j_riderCount, .int (nI ll9), .int (nI hr9)]))]) (cx := [(h0, .inr (8, [.ref a1, .ref a2, .ref a3, .ref a4, .ref a5, .ref a6, .ref a7, .ref a8, .ref a9, .int j_faultKind, .int j_horseCount, .int j_tabletCount, .int j_riderCount, .int (nI ll9), .int (nI hr9)]))]) (wr := []) (rx := [(h0, .inr (8, [.ref a1, .ref a2, .ref a3, .ref a4, .ref a5, .ref a6, .ref a7, .ref a8, .ref a9, .int j_faultKind, .int j_horseCount, .int j_tabletCount, .int j_riderCount, .int (nI ll_12), .int (nI hr9)]))]) (pl := va_pl L f_4) (pl1 := va_pl L f_11) hP hD [0] [] rfl rfl (by decide) (by decide) hk1 hFc hP1 hD1
    have hT := hf_x_14
    generalize H1 = H at hP hS ⊢
    have hP : va_P (dC, dI) vwCl ([(h0, .inr (8, [.ref a1, .ref a2, .ref a3, .ref a4, .ref a5, .ref a6, .ref a7, .ref a8, .ref a9, .int j_faultKind, .int j_horseCount, .int j_tabletCount, .int j_riderCount, .int (nI ll_12), .int (nI hr9)]))] ++ va_pl L f_11) H := hP
    have hD : va_D A ([(h0, .inr (8, [.ref a1, .ref a2, .ref a3, .ref a4, .ref a5, .ref a6, .ref a7, .ref a8, .ref a9, .int j_faultKind, .int j_horseCount, .int j_tabletCount, .int j_riderCount, .int (nI ll_12), .int (nI hr9)]))] ++ va_pl L f_11) := hD
    have hFr_17 := FR.tr hFr_8 hf_x_15
    refine W.widen (k := 0) (n := 0) (Nat.le_of_ble_eq_true rfl) (Nat.le_of_ble_eq_true rfl) ?_
    refine lv_aload_n hx hb dX8_next_20 rfl (lv_at hl 0 rfl) ?_
    have hPc := hP.part (cx := [(h0, .inr (8, [.ref a1, .ref a2, .ref a3, .ref a4, .ref a5, .ref a6, .ref a7, .ref a8, .ref a9, .int j_faultKind, .int j_horseCount, .int j_tabletCount, .int j_riderCount, .int (nI ll_12), .int (nI hr9)]))]) [0] rfl
    have hDc := hD.part (cx := [(h0, .inr (8, [.ref a1, .ref a2, .ref a3, .ref a4, .ref a5, .ref a6, .ref a7, .ref a8, .ref a9, .int j_faultKind, .int j_horseCount, .int j_tabletCount, .int j_riderCount, .int (nI ll_12), .int (nI hr9)]))]) [0] (by decide) rfl
    have hKc := hK
    have hFc := va_freeP (cx := [(h0, .inr (8, [.ref a1, .ref a2, .ref a3, .ref a4, .ref a5, .ref a6, .ref a7, .ref a8, .ref a9, .int j_faultKind, .int j_horseCount, .int j_tabletCount, .int j_riderCount, .int (nI ll_12), .int (nI hr9)]))]) hD hS hA [0] rfl
    refine va_callv (va_runV (As := []) (rest := []) ⟨hx, hb, hml, hown, hts⟩ (e_X8_sendLine l dC dI cs L ka ix ad n0 n6 n2 S_10 f_11 gq h0 a1 a2 a3 a4 a5 a6 a7 a8 a9 j_faultKind j_horseCount j_tabletCount j_riderCount (nI hr9) ll_12 lm_13 H.size hT hY (by omega) hf_x_16.2.2.1) (cwV 0 hts gX8_next_X8_sendLine rfl rfl rfl (by decide +kernel) ⟨Nat.le_of_ble_eq_true rfl, Nat.le_of_ble_eq_true rfl⟩) ⟨c_blind, va_recv hKc hPc (ci := 8) (q0 := 0) rfl rfl, c_pre hPc hKc hDc hN⟩ rfl rfl hl.1 rfl (lv_room (Nat.le_of_ble_eq_true rfl)) dX8_next_21 ⟨Nat.le_of_ble_eq_true rfl, Nat.le_of_ble_eq_true rfl⟩) hS (fun q _ h => hFc q h) hFc (fun u9 t9 H1 locs ht hvm hw hB hz1 hk1 hS => ?_)
    obtain ⟨S_19, f_20, hf_x_21, hf_x_22, hf_x_23, hP1, hK1, hD1⟩ := hB
    rw [ht] at hP1
    have hK1 := va_K.moved hvm.symm hK1
    obtain ⟨hP, hD⟩ := va_joinP (X := [(h0, .inr (8, [.ref a1, .ref a2, .ref a3, .ref a4, .ref a5, .ref a6, .ref a7, .ref a8, .ref a9, .int j_faultKind, .int j_horseCount, .int j_tabletCount, .int j_riderCount, .int (nI ll_12), .int (nI hr9)]))]) (cx := [(h0, .inr (8, [.ref a1, .ref a2, .ref a3, .ref a4, .ref a5, .ref a6, .ref a7, .ref a8, .ref a9, .int j_faultKind, .int j_horseCount, .int j_tabletCount, .int j_riderCount, .int (nI ll_12), .int (nI hr9)]))]) (wr := []) (rx := [(h0, .inr (8, [.ref a1, .ref a2, .ref a3, .ref a4, .ref a5, .ref a6, .ref a7, .ref a8, .ref a9, .int j_faultKind, .int j_horseCount, .int j_tabletCount, .int j_riderCount, .int (nI ll_12), .int (nI hr9)]))]) (pl := va_pl L f_11) (pl1 := va_pl L f_20) hP hD [0] [] rfl rfl (by decide) (by decide) hk1 hFc hP1 hD1
    have hT := hf_x_21
    generalize H1 = H at hP hS ⊢
    have hP : va_P (dC, dI) vwCl ([(h0, .inr (8, [.ref a1, .ref a2, .ref a3, .ref a4, .ref a5, .ref a6, .ref a7, .ref a8, .ref a9, .int j_faultKind, .int j_horseCount, .int j_tabletCount, .int j_riderCount, .int (nI ll_12), .int (nI hr9)]))] ++ va_pl L f_20) H := hP
    have hD : va_D A ([(h0, .inr (8, [.ref a1, .ref a2, .ref a3, .ref a4, .ref a5, .ref a6, .ref a7, .ref a8, .ref a9, .int j_faultKind, .int j_horseCount, .int j_tabletCount, .int j_riderCount, .int (nI ll_12), .int (nI hr9)]))] ++ va_pl L f_20) := hD
    have hFr_24 := FR.tr hFr_17 hf_x_22
    refine W.widen (k := 0) (n := 0) (Nat.le_of_ble_eq_true rfl) (Nat.le_of_ble_eq_true rfl) ?_
    refine lv_aload_n hx hb dX8_next_24 rfl (lv_at hl 0 rfl) ?_
    refine lv_dup hx hb dX8_next_25 rfl ?_
    refine va_get (D := (dC, dI)) (ci := 8) (v := .int (nI hr9)) (C := RX8) (T := TX8) (N := 15) hx hb hts hin8 hown hK hP 0 rfl rfl 14 (by decide) (hts (.fieldLink RX8 140 "YamRiders" "hour" "I") (by decide +kernel)) (fun _ h9 => h9) rfl dX8_next_26 ?_
    refine lv_iconst (v := 1) hx hb dX8_next_29 (by decide) ?_
    refine lv_iadd hx hb dX8_next_30 ?_
    refine lv_topi (fun y_25 ey_25 => ?_)
    obtain rfl : y_25 = nI (hr9 + 1) := ey_25.trans (nI_1 hr9)
    refine va_put (D := (dC, dI)) (ci := 8) (v := .int (nI (hr9 + 1))) (ty := (tyX8 14)) (C := RX8) (T := TX8) (N := 15) hx hb hts hin8 tyX8 tyX8_ok nmX8 hown hK hP hD hS 0 rfl rfl 14 (by decide) (hts (.fieldLink RX8 140 "YamRiders" "hour" "I") (by decide +kernel)) (fun _ h9 => h9) rfl (by decide +kernel) rfl rfl (Nat.le_of_ble_eq_true rfl) dX8_next_31 (fun H locs hP hD hS => ?_)
    have hP : va_P (dC, dI) vwCl ([(h0, .inr (8, [.ref a1, .ref a2, .ref a3, .ref a4, .ref a5, .ref a6, .ref a7, .ref a8, .ref a9, .int j_faultKind, .int j_horseCount, .int j_tabletCount, .int j_riderCount, .int (nI ll_12), .int (nI (hr9 + 1))]))] ++ va_pl L f_20) H := hP
    have hD : va_D A ([(h0, .inr (8, [.ref a1, .ref a2, .ref a3, .ref a4, .ref a5, .ref a6, .ref a7, .ref a8, .ref a9, .int j_faultKind, .int j_horseCount, .int j_tabletCount, .int j_riderCount, .int (nI ll_12), .int (nI (hr9 + 1))]))] ++ va_pl L f_20) := hD
    refine lv_aload_n hx hb dX8_next_34 rfl (lv_at hl 0 rfl) ?_
    have hPc := hP.part (cx := [(h0, .inr (8, [.ref a1, .ref a2, .ref a3, .ref a4, .ref a5, .ref a6, .ref a7, .ref a8, .ref a9, .int j_faultKind, .int j_horseCount, .int j_tabletCount, .int j_riderCount, .int (nI ll_12), .int (nI (hr9 + 1))]))]) [0] rfl
    have hDc := hD.part (cx := [(h0, .inr (8, [.ref a1, .ref a2, .ref a3, .ref a4, .ref a5, .ref a6, .ref a7, .ref a8, .ref a9, .int j_faultKind, .int j_horseCount, .int j_tabletCount, .int j_riderCount, .int (nI ll_12), .int (nI (hr9 + 1))]))]) [0] (by decide) rfl
    have hKc := hK
    have hFc := va_freeP (cx := [(h0, .inr (8, [.ref a1, .ref a2, .ref a3, .ref a4, .ref a5, .ref a6, .ref a7, .ref a8, .ref a9, .int j_faultKind, .int j_horseCount, .int j_tabletCount, .int j_riderCount, .int (nI ll_12), .int (nI (hr9 + 1))]))]) hD hS hA [0] rfl
    refine va_callv (va_runV (As := []) (rest := []) ⟨hx, hb, hml, hown, hts⟩ (e_X8_bringComers l dC dI cs L ka ix ad n0 n6 n2 S_19 f_20 gq h0 a1 a2 a3 a4 a5 a6 a7 a8 a9 j_faultKind j_horseCount j_tabletCount j_riderCount (nI ll_12) (nI (hr9 + 1)) H.size hT hY) (cwV 0 hts gX8_next_X8_bringComers rfl rfl rfl (by decide +kernel) ⟨Nat.le_of_ble_eq_true rfl, Nat.le_of_ble_eq_true rfl⟩) ⟨c_blind, va_recv hKc hPc (ci := 8) (q0 := 0) rfl rfl, c_pre hPc hKc hDc hN⟩ rfl rfl hl.1 rfl (lv_room (Nat.le_of_ble_eq_true rfl)) dX8_next_35 ⟨Nat.le_of_ble_eq_true rfl, Nat.le_of_ble_eq_true rfl⟩) hS (fun q _ h => hFc q h) hFc (fun u9 t9 H1 locs ht hvm hw hB hz1 hk1 hS => ?_)
    obtain ⟨S_27, f_28, hf_x_29, hf_x_30, hf_x_31, hP1, hK1, hD1⟩ := hB
    rw [ht] at hP1
    have hK1 := va_K.moved hvm.symm hK1
    obtain ⟨hP, hD⟩ := va_joinP (X := [(h0, .inr (8, [.ref a1, .ref a2, .ref a3, .ref a4, .ref a5, .ref a6, .ref a7, .ref a8, .ref a9, .int j_faultKind, .int j_horseCount, .int j_tabletCount, .int j_riderCount, .int (nI ll_12), .int (nI (hr9 + 1))]))]) (cx := [(h0, .inr (8, [.ref a1, .ref a2, .ref a3, .ref a4, .ref a5, .ref a6, .ref a7, .ref a8, .ref a9, .int j_faultKind, .int j_horseCount, .int j_tabletCount, .int j_riderCount, .int (nI ll_12), .int (nI (hr9 + 1))]))]) (wr := []) (rx := [(h0, .inr (8, [.ref a1, .ref a2, .ref a3, .ref a4, .ref a5, .ref a6, .ref a7, .ref a8, .ref a9, .int j_faultKind, .int j_horseCount, .int j_tabletCount, .int j_riderCount, .int (nI ll_12), .int (nI (hr9 + 1))]))]) (pl := va_pl L f_20) (pl1 := va_pl L f_28) hP hD [0] [] rfl rfl (by decide) (by decide) hk1 hFc hP1 hD1
    have hT := hf_x_29
    generalize H1 = H at hP hS ⊢
    have hP : va_P (dC, dI) vwCl ([(h0, .inr (8, [.ref a1, .ref a2, .ref a3, .ref a4, .ref a5, .ref a6, .ref a7, .ref a8, .ref a9, .int j_faultKind, .int j_horseCount, .int j_tabletCount, .int j_riderCount, .int (nI ll_12), .int (nI (hr9 + 1))]))] ++ va_pl L f_28) H := hP
    have hD : va_D A ([(h0, .inr (8, [.ref a1, .ref a2, .ref a3, .ref a4, .ref a5, .ref a6, .ref a7, .ref a8, .ref a9, .int j_faultKind, .int j_horseCount, .int j_tabletCount, .int j_riderCount, .int (nI ll_12), .int (nI (hr9 + 1))]))] ++ va_pl L f_28) := hD
    have hFr_32 := FR.tr hFr_24 hf_x_30
    refine W.widen (k := 0) (n := 0) (Nat.le_of_ble_eq_true rfl) (Nat.le_of_ble_eq_true rfl) ?_
    refine lv_aload_n hx hb dX8_next_38 rfl (lv_at hl 0 rfl) ?_
    refine va_get (D := (dC, dI)) (ci := 8) (v := .int (nI (hr9 + 1))) (C := RX8) (T := TX8) (N := 15) hx hb hts hin8 hown hK hP 0 rfl rfl 14 (by decide) (hts (.fieldLink RX8 140 "YamRiders" "hour" "I") (by decide +kernel)) (fun _ h9 => h9) rfl dX8_next_39 ?_
    have hP9 := hP.part (cx := [(h0, .inr (8, [.ref a1, .ref a2, .ref a3, .ref a4, .ref a5, .ref a6, .ref a7, .ref a8, .ref a9, .int j_faultKind, .int j_horseCount, .int j_tabletCount, .int j_riderCount, .int (nI ll_12), .int (nI (hr9 + 1))]))]) [0] rfl
    have hD9 := hD.part (cx := [(h0, .inr (8, [.ref a1, .ref a2, .ref a3, .ref a4, .ref a5, .ref a6, .ref a7, .ref a8, .ref a9, .int j_faultKind, .int j_horseCount, .int j_tabletCount, .int j_riderCount, .int (nI ll_12), .int (nI (hr9 + 1))]))]) [0] (by decide) rfl
    have hK9 := hK.sub (tys' := []) [] rfl
    refine W.widen (k := 0) (n := 0) (Nat.le_of_ble_eq_true rfl) (Nat.le_of_ble_eq_true rfl) ?_
    exact W.iret (v := nI (hr9 + 1)) hx hb hr (fun t9 ht hW => ⟨⟨_, nI (hr9 + 1), rfl, rfl, S_27, f_28, ll_12, (hr9 + 1), hT, hFr_32, (by have h9 := (nI_ltN (n := 9999) c_1 (by omega) (by decide)); exact ⟨by omega, by omega, (Or.inr ⟨rfl, rfl, (nI_ltN (n := 9999) c_1 (by omega) (by decide))⟩)⟩), (Or.inr ⟨nI_ltq (n := 9999) c_1 (by omega) (by decide), _, _, _, by rw [← hf_x_7]; exact hf_x_16.2, by rw [← hf_x_23]; exact hf_x_31⟩), by rw [ht]; exact hP9, va_K.moved hW.alike hK9, hD9⟩, hS.F ht⟩) hS.2.2 dX8_next_42
  · refine lv_iconst (v := (-1)) hx hb dX8_next_10 (by decide) ?_
    have hP9 := hP.part (cx := [(h0, .inr (8, [.ref a1, .ref a2, .ref a3, .ref a4, .ref a5, .ref a6, .ref a7, .ref a8, .ref a9, .int j_faultKind, .int j_horseCount, .int j_tabletCount, .int j_riderCount, .int (nI ll9), .int (nI hr9)]))]) [0] rfl
    have hD9 := hD.part (cx := [(h0, .inr (8, [.ref a1, .ref a2, .ref a3, .ref a4, .ref a5, .ref a6, .ref a7, .ref a8, .ref a9, .int j_faultKind, .int j_horseCount, .int j_tabletCount, .int j_riderCount, .int (nI ll9), .int (nI hr9)]))]) [0] (by decide) rfl
    have hK9 := hK.sub (tys' := []) [] rfl
    refine W.widen (k := 0) (n := 0) (Nat.le_of_ble_eq_true rfl) (Nat.le_of_ble_eq_true rfl) ?_
    exact W.iret (v := (-1)) hx hb hr (fun t9 ht hW => ⟨⟨_, (-1), rfl, rfl, S, f, ll9, hr9, hT, FR.rf, ⟨by omega, by omega, (Or.inl ⟨rfl, rfl, (nI_geN (m := 9999) (Int32.not_lt.mp c_1) (by decide) (by omega))⟩)⟩, (Or.inl ⟨fun w => c_1 (nI_lt (b := 9999) w (by decide)), rfl⟩), by rw [ht]; exact hP9, va_K.moved hW.alike hK9, hD9⟩, hS.F ht⟩) hS.2.2 dX8_next_11
