set_option maxHeartbeats 4000000 in
set_option maxRecDepth 100000 in
theorem l_X1_nearestShort (l : Launch) (dC : Nat → ClassId) (dI : Nat → Nat → Nat) (cs : Nat → ClassId) (L : List Nat) (ka : Nat → Nat) (ix : Nat → Nat) (ad : Nat → Nat → Nat) (n0 : Nat) (n6 : Nat) (n2 : Nat) (S : Nat → Nat → Nat → Int32) (f : Nat → va_E) (h0 : Nat) (sz : Nat) (hT : tB L ka ix ad cs n0 n6 n2 S f) (hk_h0 : tpx L ka ix 1 0 h0) : Met l yX1_nearestShort wsX1_nearestShort ({ frames := 0, cells := 0, slots := 0, locals := 0 }) (va_Pc [.ref h0] (cP dC dI ([] ++ va_pl L f) (tyC cs) sz)) (vp_Si (fun r => NSr S r)) 0 0 (fun _ => False) := by
  refine Met.ofW (cc := cX1_nearestShort) (maxL := 4) (ret := (some .int)) (by decide) rfl ?_
  intro p e s m args below meth c s₁ B hml hv
  obtain ⟨rfl, hsz, hP, hK, hD0, hN⟩ := hv
  have hx := B.exec
  have hb := B.bytes
  have hr := B.returns
  have hts := atoms_spec (ws := wsX1_nearestShort) B.pre
  have hown : s.vm.findClass RX1 = some m.cls := findClass_of_methodNamed B.named
  have hlocks := B.notSynchronized
  subst hsz
  have hin1 : ∀ w ∈ u_ws RX1 TX1 4, w ∈ wsX1_nearestShort := by decide +kernel
  have hD := hD0
  have hP : va_P (dC, dI) vwCl ([] ++ va_pl L f) s.heap := hP
  have hl := lv_entry ([.ref h0]) (n := 4) (Nat.le_of_ble_eq_true rfl)
  rw [lg_entry_eq]
  generalize (lg_sl ([.ref h0]) ++ List.replicate (4 - (lg_sl ([.ref h0])).length) Slot.unset).toArray = ls at hl ⊢
  have hl : lv_has ls 4 [(0, .ref h0)] := hl
  refine lv_iconst (v := (-1)) hx hb dX1_nearestShort_0 (by decide) ?_
  refine lv_istore_n (lv' := [(1, .int (-1)), (0, .ref h0)]) hx hb dX1_nearestShort_1 rfl hl (by decide) rfl (fun ls hl => ?_)
  refine lv_ldc (v := 1000000) hx hb hown (hts (.constant RX1 56 (1000000)) (by decide +kernel)) dX1_nearestShort_2 ?_
  refine lv_istore_n (lv' := [(2, .int 1000000), (1, .int (-1)), (0, .ref h0)]) hx hb dX1_nearestShort_4 rfl hl (by decide) rfl (fun ls hl => ?_)
  refine lv_iconst (v := 0) hx hb dX1_nearestShort_5 (by decide) ?_
  refine lv_istore_n (lv' := [(3, .int 0), (2, .int 1000000), (1, .int (-1)), (0, .ref h0)]) hx hb dX1_nearestShort_6 rfl hl (by decide) rfl (fun ls hl => ?_)
  have HL : ∀ (n k : Nat) (x1 : Int32) (x2 : Int32), k ≤ 12 → 12 + 1 ≤ k + n → (NSk S k x1 x2) → ∀ ls : Array Slot, lv_has ls 4 [(0, .ref h0), (1, .int x1), (2, .int x2), (3, .int (nI k))] → W p l e (headSpec wsX1_nearestShort ({ frames := 0, cells := 0, slots := 0, locals := 0 })).room s m ([.ref h0]).toArray below meth c s.heap [] 0 0 (MQ below (vp_Si (fun r => NSr S r)) ([.ref h0]).toArray s 0 0 (fun _ => False)) (F0 m 7 ls []) := by
    intro n
    induction n with
    | zero => intro k x1 x2 h1 h2; exact absurd h2 (by omega)
    | succ n ih =>
      intro k x1 x2 hk hn hNS ls hl
      refine lv_iload_n hx hb dX1_nearestShort_7 rfl (lv_at hl 3 rfl) ?_
      refine lv_bipush (v := 12) hx hb dX1_nearestShort_8 (by decide) ?_
      refine lv_icmp_ge (tgt := 47) hx hb dX1_nearestShort_10 (by decide) (fun c_1 => ?_) (fun c_1 => ?_)
      · have hke : k = 12 := by
          rcases Nat.lt_or_ge k 12 with q | q
          · exact absurd c_1 (nI_ge q (by decide))
          · omega
        refine lv_iload_n hx hb dX1_nearestShort_47 rfl (lv_at hl 1 rfl) ?_
        exact W.iret (v := x1) hx hb hr (fun t9 ht hW => ⟨_, rfl, (NSk_e (hke ▸ hNS)), ht⟩) (fun q h => nomatch h) dX1_nearestShort_48
      · have hlt : k < 12 := by
          rcases Nat.lt_or_ge k 12 with q | q
          · exact q
          · exact absurd (show nI 12 ≤ nI k from nI_le q (by omega)) c_1
        refine lv_aload_n hx hb dX1_nearestShort_13 rfl (lv_at hl 0 rfl) ?_
        have hf_2 : f h0 = .inr (1, [.ref (ad 41 0), .ref (ad 42 0), .ref (ad 43 0), .ref (ad 44 0)]) := hT.get hk_h0
        obtain ⟨q_3, hq_3⟩ := pl_at (X := []) (f := f) (e := .inr (1, [.ref (ad 41 0), .ref (ad 42 0), .ref (ad 43 0), .ref (ad 44 0)])) hk_h0.1 hf_2
        refine va_get (D := (dC, dI)) (ci := 1) (v := .ref (ad 41 0)) (C := RX1) (T := TX1) (N := 4) hx hb hts hin1 hown hK hP q_3 hq_3 rfl 0 (by decide) (hts (.fieldLink RX1 9 "YamRiders$Leader" "spare" "[I") (by decide +kernel)) (fun _ h9 => h9) rfl dX1_nearestShort_14 ?_
        refine lv_iload_n hx hb dX1_nearestShort_17 rfl (lv_at hl 3 rfl) ?_
        have hf_4 : f (ad 41 0) = .inl (cs 0, 12, .inl (S 656 0)) := hT.get (hT.kf (k := 41) (by decide))
        obtain ⟨q_5, hq_5⟩ := pl_at (X := []) (f := f) (e := .inl (cs 0, 12, .inl (S 656 0))) (hT.kf (k := 41) (by decide)).1 hf_4
        refine va_iald hx hb hK hP q_5 0 hq_5 rfl (vp_in_nI (by omega) (by omega)) dX1_nearestShort_18 ?_
        refine lv_topi (fun v_6 ev_6 => ?_)
        obtain rfl : v_6 = S 656 0 k := ev_6.trans (by rw [(nI_clamp (by omega))])
        refine lv_if_ge (tgt := 41) hx hb dX1_nearestShort_19 (by decide) (fun c_7 => ?_) (fun c_7 => ?_)
        · refine lv_iinc (v := nI (k + 1)) (lv' := [(3, .int (nI (k + 1))), (0, .ref h0), (1, .int x1), (2, .int x2)]) hx hb dX1_nearestShort_41 hl (k := 3) rfl (by exact (nI_1 k)) (by decide) rfl (fun ls hl => ?_)
          refine lv_goto (tgt := 7) hx hb dX1_nearestShort_44 (by decide) ?_
          exact ih (k + 1) x1 x2 (by omega) (by omega) (NSk_p hNS c_7) ls (lv_sub hl [1, 2, 3, 0] rfl)
        · refine lv_aload_n hx hb dX1_nearestShort_22 rfl (lv_at hl 0 rfl) ?_
          obtain ⟨q_8, hq_8⟩ := pl_at (X := []) (f := f) (e := .inr (1, [.ref (ad 41 0), .ref (ad 42 0), .ref (ad 43 0), .ref (ad 44 0)])) hk_h0.1 hf_2
          refine va_get (D := (dC, dI)) (ci := 1) (v := .ref (ad 43 0)) (C := RX1) (T := TX1) (N := 4) hx hb hts hin1 hown hK hP q_8 hq_8 rfl 2 (by decide) (hts (.fieldLink RX1 20 "YamRiders$Leader" "pains" "[I") (by decide +kernel)) (fun _ h9 => h9) rfl dX1_nearestShort_23 ?_
          refine lv_iload_n hx hb dX1_nearestShort_26 rfl (lv_at hl 3 rfl) ?_
          have hf_9 : f (ad 43 0) = .inl (cs 0, 12, .inl (S 688 0)) := hT.get (hT.kf (k := 43) (by decide))
          obtain ⟨q_10, hq_10⟩ := pl_at (X := []) (f := f) (e := .inl (cs 0, 12, .inl (S 688 0))) (hT.kf (k := 43) (by decide)).1 hf_9
          refine va_iald hx hb hK hP q_10 0 hq_10 rfl (vp_in_nI (by omega) (by omega)) dX1_nearestShort_27 ?_
          refine lv_topi (fun v_11 ev_11 => ?_)
          obtain rfl : v_11 = S 688 0 k := ev_11.trans (by rw [(nI_clamp (by omega))])
          refine lv_iload_n hx hb dX1_nearestShort_28 rfl (lv_at hl 2 rfl) ?_
          refine lv_icmp_ge (tgt := 41) hx hb dX1_nearestShort_29 (by decide) (fun c_12 => ?_) (fun c_12 => ?_)
          · refine lv_iinc (v := nI (k + 1)) (lv' := [(3, .int (nI (k + 1))), (0, .ref h0), (1, .int x1), (2, .int x2)]) hx hb dX1_nearestShort_41 hl (k := 3) rfl (by exact (nI_1 k)) (by decide) rfl (fun ls hl => ?_)
            refine lv_goto (tgt := 7) hx hb dX1_nearestShort_44 (by decide) ?_
            exact ih (k + 1) x1 x2 (by omega) (by omega) (NSk_n hNS c_12) ls (lv_sub hl [1, 2, 3, 0] rfl)
          · refine lv_iload_n hx hb dX1_nearestShort_32 rfl (lv_at hl 3 rfl) ?_
            refine lv_istore_n (lv' := [(1, .int (nI k)), (0, .ref h0), (2, .int x2), (3, .int (nI k))]) hx hb dX1_nearestShort_33 rfl hl (by decide) rfl (fun ls hl => ?_)
            refine lv_aload_n hx hb dX1_nearestShort_34 rfl (lv_at hl 1 rfl) ?_
            obtain ⟨q_13, hq_13⟩ := pl_at (X := []) (f := f) (e := .inr (1, [.ref (ad 41 0), .ref (ad 42 0), .ref (ad 43 0), .ref (ad 44 0)])) hk_h0.1 hf_2
            refine va_get (D := (dC, dI)) (ci := 1) (v := .ref (ad 43 0)) (C := RX1) (T := TX1) (N := 4) hx hb hts hin1 hown hK hP q_13 hq_13 rfl 2 (by decide) (hts (.fieldLink RX1 20 "YamRiders$Leader" "pains" "[I") (by decide +kernel)) (fun _ h9 => h9) rfl dX1_nearestShort_35 ?_
            refine lv_iload_n hx hb dX1_nearestShort_38 rfl (lv_at hl 3 rfl) ?_
            obtain ⟨q_14, hq_14⟩ := pl_at (X := []) (f := f) (e := .inl (cs 0, 12, .inl (S 688 0))) (hT.kf (k := 43) (by decide)).1 hf_9
            refine va_iald hx hb hK hP q_14 0 hq_14 rfl (vp_in_nI (by omega) (by omega)) dX1_nearestShort_39 ?_
            refine lv_topi (fun v_15 ev_15 => ?_)
            obtain rfl : v_15 = S 688 0 k := ev_15.trans (by rw [(nI_clamp (by omega))])
            refine lv_istore_n (lv' := [(2, .int (S 688 0 k)), (1, .int (nI k)), (0, .ref h0), (3, .int (nI k))]) hx hb dX1_nearestShort_40 rfl hl (by decide) rfl (fun ls hl => ?_)
            refine lv_iinc (v := nI (k + 1)) (lv' := [(3, .int (nI (k + 1))), (2, .int (S 688 0 k)), (1, .int (nI k)), (0, .ref h0)]) hx hb dX1_nearestShort_41 hl (k := 3) rfl (by exact (nI_1 k)) (by decide) rfl (fun ls hl => ?_)
            refine lv_goto (tgt := 7) hx hb dX1_nearestShort_44 (by decide) ?_
            exact ih (k + 1) (nI k) (S 688 0 k) (by omega) (by omega) (NSk_y (by omega) hNS c_7 c_12) ls (lv_sub hl [3, 2, 1, 0] rfl)
  exact HL 13 0 (-1) 1000000 (by omega) (by omega) NSk_0 ls (lv_sub hl [3, 2, 1, 0] rfl)

set_option maxHeartbeats 4000000 in
set_option maxRecDepth 100000 in
theorem l_X1_isAnyShort (l : Launch) (dC : Nat → ClassId) (dI : Nat → Nat → Nat) (cs : Nat → ClassId) (L : List Nat) (ka : Nat → Nat) (ix : Nat → Nat) (ad : Nat → Nat → Nat) (n0 : Nat) (n6 : Nat) (n2 : Nat) (S : Nat → Nat → Nat → Int32) (f : Nat → va_E) (h0 : Nat) (sz : Nat) (hT : tB L ka ix ad cs n0 n6 n2 S f) (hk_h0 : tpx L ka ix 1 0 h0) : Met l yX1_isAnyShort wsX1_isAnyShort ({ frames := 0, cells := 0, slots := 0, locals := 0 }) (va_Pc [.ref h0] (cP dC dI ([] ++ va_pl L f) (tyC cs) sz)) (vp_Si (fun r => AnS S r)) 0 0 (fun _ => False) := by
  refine Met.ofW (cc := cX1_isAnyShort) (maxL := 2) (ret := (some .boolean)) (by decide) rfl ?_
  intro p e s m args below meth c s₁ B hml hv
  obtain ⟨rfl, hsz, hP, hK, hD0, hN⟩ := hv
  have hx := B.exec
  have hb := B.bytes
  have hr := B.returns
  have hts := atoms_spec (ws := wsX1_isAnyShort) B.pre
  have hown : s.vm.findClass RX1 = some m.cls := findClass_of_methodNamed B.named
  have hlocks := B.notSynchronized
  subst hsz
  have hin1 : ∀ w ∈ u_ws RX1 TX1 4, w ∈ wsX1_isAnyShort := by decide +kernel
  have hD := hD0
  have hP : va_P (dC, dI) vwCl ([] ++ va_pl L f) s.heap := hP
  have hl := lv_entry ([.ref h0]) (n := 2) (Nat.le_of_ble_eq_true rfl)
  rw [lg_entry_eq]
  generalize (lg_sl ([.ref h0]) ++ List.replicate (2 - (lg_sl ([.ref h0])).length) Slot.unset).toArray = ls at hl ⊢
  have hl : lv_has ls 2 [(0, .ref h0)] := hl
  refine lv_iconst (v := 0) hx hb dX1_isAnyShort_0 (by decide) ?_
  refine lv_istore_n (lv' := [(1, .int 0), (0, .ref h0)]) hx hb dX1_isAnyShort_1 rfl hl (by decide) rfl (fun ls hl => ?_)
  have HL : ∀ (n k : Nat), k ≤ 12 → 12 + 1 ≤ k + n → (∀ v, v < k → 0 ≤ spI S v) → ∀ ls : Array Slot, lv_has ls 2 [(0, .ref h0), (1, .int (nI k))] → W p l e (headSpec wsX1_isAnyShort ({ frames := 0, cells := 0, slots := 0, locals := 0 })).room s m ([.ref h0]).toArray below meth c s.heap [] 0 0 (MQ below (vp_Si (fun r => AnS S r)) ([.ref h0]).toArray s 0 0 (fun _ => False)) (F0 m 2 ls []) := by
    intro n
    induction n with
    | zero => intro k h1 h2; exact absurd h2 (by omega)
    | succ n ih =>
      intro k hk hn hAn ls hl
      refine lv_iload_n hx hb dX1_isAnyShort_2 rfl (lv_at hl 1 rfl) ?_
      refine lv_bipush (v := 12) hx hb dX1_isAnyShort_3 (by decide) ?_
      refine lv_icmp_ge (tgt := 25) hx hb dX1_isAnyShort_5 (by decide) (fun c_1 => ?_) (fun c_1 => ?_)
      · have hke : k = 12 := by
          rcases Nat.lt_or_ge k 12 with q | q
          · exact absurd c_1 (nI_ge q (by decide))
          · omega
        refine lv_iconst (v := 0) hx hb dX1_isAnyShort_25 (by decide) ?_
        exact W.zret (v := 0) hx hb hr rfl (fun t9 ht hW => ⟨_, rfl, (Or.inr ⟨rfl, hke ▸ hAn⟩), ht⟩) (fun q h => nomatch h) dX1_isAnyShort_26
      · have hlt : k < 12 := by
          rcases Nat.lt_or_ge k 12 with q | q
          · exact q
          · exact absurd (show nI 12 ≤ nI k from nI_le q (by omega)) c_1
        refine lv_aload_n hx hb dX1_isAnyShort_8 rfl (lv_at hl 0 rfl) ?_
        have hf_2 : f h0 = .inr (1, [.ref (ad 41 0), .ref (ad 42 0), .ref (ad 43 0), .ref (ad 44 0)]) := hT.get hk_h0
        obtain ⟨q_3, hq_3⟩ := pl_at (X := []) (f := f) (e := .inr (1, [.ref (ad 41 0), .ref (ad 42 0), .ref (ad 43 0), .ref (ad 44 0)])) hk_h0.1 hf_2
        refine va_get (D := (dC, dI)) (ci := 1) (v := .ref (ad 41 0)) (C := RX1) (T := TX1) (N := 4) hx hb hts hin1 hown hK hP q_3 hq_3 rfl 0 (by decide) (hts (.fieldLink RX1 9 "YamRiders$Leader" "spare" "[I") (by decide +kernel)) (fun _ h9 => h9) rfl dX1_isAnyShort_9 ?_
        refine lv_iload_n hx hb dX1_isAnyShort_12 rfl (lv_at hl 1 rfl) ?_
        have hf_4 : f (ad 41 0) = .inl (cs 0, 12, .inl (S 656 0)) := hT.get (hT.kf (k := 41) (by decide))
        obtain ⟨q_5, hq_5⟩ := pl_at (X := []) (f := f) (e := .inl (cs 0, 12, .inl (S 656 0))) (hT.kf (k := 41) (by decide)).1 hf_4
        refine va_iald hx hb hK hP q_5 0 hq_5 rfl (vp_in_nI (by omega) (by omega)) dX1_isAnyShort_13 ?_
        refine lv_topi (fun v_6 ev_6 => ?_)
        obtain rfl : v_6 = S 656 0 k := ev_6.trans (by rw [(nI_clamp (by omega))])
        refine lv_if_ge (tgt := 19) hx hb dX1_isAnyShort_14 (by decide) (fun c_7 => ?_) (fun c_7 => ?_)
        · refine lv_iinc (v := nI (k + 1)) (lv' := [(1, .int (nI (k + 1))), (0, .ref h0)]) hx hb dX1_isAnyShort_19 hl (k := 1) rfl (by exact (nI_1 k)) (by decide) rfl (fun ls hl => ?_)
          refine lv_goto (tgt := 2) hx hb dX1_isAnyShort_22 (by decide) ?_
          exact ih (k + 1) (by omega) (by omega) (An_s hAn c_7) ls (lv_sub hl [1, 0] rfl)
        · refine lv_iconst (v := 1) hx hb dX1_isAnyShort_17 (by decide) ?_
          exact W.zret (v := 1) hx hb hr rfl (fun t9 ht hW => ⟨_, rfl, (An_y (by omega) c_7), ht⟩) (fun q h => nomatch h) dX1_isAnyShort_18
  exact HL 13 0 (by omega) (by omega) (fun _ w => absurd w (Nat.not_lt_zero _)) ls (lv_sub hl [1, 0] rfl)

set_option maxHeartbeats 4000000 in
set_option maxRecDepth 100000 in
theorem l_X1_horsesAlong (l : Launch) (dC : Nat → ClassId) (dI : Nat → Nat → Nat) (cs : Nat → ClassId) (L : List Nat) (ka : Nat → Nat) (ix : Nat → Nat) (ad : Nat → Nat → Nat) (n0 : Nat) (n6 : Nat) (n2 : Nat) (S : Nat → Nat → Nat → Int32) (f : Nat → va_E) (h0 : Nat) (u9 : Nat) (pp9 : Nat → Int) (kk9 : Nat → Nat) (ck9 : Nat) (sz : Nat) (hT : tB L ka ix ad cs n0 n6 n2 S f) (hk_h0 : tpx L ka ix 1 0 h0) (hu9 : u9 < 12) (hBk : CBk S pp9 kk9 ck9) (hFs : FXs S) (hpf : paI S u9 < 1000000) (hsn : spI S u9 < 0) (hsb : ∀ v, v < 12 → -1000 ≤ spI S v ∧ spI S v ≤ 1000) : Met l yX1_horsesAlong wsX1_horsesAlong ({ frames := 1, cells := 0, slots := 0, locals := 24 }) (va_Pc [.ref h0, .int (nI u9)] (cP dC dI ([] ++ va_pl L f) (tyC cs) sz)) (vp_Si (fun r => ∃ n, HAf S pp9 kk9 ck9 u9 n r)) 0 0 (fun _ => False) := by
  refine Met.ofW (cc := cX1_horsesAlong) (maxL := 6) (ret := (some .int)) (by decide) rfl ?_
  intro p e s m args below meth c s₁ B hml hv
  obtain ⟨rfl, hsz, hP, hK, hD0, hN⟩ := hv
  have hx := B.exec
  have hb := B.bytes
  have hr := B.returns
  have hts := atoms_spec (ws := wsX1_horsesAlong) B.pre
  have hown : s.vm.findClass RX1 = some m.cls := findClass_of_methodNamed B.named
  have hlocks := B.notSynchronized
  subst hsz
  have hin1 : ∀ w ∈ u_ws RX1 TX1 4, w ∈ wsX1_horsesAlong := by decide +kernel
  have hD := hD0
  have hP : va_P (dC, dI) vwCl ([] ++ va_pl L f) s.heap := hP
  have hl := lv_entry ([.ref h0, .int (nI u9)]) (n := 6) (Nat.le_of_ble_eq_true rfl)
  rw [lg_entry_eq]
  generalize (lg_sl ([.ref h0, .int (nI u9)]) ++ List.replicate (6 - (lg_sl ([.ref h0, .int (nI u9)])).length) Slot.unset).toArray = ls at hl ⊢
  have hl : lv_has ls 6 [(0, .ref h0), (1, .int (nI u9))] := hl
  refine lv_iload_n hx hb dX1_horsesAlong_0 rfl (lv_at hl 1 rfl) ?_
  have hPc := hP.sub (ws' := []) [] rfl
  have hDc := hD.sub (ws' := []) [] (by decide) rfl
  have hKc := hK.sub (tys' := []) [] rfl
  refine cs_i (va_runSN (As := [.int (nI u9)]) (rest := []) ⟨hx, hb, hml, hown, hts⟩ (c_X8_isStation l dC dI (nI u9) s.heap.size) ⟨va_cnB 1 hts ggX1_horsesAlong_X8_isStation rfl rfl rfl (hN.1 (.methodLinkNest RX1 26 yX8_isStation "YamRiders") (by decide +kernel)) (hts (.initialized RX8) (by decide +kernel)) (by decide +kernel) ⟨Nat.le_of_ble_eq_true rfl, Nat.le_of_ble_eq_true rfl⟩, hts (.static yX8_isStation) (by decide +kernel), trivial⟩ ⟨c_blind, c_pre hPc hKc hDc hN⟩ rfl rfl hl.1 rfl (lv_room (Nat.le_of_ble_eq_true rfl)) dX1_horsesAlong_1 ⟨Nat.le_of_ble_eq_true rfl, Nat.le_of_ble_eq_true rfl⟩) (fun r_1 hr_1 => ?_)
  subst hr_1
  refine lv_if_ne (tgt := 9) hx hb dX1_horsesAlong_4 (by decide) (fun _ => ?_) (fun c_2 => by first | exact absurd c_2 (st_nz (by omega)) | exact absurd (st_nz (by omega)) c_2)
  refine lv_aload_n hx hb dX1_horsesAlong_9 rfl (lv_at hl 0 rfl) ?_
  have hf_3 : f h0 = .inr (1, [.ref (ad 41 0), .ref (ad 42 0), .ref (ad 43 0), .ref (ad 44 0)]) := hT.get hk_h0
  obtain ⟨q_4, hq_4⟩ := pl_at (X := []) (f := f) (e := .inr (1, [.ref (ad 41 0), .ref (ad 42 0), .ref (ad 43 0), .ref (ad 44 0)])) hk_h0.1 hf_3
  refine va_get (D := (dC, dI)) (ci := 1) (v := .ref (ad 41 0)) (C := RX1) (T := TX1) (N := 4) hx hb hts hin1 hown hK hP q_4 hq_4 rfl 0 (by decide) (hts (.fieldLink RX1 9 "YamRiders$Leader" "spare" "[I") (by decide +kernel)) (fun _ h9 => h9) rfl dX1_horsesAlong_10 ?_
  refine lv_iload_n hx hb dX1_horsesAlong_13 rfl (lv_at hl 1 rfl) ?_
  have hf_5 : f (ad 41 0) = .inl (cs 0, 12, .inl (S 656 0)) := hT.get (hT.kf (k := 41) (by decide))
  obtain ⟨q_6, hq_6⟩ := pl_at (X := []) (f := f) (e := .inl (cs 0, 12, .inl (S 656 0))) (hT.kf (k := 41) (by decide)).1 hf_5
  refine va_iald hx hb hK hP q_6 0 hq_6 rfl (vp_in_nI (by omega) (by omega)) dX1_horsesAlong_14 ?_
  refine lv_topi (fun v_7 ev_7 => ?_)
  obtain rfl : v_7 = S 656 0 u9 := ev_7.trans (by rw [(nI_clamp (by omega))])
  refine lv_ineg hx hb dX1_horsesAlong_15 ?_
  refine lv_topi (fun v_8 ev_8 => ?_)
  refine lv_istore_n (lv' := [(2, .int v_8), (0, .ref h0), (1, .int (nI u9))]) hx hb dX1_horsesAlong_16 rfl hl (by decide) rfl (fun ls hl => ?_)
  refine lv_iload_n hx hb dX1_horsesAlong_17 rfl (lv_at hl 2 rfl) ?_
  refine lv_istore_n (lv' := [(3, .int (nI u9)), (2, .int v_8), (0, .ref h0), (1, .int (nI u9))]) hx hb dX1_horsesAlong_18 rfl hl (by decide) rfl (fun ls hl => ?_)
  refine lv_iconst (v := 0) hx hb dX1_horsesAlong_19 (by decide) ?_
  refine lv_istore (lv' := [(4, .int 0), (3, .int (nI u9)), (2, .int v_8), (0, .ref h0), (1, .int (nI u9))]) hx hb dX1_horsesAlong_20 hl (by decide) rfl (fun ls hl => ?_)
  have HL : ∀ (n k : Nat) (x2 : Int32), k ≤ 12 → 12 + 1 ≤ k + n → (cg S u9 k < 12) → (HAk S pp9 kk9 ck9 u9 k x2) → ∀ ls : Array Slot, lv_has ls 6 [(0, .ref h0), (1, .int (nI u9)), (2, .int x2), (3, .int (nI (cg S u9 k))), (4, .int (nI k))] → W p l e (headSpec wsX1_horsesAlong ({ frames := 1, cells := 0, slots := 0, locals := 24 })).room s m ([.ref h0, .int (nI u9)]).toArray below meth c s.heap [] 0 0 (MQ below (vp_Si (fun r => ∃ n, HAf S pp9 kk9 ck9 u9 n r)) ([.ref h0, .int (nI u9)]).toArray s 0 0 (fun _ => False)) (F0 m 22 ls []) := by
    intro n
    induction n with
    | zero => intro k x2 h1 h2; exact absurd h2 (by omega)
    | succ n ih =>
      intro k x2 hk hn hcg hHA ls hl
      refine lv_iload hx hb dX1_horsesAlong_22 (lv_at hl 4 rfl) ?_
      refine lv_bipush (v := 12) hx hb dX1_horsesAlong_24 (by decide) ?_
      refine lv_icmp_ge (tgt := 84) hx hb dX1_horsesAlong_26 (by decide) (fun c_9 => ?_) (fun c_9 => ?_)
      · have hke : k = 12 := by
          rcases Nat.lt_or_ge k 12 with q | q
          · exact absurd c_9 (nI_ge q (by decide))
          · omega
        exact (by have h9 := CH_cl k hHA.1; omega : False).elim
      · have hlt : k < 12 := by
          rcases Nat.lt_or_ge k 12 with q | q
          · exact q
          · exact absurd (show nI 12 ≤ nI k from nI_le q (by omega)) c_9
        refine lv_aload_n hx hb dX1_horsesAlong_29 rfl (lv_at hl 0 rfl) ?_
        have hf_10 : f h0 = .inr (1, [.ref (ad 41 0), .ref (ad 42 0), .ref (ad 43 0), .ref (ad 44 0)]) := hT.get hk_h0
        obtain ⟨q_11, hq_11⟩ := pl_at (X := []) (f := f) (e := .inr (1, [.ref (ad 41 0), .ref (ad 42 0), .ref (ad 43 0), .ref (ad 44 0)])) hk_h0.1 hf_10
        refine va_get (D := (dC, dI)) (ci := 1) (v := .ref (ad 44 0)) (C := RX1) (T := TX1) (N := 4) hx hb hts hin1 hown hK hP q_11 hq_11 rfl 3 (by decide) (hts (.fieldLink RX1 23 "YamRiders$Leader" "from" "[I") (by decide +kernel)) (fun _ h9 => h9) rfl dX1_horsesAlong_30 ?_
        refine lv_iload_n hx hb dX1_horsesAlong_33 rfl (lv_at hl 3 rfl) ?_
        have hf_12 : f (ad 44 0) = .inl (cs 0, 12, .inl (S 704 0)) := hT.get (hT.kf (k := 44) (by decide))
        obtain ⟨q_13, hq_13⟩ := pl_at (X := []) (f := f) (e := .inl (cs 0, 12, .inl (S 704 0))) (hT.kf (k := 44) (by decide)).1 hf_12
        refine va_iald hx hb hK hP q_13 0 hq_13 rfl (vp_in_nI (by omega) (by omega)) dX1_horsesAlong_34 ?_
        refine lv_topi (fun v_14 ev_14 => ?_)
        obtain rfl : v_14 = S 704 0 (cg S u9 k) := ev_14.trans (by rw [(nI_clamp (by omega))])
        have hPc := hP.sub (ws' := []) [] rfl
        have hDc := hD.sub (ws' := []) [] (by decide) rfl
        have hKc := hK.sub (tys' := []) [] rfl
        refine cs_i (va_runSN (As := [.int (S 704 0 (cg S u9 k))]) (rest := []) ⟨hx, hb, hml, hown, hts⟩ (c_X8_isStation l dC dI (S 704 0 (cg S u9 k)) s.heap.size) ⟨va_cnB 1 hts ggX1_horsesAlong_X8_isStation rfl rfl rfl (hN.1 (.methodLinkNest RX1 26 yX8_isStation "YamRiders") (by decide +kernel)) (hts (.initialized RX8) (by decide +kernel)) (by decide +kernel) ⟨Nat.le_of_ble_eq_true rfl, Nat.le_of_ble_eq_true rfl⟩, hts (.static yX8_isStation) (by decide +kernel), trivial⟩ ⟨c_blind, c_pre hPc hKc hDc hN⟩ rfl rfl hl.1 rfl (lv_room (Nat.le_of_ble_eq_true rfl)) dX1_horsesAlong_35 ⟨Nat.le_of_ble_eq_true rfl, Nat.le_of_ble_eq_true rfl⟩) (fun r_15 hr_15 => ?_)
        subst hr_15
        refine lv_if_eq (tgt := 84) hx hb dX1_horsesAlong_38 (by decide) (fun c_16 => ?_) (fun c_16 => ?_)
        · refine lv_iload_n hx hb dX1_horsesAlong_84 rfl (lv_at hl 2 rfl) ?_
          refine lv_aload_n hx hb dX1_horsesAlong_85 rfl (lv_at hl 0 rfl) ?_
          obtain ⟨q_17, hq_17⟩ := pl_at (X := []) (f := f) (e := .inr (1, [.ref (ad 41 0), .ref (ad 42 0), .ref (ad 43 0), .ref (ad 44 0)])) hk_h0.1 hf_10
          refine va_get (D := (dC, dI)) (ci := 1) (v := .ref (ad 41 0)) (C := RX1) (T := TX1) (N := 4) hx hb hts hin1 hown hK hP q_17 hq_17 rfl 0 (by decide) (hts (.fieldLink RX1 9 "YamRiders$Leader" "spare" "[I") (by decide +kernel)) (fun _ h9 => h9) rfl dX1_horsesAlong_86 ?_
          refine lv_iload_n hx hb dX1_horsesAlong_89 rfl (lv_at hl 3 rfl) ?_
          have hf_18 : f (ad 41 0) = .inl (cs 0, 12, .inl (S 656 0)) := hT.get (hT.kf (k := 41) (by decide))
          obtain ⟨q_19, hq_19⟩ := pl_at (X := []) (f := f) (e := .inl (cs 0, 12, .inl (S 656 0))) (hT.kf (k := 41) (by decide)).1 hf_18
          refine va_iald hx hb hK hP q_19 0 hq_19 rfl (vp_in_nI (by omega) (by omega)) dX1_horsesAlong_90 ?_
          refine lv_topi (fun v_20 ev_20 => ?_)
          obtain rfl : v_20 = S 656 0 (cg S u9 k) := ev_20.trans (by rw [(nI_clamp (by omega))])
          refine va_mmin (x := x2) (y := S 656 0 (cg S u9 k)) hx hb (by rw [hml]; exact hl.1.symm) hown (hts (.methodLink RX1 71 Lib.Math.min.name) (by decide +kernel)) (hts (.static Lib.Math.min.name) (by decide +kernel)) (hts (.initialized "java/lang/Math") (by decide +kernel)) (hts (.code Lib.Math.min.name Lib.Math.min.code 2 (some .int)) (by decide +kernel)) (Nat.le_of_ble_eq_true rfl) (Nat.le_of_ble_eq_true rfl) (Nat.le_of_ble_eq_true rfl) (Nat.le_of_ble_eq_true rfl) dX1_horsesAlong_91 ?_
          refine lv_topi (fun v_21 ev_21 => ?_)
          exact W.iret (v := v_21) hx hb hr (fun t9 ht hW => ⟨_, rfl, ⟨k, HA_e hHA (CHs_e hBk hHA.1 c_16) ev_21⟩, ht⟩) (fun q h => nomatch h) dX1_horsesAlong_94
        · refine lv_aload_n hx hb dX1_horsesAlong_41 rfl (lv_at hl 0 rfl) ?_
          obtain ⟨q_22, hq_22⟩ := pl_at (X := []) (f := f) (e := .inr (1, [.ref (ad 41 0), .ref (ad 42 0), .ref (ad 43 0), .ref (ad 44 0)])) hk_h0.1 hf_10
          refine va_get (D := (dC, dI)) (ci := 1) (v := .ref (ad 44 0)) (C := RX1) (T := TX1) (N := 4) hx hb hts hin1 hown hK hP q_22 hq_22 rfl 3 (by decide) (hts (.fieldLink RX1 23 "YamRiders$Leader" "from" "[I") (by decide +kernel)) (fun _ h9 => h9) rfl dX1_horsesAlong_42 ?_
          refine lv_iload_n hx hb dX1_horsesAlong_45 rfl (lv_at hl 3 rfl) ?_
          obtain ⟨q_23, hq_23⟩ := pl_at (X := []) (f := f) (e := .inl (cs 0, 12, .inl (S 704 0))) (hT.kf (k := 44) (by decide)).1 hf_12
          refine va_iald hx hb hK hP q_23 0 hq_23 rfl (vp_in_nI (by omega) (by omega)) dX1_horsesAlong_46 ?_
          refine lv_topi (fun v_24 ev_24 => ?_)
          obtain rfl : v_24 = S 704 0 (cg S u9 k) := ev_24.trans (by rw [(nI_clamp (by omega))])
          obtain ⟨hch, hfr, hcn, hk11⟩ := CHs_x hBk hFs hHA.1 c_16
          refine W.eq (g2 := F0 m 47 ls [.int (nI (cg S u9 (k + 1)))]) (by rw [hfr]) ?_
          refine lv_istore (lv' := [(5, .int (nI (cg S u9 (k + 1)))), (0, .ref h0), (1, .int (nI u9)), (2, .int x2), (3, .int (nI (cg S u9 k))), (4, .int (nI k))]) hx hb dX1_horsesAlong_47 hl (by decide) rfl (fun ls hl => ?_)
          refine lv_aload_n hx hb dX1_horsesAlong_49 rfl (lv_at hl 1 rfl) ?_
          obtain ⟨q_25, hq_25⟩ := pl_at (X := []) (f := f) (e := .inr (1, [.ref (ad 41 0), .ref (ad 42 0), .ref (ad 43 0), .ref (ad 44 0)])) hk_h0.1 hf_10
          refine va_get (D := (dC, dI)) (ci := 1) (v := .ref (ad 42 0)) (C := RX1) (T := TX1) (N := 4) hx hb hts hin1 hown hK hP q_25 hq_25 rfl 1 (by decide) (hts (.fieldLink RX1 17 "YamRiders$Leader" "led" "[[I") (by decide +kernel)) (fun _ h9 => h9) rfl dX1_horsesAlong_50 ?_
          refine lv_iload_n hx hb dX1_horsesAlong_53 rfl (lv_at hl 4 rfl) ?_
          have hf_26 : f (ad 42 0) = .inl (cs 2, 12, .inr (.inr (.inr (.inr (gl ad 45 12))))) := hT.get (hT.kf (k := 42) (by decide))
          obtain ⟨q_27, hq_27⟩ := pl_at (X := []) (f := f) (e := .inl (cs 2, 12, .inr (.inr (.inr (.inr (gl ad 45 12)))))) (hT.kf (k := 42) (by decide)).1 hf_26
          refine va_aldg hx hb hK hP q_27 2 hq_27 rfl (vp_in_nI (by omega) (by omega)) (show gl ad 45 12 (nI (cg S u9 k)).toNatClampNeg = some (ad 45 (cg S u9 k)) from by rw [(nI_clamp (by omega))]; exact gl_p (by omega)) dX1_horsesAlong_54 ?_
          refine lv_iload hx hb dX1_horsesAlong_55 (lv_at hl 0 rfl) ?_
          have hf_28 : f (ad 45 (cg S u9 k)) = .inl (cs 0, 12, .inl (S 720 (cg S u9 k))) := hT.get (hT.k45 (i := (cg S u9 k)) (by omega))
          obtain ⟨q_29, hq_29⟩ := pl_at (X := []) (f := f) (e := .inl (cs 0, 12, .inl (S 720 (cg S u9 k)))) (hT.k45 (i := (cg S u9 k)) (by omega)).1 hf_28
          refine va_iald hx hb hK hP q_29 0 hq_29 rfl (vp_in_nI (by omega) (by omega)) dX1_horsesAlong_57 ?_
          refine lv_topi (fun v_30 ev_30 => ?_)
          obtain rfl : v_30 = S 720 (cg S u9 k) (cg S u9 (k + 1)) := ev_30.trans (by rw [(nI_clamp (by omega))])
          refine lv_if_le (tgt := 75) hx hb dX1_horsesAlong_58 (by decide) (fun c_31 => ?_) (fun c_31 => ?_)
          · refine lv_iload hx hb dX1_horsesAlong_75 (lv_at hl 0 rfl) ?_
            refine lv_istore_n (lv' := [(3, .int (nI (cg S u9 (k + 1)))), (5, .int (nI (cg S u9 (k + 1)))), (0, .ref h0), (1, .int (nI u9)), (2, .int x2), (4, .int (nI k))]) hx hb dX1_horsesAlong_77 rfl hl (by decide) rfl (fun ls hl => ?_)
            refine lv_iinc (v := nI (k + 1)) (lv' := [(4, .int (nI (k + 1))), (3, .int (nI (cg S u9 (k + 1)))), (5, .int (nI (cg S u9 (k + 1)))), (0, .ref h0), (1, .int (nI u9)), (2, .int x2)]) hx hb dX1_horsesAlong_78 hl (k := 5) rfl (by exact (nI_1 k)) (by decide) rfl (fun ls hl => ?_)
            refine lv_goto (tgt := 22) hx hb dX1_horsesAlong_81 (by decide) ?_
            exact ih (k + 1) x2 (by omega) (by omega) hcn (HA_n hHA hch c_31) ls (lv_sub hl [3, 4, 5, 1, 0] rfl)
          · refine lv_iload_n hx hb dX1_horsesAlong_61 rfl (lv_at hl 3 rfl) ?_
            refine lv_aload_n hx hb dX1_horsesAlong_62 rfl (lv_at hl 1 rfl) ?_
            obtain ⟨q_32, hq_32⟩ := pl_at (X := []) (f := f) (e := .inr (1, [.ref (ad 41 0), .ref (ad 42 0), .ref (ad 43 0), .ref (ad 44 0)])) hk_h0.1 hf_10
            refine va_get (D := (dC, dI)) (ci := 1) (v := .ref (ad 42 0)) (C := RX1) (T := TX1) (N := 4) hx hb hts hin1 hown hK hP q_32 hq_32 rfl 1 (by decide) (hts (.fieldLink RX1 17 "YamRiders$Leader" "led" "[[I") (by decide +kernel)) (fun _ h9 => h9) rfl dX1_horsesAlong_63 ?_
            refine lv_iload_n hx hb dX1_horsesAlong_66 rfl (lv_at hl 4 rfl) ?_
            obtain ⟨q_33, hq_33⟩ := pl_at (X := []) (f := f) (e := .inl (cs 2, 12, .inr (.inr (.inr (.inr (gl ad 45 12)))))) (hT.kf (k := 42) (by decide)).1 hf_26
            refine va_aldg hx hb hK hP q_33 2 hq_33 rfl (vp_in_nI (by omega) (by omega)) (show gl ad 45 12 (nI (cg S u9 k)).toNatClampNeg = some (ad 45 (cg S u9 k)) from by rw [(nI_clamp (by omega))]; exact gl_p (by omega)) dX1_horsesAlong_67 ?_
            refine lv_iload hx hb dX1_horsesAlong_68 (lv_at hl 0 rfl) ?_
            obtain ⟨q_34, hq_34⟩ := pl_at (X := []) (f := f) (e := .inl (cs 0, 12, .inl (S 720 (cg S u9 k)))) (hT.k45 (i := (cg S u9 k)) (by omega)).1 hf_28
            refine va_iald hx hb hK hP q_34 0 hq_34 rfl (vp_in_nI (by omega) (by omega)) dX1_horsesAlong_70 ?_
            refine lv_topi (fun v_35 ev_35 => ?_)
            obtain rfl : v_35 = S 720 (cg S u9 k) (cg S u9 (k + 1)) := ev_35.trans (by rw [(nI_clamp (by omega))])
            refine va_mmin (x := x2) (y := S 720 (cg S u9 k) (cg S u9 (k + 1))) hx hb (by rw [hml]; exact hl.1.symm) hown (hts (.methodLink RX1 71 Lib.Math.min.name) (by decide +kernel)) (hts (.static Lib.Math.min.name) (by decide +kernel)) (hts (.initialized "java/lang/Math") (by decide +kernel)) (hts (.code Lib.Math.min.name Lib.Math.min.code 2 (some .int)) (by decide +kernel)) (Nat.le_of_ble_eq_true rfl) (Nat.le_of_ble_eq_true rfl) (Nat.le_of_ble_eq_true rfl) (Nat.le_of_ble_eq_true rfl) dX1_horsesAlong_71 ?_
            refine lv_topi (fun v_36 ev_36 => ?_)
            refine lv_istore_n (lv' := [(2, .int v_36), (5, .int (nI (cg S u9 (k + 1)))), (0, .ref h0), (1, .int (nI u9)), (3, .int (nI (cg S u9 k))), (4, .int (nI k))]) hx hb dX1_horsesAlong_74 rfl hl (by decide) rfl (fun ls hl => ?_)
            refine lv_iload hx hb dX1_horsesAlong_75 (lv_at hl 1 rfl) ?_
            refine lv_istore_n (lv' := [(3, .int (nI (cg S u9 (k + 1)))), (2, .int v_36), (5, .int (nI (cg S u9 (k + 1)))), (0, .ref h0), (1, .int (nI u9)), (4, .int (nI k))]) hx hb dX1_horsesAlong_77 rfl hl (by decide) rfl (fun ls hl => ?_)
            refine lv_iinc (v := nI (k + 1)) (lv' := [(4, .int (nI (k + 1))), (3, .int (nI (cg S u9 (k + 1)))), (2, .int v_36), (5, .int (nI (cg S u9 (k + 1)))), (0, .ref h0), (1, .int (nI u9))]) hx hb dX1_horsesAlong_78 hl (k := 5) rfl (by exact (nI_1 k)) (by decide) rfl (fun ls hl => ?_)
            refine lv_goto (tgt := 22) hx hb dX1_horsesAlong_81 (by decide) ?_
            exact ih (k + 1) v_36 (by omega) (by omega) hcn (HA_y hHA hch c_31 ev_36) ls (lv_sub hl [4, 5, 2, 1, 0] rfl)
  have hcg0 : cg S u9 0 = u9 := rfl
  exact HL 13 0 v_8 (by omega) (by omega) hu9 (by rw [ev_8]; exact HA_0 hu9 hpf hsn (hsb u9 hu9).1) ls (lv_sub hl [3, 4, 2, 1, 0] rfl)

set_option maxHeartbeats 4000000 in
set_option maxRecDepth 100000 in
theorem l_X1_leadAlong (l : Launch) (dC : Nat → ClassId) (dI : Nat → Nat → Nat) (cs : Nat → ClassId) (L : List Nat) (ka : Nat → Nat) (ix : Nat → Nat) (ad : Nat → Nat → Nat) (n0 : Nat) (n6 : Nat) (n2 : Nat) (S : Nat → Nat → Nat → Int32) (f : Nat → va_E) (h0 : Nat) (u9 : Nat) (n9 : Nat) (p2 : Int32) (pp9 : Nat → Int) (kk9 : Nat → Nat) (ck9 : Nat) (sz : Nat) (hT : tB L ka ix ad cs n0 n6 n2 S f) (hk_h0 : tpx L ka ix 1 0 h0) (hu9 : u9 < 12) (hBk : CBk S pp9 kk9 ck9) (hFs : FXs S) (hpf : paI S u9 < 1000000) (hsn : spI S u9 < 0) (hsb : ∀ v, v < 12 → -1000 ≤ spI S v ∧ spI S v ≤ 1000) (hSy : Sy S) (hl9 : ∀ a, a < 12 → ∀ b, b < 12 → 0 ≤ lI S a b ∧ lI S a b ≤ 100000) (hHF : HAf S pp9 kk9 ck9 u9 n9 p2) (hq9 : 0 ≤ p2.toInt ∧ p2.toInt ≤ 1000) : Met l yX1_leadAlong wsX1_leadAlong ({ frames := 1, cells := 0, slots := 0, locals := 20 }) (va_Pc [.ref h0, .int (nI u9), .int p2] (cP dC dI ([] ++ va_pl L f) (tyC cs) sz)) (va_Qv (fun (_ : Unit) => True) (fun (_ : Unit) t9 => ∃ (S2 : Nat → Nat → Nat → Int32) (f2 : Nat → va_E), (tB L ka ix ad cs n0 n6 n2 S2 f2) ∧ (AG S S2) ∧ (LAf S S2 pp9 kk9 ck9 u9 n9 p2) ∧ cQ dC dI ([] ++ va_pl L f2) [] (va_A ([] ++ va_pl L f) sz) t9) (va_A ([] ++ va_pl L f) sz)) 0 0 (va_A ([] ++ va_pl L f) sz) := by
  refine Met.ofW (cc := cX1_leadAlong) (maxL := 6) (ret := none) (by decide) rfl ?_
  intro p e s m args below meth c s₁ B hml hv
  obtain ⟨rfl, hsz, hP, hK, hD0, hN⟩ := hv
  have hx := B.exec
  have hb := B.bytes
  have hr := B.returns
  have hts := atoms_spec (ws := wsX1_leadAlong) B.pre
  have hown : s.vm.findClass RX1 = some m.cls := findClass_of_methodNamed B.named
  have hlocks := B.notSynchronized
  subst hsz
  have hin1 : ∀ w ∈ u_ws RX1 TX1 4, w ∈ wsX1_leadAlong := by decide +kernel
  have hD := hD0.self (sz := s.heap.size)
  generalize hAe : va_A ([] ++ va_pl L f) s.heap.size = A at hD ⊢
  have hA : ∀ q : Nat, s.heap.size ≤ q → A q := fun q h => by rw [← hAe]; exact Or.inr h
  have hS : va_S A s.heap s.heap [] := va_S.rf
  have hP : va_P (dC, dI) vwCl ([] ++ va_pl L f) s.heap := hP
  have hl := lv_entry ([.ref h0, .int (nI u9), .int p2]) (n := 6) (Nat.le_of_ble_eq_true rfl)
  rw [lg_entry_eq]
  generalize (lg_sl ([.ref h0, .int (nI u9), .int p2]) ++ List.replicate (6 - (lg_sl ([.ref h0, .int (nI u9), .int p2])).length) Slot.unset).toArray = ls at hl ⊢
  have hl : lv_has ls 6 [(0, .ref h0), (1, .int (nI u9)), (2, .int p2)] := hl
  refine lv_iload_n hx hb dX1_leadAlong_0 rfl (lv_at hl 1 rfl) ?_
  have hPc := hP.sub (ws' := []) [] rfl
  have hDc := hD.sub (ws' := []) [] (by decide) rfl
  have hKc := hK.sub (tys' := []) [] rfl
  refine cs_i (va_runSN (As := [.int (nI u9)]) (rest := []) ⟨hx, hb, hml, hown, hts⟩ (c_X8_isStation l dC dI (nI u9) s.heap.size) ⟨va_cnB 1 hts ggX1_leadAlong_X8_isStation rfl rfl rfl (hN.1 (.methodLinkNest RX1 26 yX8_isStation "YamRiders") (by decide +kernel)) (hts (.initialized RX8) (by decide +kernel)) (by decide +kernel) ⟨Nat.le_of_ble_eq_true rfl, Nat.le_of_ble_eq_true rfl⟩, hts (.static yX8_isStation) (by decide +kernel), trivial⟩ ⟨c_blind, c_pre hPc hKc hDc hN⟩ rfl rfl hl.1 rfl (lv_room (Nat.le_of_ble_eq_true rfl)) dX1_leadAlong_1 ⟨Nat.le_of_ble_eq_true rfl, Nat.le_of_ble_eq_true rfl⟩) (fun r_1 hr_1 => ?_)
  subst hr_1
  refine lv_if_ne (tgt := 8) hx hb dX1_leadAlong_4 (by decide) (fun _ => ?_) (fun c_2 => by first | exact absurd c_2 (st_nz (by omega)) | exact absurd (st_nz (by omega)) c_2)
  refine lv_aload_n hx hb dX1_leadAlong_8 rfl (lv_at hl 0 rfl) ?_
  have hf_3 : f h0 = .inr (1, [.ref (ad 41 0), .ref (ad 42 0), .ref (ad 43 0), .ref (ad 44 0)]) := hT.get hk_h0
  obtain ⟨q_4, hq_4⟩ := pl_at (X := []) (f := f) (e := .inr (1, [.ref (ad 41 0), .ref (ad 42 0), .ref (ad 43 0), .ref (ad 44 0)])) hk_h0.1 hf_3
  refine va_get (D := (dC, dI)) (ci := 1) (v := .ref (ad 41 0)) (C := RX1) (T := TX1) (N := 4) hx hb hts hin1 hown hK hP q_4 hq_4 rfl 0 (by decide) (hts (.fieldLink RX1 9 "YamRiders$Leader" "spare" "[I") (by decide +kernel)) (fun _ h9 => h9) rfl dX1_leadAlong_9 ?_
  refine lv_iload_n hx hb dX1_leadAlong_12 rfl (lv_at hl 1 rfl) ?_
  refine lv_dup2_11 hx hb dX1_leadAlong_13 rfl rfl ?_
  have hf_5 : f (ad 41 0) = .inl (cs 0, 12, .inl (S 656 0)) := hT.get (hT.kf (k := 41) (by decide))
  obtain ⟨q_6, hq_6⟩ := pl_at (X := []) (f := f) (e := .inl (cs 0, 12, .inl (S 656 0))) (hT.kf (k := 41) (by decide)).1 hf_5
  refine va_iald hx hb hK hP q_6 0 hq_6 rfl (vp_in_nI (by omega) (by omega)) dX1_leadAlong_14 ?_
  refine lv_topi (fun v_7 ev_7 => ?_)
  obtain rfl : v_7 = S 656 0 u9 := ev_7.trans (by rw [(nI_clamp (by omega))])
  refine lv_iload_n hx hb dX1_leadAlong_15 rfl (lv_at hl 2 rfl) ?_
  refine lv_iadd hx hb dX1_leadAlong_16 ?_
  obtain ⟨q_8, hq_8⟩ := pl_at (X := []) (f := f) (e := .inl (cs 0, 12, .inl (S 656 0))) (hT.kf (k := 41) (by decide)).1 hf_5
  refine va_iast hx hb hK hP hD hS q_8 0 hq_8 rfl (vp_in_nI (by omega) (by omega)) dX1_leadAlong_17 (fun H locs hP9 hD9 hS => ?_)
  have hs_9 := pl_st (.inl (cs 0, 12, .inl (upd (S 656 0) (nI u9).toNatClampNeg ((S 656 0 u9) + p2)))) hD (hT.kf (k := 41) (by decide)).1 hf_5 hq_8
  have hP9 : va_P (dC, dI) vwCl ((([] : va_W) ++ va_pl L f).set q_8 ((ad 41 0), .inl (cs 0, 12, .inl (upd (S 656 0) (nI u9).toNatClampNeg ((S 656 0 u9) + p2))))) H := hP9
  have hD9 : va_D A ((([] : va_W) ++ va_pl L f).set q_8 ((ad 41 0), .inl (cs 0, 12, .inl (upd (S 656 0) (nI u9).toNatClampNeg ((S 656 0 u9) + p2))))) := hD9
  rw [hs_9] at hP9 hD9
  have hT := hT.up (c := 656) (j := u9) (v := ((S 656 0 u9) + p2)) (e := .inl (cs 0, 12, .inl (upd (S 656 0) (nI u9).toNatClampNeg ((S 656 0 u9) + p2)))) (hT.kf (k := 41) (by decide)) rfl (hT.2.2.up (by decide) (by decide) (by decide)) (by simp only [EN]; rw [up3_a, (nI_clamp (by omega))])
  have hP := hP9
  have hD := hD9
  clear hP9 hD9 hs_9
  obtain ⟨S_11, eS_11⟩ : ∃ S9 : Nat → Nat → Nat → Int32, S9 = up3 S 656 0 u9 ((S 656 0 u9) + p2) := ⟨_, rfl⟩
  rw [← eS_11] at hT
  generalize va_up f (ad 41 0) (.inl (cs 0, 12, .inl (upd (S 656 0) (nI u9).toNatClampNeg ((S 656 0 u9) + p2)))) = f_10 at hP hD hT
  have hFr_12 : AG S S_11 := by rw [eS_11]; exact AG.up AG.rf (by decide)
  refine lv_iload_n hx hb dX1_leadAlong_18 rfl (lv_at hl 1 rfl) ?_
  refine lv_istore_n (lv' := [(3, .int (nI u9)), (0, .ref h0), (1, .int (nI u9)), (2, .int p2)]) hx hb dX1_leadAlong_19 rfl hl (by decide) rfl (fun ls hl => ?_)
  refine lv_iconst (v := 0) hx hb dX1_leadAlong_20 (by decide) ?_
  refine lv_istore (lv' := [(4, .int 0), (3, .int (nI u9)), (0, .ref h0), (1, .int (nI u9)), (2, .int p2)]) hx hb dX1_leadAlong_21 hl (by decide) rfl (fun ls hl => ?_)
  have HL : ∀ (n k : Nat) (S8 : Nat → Nat → Nat → Int32), k ≤ 12 → 12 + 1 ≤ k + n → (AG S S8) → (cg S u9 k < 12) → (k ≤ n9) → (LAk S S8 pp9 kk9 ck9 u9 p2 k) → ∀ (f_13 : Nat → va_E) (H : Heap) (locs : List Loc), tB L ka ix ad cs n0 n6 n2 S8 f_13 → va_P (dC, dI) vwCl ([] ++ va_pl L f_13) H → va_D A ([] ++ va_pl L f_13) → va_S A s.heap H locs → ∀ ls : Array Slot, lv_has ls 6 [(0, .ref h0), (1, .int (nI u9)), (2, .int p2), (3, .int (nI (cg S u9 k))), (4, .int (nI k))] → W p l e (headSpec wsX1_leadAlong ({ frames := 1, cells := 0, slots := 0, locals := 20 })).room s m ([.ref h0, .int (nI u9), .int p2]).toArray below meth c H locs 0 0 (MQ below (va_Qv (fun (_ : Unit) => True) (fun (_ : Unit) t9 => ∃ (S2 : Nat → Nat → Nat → Int32) (f2 : Nat → va_E), (tB L ka ix ad cs n0 n6 n2 S2 f2) ∧ (AG S S2) ∧ (LAf S S2 pp9 kk9 ck9 u9 n9 p2) ∧ cQ dC dI ([] ++ va_pl L f2) [] A t9) A) ([.ref h0, .int (nI u9), .int p2]).toArray s 0 0 A) (F0 m 23 ls []) := by
    intro n
    induction n with
    | zero => intro k S8 h1 h2; exact absurd h2 (by omega)
    | succ n ih =>
      intro k S8 hk hn hFrS8 hcg hkn hLA f_13 H locs hT hP hD hS ls hl
      refine lv_iload hx hb dX1_leadAlong_23 (lv_at hl 4 rfl) ?_
      refine lv_bipush (v := 12) hx hb dX1_leadAlong_25 (by decide) ?_
      refine lv_icmp_ge (tgt := 100) hx hb dX1_leadAlong_27 (by decide) (fun c_14 => ?_) (fun c_14 => ?_)
      · have hke : k = 12 := by
          rcases Nat.lt_or_ge k 12 with q | q
          · exact absurd c_14 (nI_ge q (by decide))
          · omega
        exact (by have h9 := hHF.2.1; omega : False).elim
      · have hlt : k < 12 := by
          rcases Nat.lt_or_ge k 12 with q | q
          · exact q
          · exact absurd (show nI 12 ≤ nI k from nI_le q (by omega)) c_14
        refine lv_aload_n hx hb dX1_leadAlong_30 rfl (lv_at hl 0 rfl) ?_
        have hf_15 : f_13 h0 = .inr (1, [.ref (ad 41 0), .ref (ad 42 0), .ref (ad 43 0), .ref (ad 44 0)]) := hT.get hk_h0
        obtain ⟨q_16, hq_16⟩ := pl_at (X := []) (f := f_13) (e := .inr (1, [.ref (ad 41 0), .ref (ad 42 0), .ref (ad 43 0), .ref (ad 44 0)])) hk_h0.1 hf_15
        refine va_get (D := (dC, dI)) (ci := 1) (v := .ref (ad 44 0)) (C := RX1) (T := TX1) (N := 4) hx hb hts hin1 hown hK hP q_16 hq_16 rfl 3 (by decide) (hts (.fieldLink RX1 23 "YamRiders$Leader" "from" "[I") (by decide +kernel)) (fun _ h9 => h9) rfl dX1_leadAlong_31 ?_
        refine lv_iload_n hx hb dX1_leadAlong_34 rfl (lv_at hl 3 rfl) ?_
        have hf_17 : f_13 (ad 44 0) = .inl (cs 0, 12, .inl (S8 704 0)) := hT.get (hT.kf (k := 44) (by decide))
        obtain ⟨q_18, hq_18⟩ := pl_at (X := []) (f := f_13) (e := .inl (cs 0, 12, .inl (S8 704 0))) (hT.kf (k := 44) (by decide)).1 hf_17
        refine va_iald hx hb hK hP q_18 0 hq_18 rfl (vp_in_nI (by omega) (by omega)) dX1_leadAlong_35 ?_
        refine lv_topi (fun v_19 ev_19 => ?_)
        obtain rfl : v_19 = S8 704 0 (cg S u9 k) := ev_19.trans (by rw [(nI_clamp (by omega))])
        refine W.eq (g2 := F0 m 36 ls [.int (S 704 0 (cg S u9 k))]) (by rw [hLA.1 704 (by decide) (by decide)]) ?_
        have hPc := hP.sub (ws' := []) [] rfl
        have hDc := hD.sub (ws' := []) [] (by decide) rfl
        have hKc := hK.sub (tys' := []) [] rfl
        refine cs_i (va_runSN (As := [.int (S 704 0 (cg S u9 k))]) (rest := []) ⟨hx, hb, hml, hown, hts⟩ (c_X8_isStation l dC dI (S 704 0 (cg S u9 k)) H.size) ⟨va_cnB 1 hts ggX1_leadAlong_X8_isStation rfl rfl rfl (hN.1 (.methodLinkNest RX1 26 yX8_isStation "YamRiders") (by decide +kernel)) (hts (.initialized RX8) (by decide +kernel)) (by decide +kernel) ⟨Nat.le_of_ble_eq_true rfl, Nat.le_of_ble_eq_true rfl⟩, hts (.static yX8_isStation) (by decide +kernel), trivial⟩ ⟨c_blind, c_pre hPc hKc hDc hN⟩ rfl rfl hl.1 rfl (lv_room (Nat.le_of_ble_eq_true rfl)) dX1_leadAlong_36 ⟨Nat.le_of_ble_eq_true rfl, Nat.le_of_ble_eq_true rfl⟩) (fun r_20 hr_20 => ?_)
        subst hr_20
        refine lv_if_eq (tgt := 100) hx hb dX1_leadAlong_39 (by decide) (fun c_21 => ?_) (fun c_21 => ?_)
        · refine lv_aload_n hx hb dX1_leadAlong_100 rfl (lv_at hl 0 rfl) ?_
          obtain ⟨q_22, hq_22⟩ := pl_at (X := []) (f := f_13) (e := .inr (1, [.ref (ad 41 0), .ref (ad 42 0), .ref (ad 43 0), .ref (ad 44 0)])) hk_h0.1 hf_15
          refine va_get (D := (dC, dI)) (ci := 1) (v := .ref (ad 41 0)) (C := RX1) (T := TX1) (N := 4) hx hb hts hin1 hown hK hP q_22 hq_22 rfl 0 (by decide) (hts (.fieldLink RX1 9 "YamRiders$Leader" "spare" "[I") (by decide +kernel)) (fun _ h9 => h9) rfl dX1_leadAlong_101 ?_
          refine lv_iload_n hx hb dX1_leadAlong_104 rfl (lv_at hl 3 rfl) ?_
          refine lv_dup2_11 hx hb dX1_leadAlong_105 rfl rfl ?_
          have hf_23 : f_13 (ad 41 0) = .inl (cs 0, 12, .inl (S8 656 0)) := hT.get (hT.kf (k := 41) (by decide))
          obtain ⟨q_24, hq_24⟩ := pl_at (X := []) (f := f_13) (e := .inl (cs 0, 12, .inl (S8 656 0))) (hT.kf (k := 41) (by decide)).1 hf_23
          refine va_iald hx hb hK hP q_24 0 hq_24 rfl (vp_in_nI (by omega) (by omega)) dX1_leadAlong_106 ?_
          refine lv_topi (fun v_25 ev_25 => ?_)
          obtain rfl : v_25 = S8 656 0 (cg S u9 k) := ev_25.trans (by rw [(nI_clamp (by omega))])
          refine lv_iload_n hx hb dX1_leadAlong_107 rfl (lv_at hl 2 rfl) ?_
          refine lv_isub hx hb dX1_leadAlong_108 ?_
          obtain ⟨q_26, hq_26⟩ := pl_at (X := []) (f := f_13) (e := .inl (cs 0, 12, .inl (S8 656 0))) (hT.kf (k := 41) (by decide)).1 hf_23
          refine va_iast hx hb hK hP hD hS q_26 0 hq_26 rfl (vp_in_nI (by omega) (by omega)) dX1_leadAlong_109 (fun H locs hP9 hD9 hS => ?_)
          have hs_27 := pl_st (.inl (cs 0, 12, .inl (upd (S8 656 0) (nI (cg S u9 k)).toNatClampNeg ((S8 656 0 (cg S u9 k)) - p2)))) hD (hT.kf (k := 41) (by decide)).1 hf_23 hq_26
          have hP9 : va_P (dC, dI) vwCl ((([] : va_W) ++ va_pl L f_13).set q_26 ((ad 41 0), .inl (cs 0, 12, .inl (upd (S8 656 0) (nI (cg S u9 k)).toNatClampNeg ((S8 656 0 (cg S u9 k)) - p2))))) H := hP9
          have hD9 : va_D A ((([] : va_W) ++ va_pl L f_13).set q_26 ((ad 41 0), .inl (cs 0, 12, .inl (upd (S8 656 0) (nI (cg S u9 k)).toNatClampNeg ((S8 656 0 (cg S u9 k)) - p2))))) := hD9
          rw [hs_27] at hP9 hD9
          have hT := hT.up (c := 656) (j := (cg S u9 k)) (v := ((S8 656 0 (cg S u9 k)) - p2)) (e := .inl (cs 0, 12, .inl (upd (S8 656 0) (nI (cg S u9 k)).toNatClampNeg ((S8 656 0 (cg S u9 k)) - p2)))) (hT.kf (k := 41) (by decide)) rfl (hT.2.2.up (by decide) (by decide) (by decide)) (by simp only [EN]; rw [up3_a, (nI_clamp (by omega))])
          have hP := hP9
          have hD := hD9
          clear hP9 hD9 hs_27
          obtain ⟨S_29, eS_29⟩ : ∃ S9 : Nat → Nat → Nat → Int32, S9 = up3 S8 656 0 (cg S u9 k) ((S8 656 0 (cg S u9 k)) - p2) := ⟨_, rfl⟩
          rw [← eS_29] at hT
          generalize va_up f_13 (ad 41 0) (.inl (cs 0, 12, .inl (upd (S8 656 0) (nI (cg S u9 k)).toNatClampNeg ((S8 656 0 (cg S u9 k)) - p2)))) = f_28 at hP hD hT
          have hFr_30 : AG S S_29 := by rw [eS_29]; exact AG.up hFrS8 (by decide)
          have hP9 := hP.part (cx := []) [] rfl
          have hD9 := hD.part (cx := []) [] (by decide) rfl
          have hK9 := hK.sub (tys' := []) [] rfl
          refine W.widen (k := 0) (n := 0) (Nat.le_of_ble_eq_true rfl) (Nat.le_of_ble_eq_true rfl) ?_
          exact W.vret hx hb hr (fun t9 ht hW => ⟨⟨(), rfl, trivial, S_29, f_28, hT, hFr_30, (by rw [eS_29]; exact LA_f hq9 hsb hHF hkn c_21 hLA rfl), by rw [ht]; exact hP9, va_K.moved hW.alike hK9, hD9⟩, hS.F ht⟩) hS.2.2 dX1_leadAlong_110
        · refine lv_aload_n hx hb dX1_leadAlong_42 rfl (lv_at hl 0 rfl) ?_
          obtain ⟨q_31, hq_31⟩ := pl_at (X := []) (f := f_13) (e := .inr (1, [.ref (ad 41 0), .ref (ad 42 0), .ref (ad 43 0), .ref (ad 44 0)])) hk_h0.1 hf_15
          refine va_get (D := (dC, dI)) (ci := 1) (v := .ref (ad 44 0)) (C := RX1) (T := TX1) (N := 4) hx hb hts hin1 hown hK hP q_31 hq_31 rfl 3 (by decide) (hts (.fieldLink RX1 23 "YamRiders$Leader" "from" "[I") (by decide +kernel)) (fun _ h9 => h9) rfl dX1_leadAlong_43 ?_
          refine lv_iload_n hx hb dX1_leadAlong_46 rfl (lv_at hl 3 rfl) ?_
          obtain ⟨q_32, hq_32⟩ := pl_at (X := []) (f := f_13) (e := .inl (cs 0, 12, .inl (S8 704 0))) (hT.kf (k := 44) (by decide)).1 hf_17
          refine va_iald hx hb hK hP q_32 0 hq_32 rfl (vp_in_nI (by omega) (by omega)) dX1_leadAlong_47 ?_
          refine lv_topi (fun v_33 ev_33 => ?_)
          obtain rfl : v_33 = S8 704 0 (cg S u9 k) := ev_33.trans (by rw [(nI_clamp (by omega))])
          obtain ⟨hk11, hfr, hcn⟩ := LA_x hBk hHF hkn c_21
          refine W.eq (g2 := F0 m 48 ls [.int (nI (cg S u9 (k + 1)))]) (by rw [hLA.1 704 (by decide) (by decide), hfr]) ?_
          refine lv_istore (lv' := [(5, .int (nI (cg S u9 (k + 1)))), (0, .ref h0), (1, .int (nI u9)), (2, .int p2), (3, .int (nI (cg S u9 k))), (4, .int (nI k))]) hx hb dX1_leadAlong_48 hl (by decide) rfl (fun ls hl => ?_)
          refine lv_aload_n hx hb dX1_leadAlong_50 rfl (lv_at hl 1 rfl) ?_
          obtain ⟨q_34, hq_34⟩ := pl_at (X := []) (f := f_13) (e := .inr (1, [.ref (ad 41 0), .ref (ad 42 0), .ref (ad 43 0), .ref (ad 44 0)])) hk_h0.1 hf_15
          refine va_get (D := (dC, dI)) (ci := 1) (v := .ref (ad 42 0)) (C := RX1) (T := TX1) (N := 4) hx hb hts hin1 hown hK hP q_34 hq_34 rfl 1 (by decide) (hts (.fieldLink RX1 17 "YamRiders$Leader" "led" "[[I") (by decide +kernel)) (fun _ h9 => h9) rfl dX1_leadAlong_51 ?_
          refine lv_iload_n hx hb dX1_leadAlong_54 rfl (lv_at hl 4 rfl) ?_
          have hf_35 : f_13 (ad 42 0) = .inl (cs 2, 12, .inr (.inr (.inr (.inr (gl ad 45 12))))) := hT.get (hT.kf (k := 42) (by decide))
          obtain ⟨q_36, hq_36⟩ := pl_at (X := []) (f := f_13) (e := .inl (cs 2, 12, .inr (.inr (.inr (.inr (gl ad 45 12)))))) (hT.kf (k := 42) (by decide)).1 hf_35
          refine va_aldg hx hb hK hP q_36 2 hq_36 rfl (vp_in_nI (by omega) (by omega)) (show gl ad 45 12 (nI (cg S u9 k)).toNatClampNeg = some (ad 45 (cg S u9 k)) from by rw [(nI_clamp (by omega))]; exact gl_p (by omega)) dX1_leadAlong_55 ?_
          refine lv_iload hx hb dX1_leadAlong_56 (lv_at hl 0 rfl) ?_
          have hf_37 : f_13 (ad 45 (cg S u9 k)) = .inl (cs 0, 12, .inl (S8 720 (cg S u9 k))) := hT.get (hT.k45 (i := (cg S u9 k)) (by omega))
          obtain ⟨q_38, hq_38⟩ := pl_at (X := []) (f := f_13) (e := .inl (cs 0, 12, .inl (S8 720 (cg S u9 k)))) (hT.k45 (i := (cg S u9 k)) (by omega)).1 hf_37
          refine va_iald hx hb hK hP q_38 0 hq_38 rfl (vp_in_nI (by omega) (by omega)) dX1_leadAlong_58 ?_
          refine lv_topi (fun v_39 ev_39 => ?_)
          obtain rfl : v_39 = S8 720 (cg S u9 k) (cg S u9 (k + 1)) := ev_39.trans (by rw [(nI_clamp (by omega))])
          refine lv_if_le (tgt := 78) hx hb dX1_leadAlong_59 (by decide) (fun c_40 => ?_) (fun c_40 => ?_)
          · refine lv_aload_n hx hb dX1_leadAlong_78 rfl (lv_at hl 1 rfl) ?_
            obtain ⟨q_41, hq_41⟩ := pl_at (X := []) (f := f_13) (e := .inr (1, [.ref (ad 41 0), .ref (ad 42 0), .ref (ad 43 0), .ref (ad 44 0)])) hk_h0.1 hf_15
            refine va_get (D := (dC, dI)) (ci := 1) (v := .ref (ad 42 0)) (C := RX1) (T := TX1) (N := 4) hx hb hts hin1 hown hK hP q_41 hq_41 rfl 1 (by decide) (hts (.fieldLink RX1 17 "YamRiders$Leader" "led" "[[I") (by decide +kernel)) (fun _ h9 => h9) rfl dX1_leadAlong_79 ?_
            refine lv_iload hx hb dX1_leadAlong_82 (lv_at hl 0 rfl) ?_
            obtain ⟨q_42, hq_42⟩ := pl_at (X := []) (f := f_13) (e := .inl (cs 2, 12, .inr (.inr (.inr (.inr (gl ad 45 12)))))) (hT.kf (k := 42) (by decide)).1 hf_35
            refine va_aldg hx hb hK hP q_42 2 hq_42 rfl (vp_in_nI (by omega) (by omega)) (show gl ad 45 12 (nI (cg S u9 (k + 1))).toNatClampNeg = some (ad 45 (cg S u9 (k + 1))) from by rw [(nI_clamp (by omega))]; exact gl_p (by omega)) dX1_leadAlong_84 ?_
            refine lv_iload_n hx hb dX1_leadAlong_85 rfl (lv_at hl 4 rfl) ?_
            refine lv_dup2_11 hx hb dX1_leadAlong_86 rfl rfl ?_
            have hf_43 : f_13 (ad 45 (cg S u9 (k + 1))) = .inl (cs 0, 12, .inl (S8 720 (cg S u9 (k + 1)))) := hT.get (hT.k45 (i := (cg S u9 (k + 1))) (by omega))
            obtain ⟨q_44, hq_44⟩ := pl_at (X := []) (f := f_13) (e := .inl (cs 0, 12, .inl (S8 720 (cg S u9 (k + 1))))) (hT.k45 (i := (cg S u9 (k + 1))) (by omega)).1 hf_43
            refine va_iald hx hb hK hP q_44 0 hq_44 rfl (vp_in_nI (by omega) (by omega)) dX1_leadAlong_87 ?_
            refine lv_topi (fun v_45 ev_45 => ?_)
            obtain rfl : v_45 = S8 720 (cg S u9 (k + 1)) (cg S u9 k) := ev_45.trans (by rw [(nI_clamp (by omega))])
            refine lv_iload_n hx hb dX1_leadAlong_88 rfl (lv_at hl 3 rfl) ?_
            refine lv_iadd hx hb dX1_leadAlong_89 ?_
            obtain ⟨q_46, hq_46⟩ := pl_at (X := []) (f := f_13) (e := .inl (cs 0, 12, .inl (S8 720 (cg S u9 (k + 1))))) (hT.k45 (i := (cg S u9 (k + 1))) (by omega)).1 hf_43
            refine va_iast hx hb hK hP hD hS q_46 0 hq_46 rfl (vp_in_nI (by omega) (by omega)) dX1_leadAlong_90 (fun H locs hP9 hD9 hS => ?_)
            have hs_47 := pl_st (.inl (cs 0, 12, .inl (upd (S8 720 (cg S u9 (k + 1))) (nI (cg S u9 k)).toNatClampNeg ((S8 720 (cg S u9 (k + 1)) (cg S u9 k)) + p2)))) hD (hT.k45 (i := (cg S u9 (k + 1))) (by omega)).1 hf_43 hq_46
            have hP9 : va_P (dC, dI) vwCl ((([] : va_W) ++ va_pl L f_13).set q_46 ((ad 45 (cg S u9 (k + 1))), .inl (cs 0, 12, .inl (upd (S8 720 (cg S u9 (k + 1))) (nI (cg S u9 k)).toNatClampNeg ((S8 720 (cg S u9 (k + 1)) (cg S u9 k)) + p2))))) H := hP9
            have hD9 : va_D A ((([] : va_W) ++ va_pl L f_13).set q_46 ((ad 45 (cg S u9 (k + 1))), .inl (cs 0, 12, .inl (upd (S8 720 (cg S u9 (k + 1))) (nI (cg S u9 k)).toNatClampNeg ((S8 720 (cg S u9 (k + 1)) (cg S u9 k)) + p2))))) := hD9
            rw [hs_47] at hP9 hD9
            have hT := hT.up (c := 720) (j := (cg S u9 k)) (v := ((S8 720 (cg S u9 (k + 1)) (cg S u9 k)) + p2)) (e := .inl (cs 0, 12, .inl (upd (S8 720 (cg S u9 (k + 1))) (nI (cg S u9 k)).toNatClampNeg ((S8 720 (cg S u9 (k + 1)) (cg S u9 k)) + p2)))) (hT.k45 (i := (cg S u9 (k + 1))) (by omega)) rfl (hT.2.2.up (by decide) (by decide) (by decide)) (by simp only [EN]; rw [up3_a, (nI_clamp (by omega))])
            have hP := hP9
            have hD := hD9
            clear hP9 hD9 hs_47
            obtain ⟨S_49, eS_49⟩ : ∃ S9 : Nat → Nat → Nat → Int32, S9 = up3 S8 720 (cg S u9 (k + 1)) (cg S u9 k) ((S8 720 (cg S u9 (k + 1)) (cg S u9 k)) + p2) := ⟨_, rfl⟩
            rw [← eS_49] at hT
            generalize va_up f_13 (ad 45 (cg S u9 (k + 1))) (.inl (cs 0, 12, .inl (upd (S8 720 (cg S u9 (k + 1))) (nI (cg S u9 k)).toNatClampNeg ((S8 720 (cg S u9 (k + 1)) (cg S u9 k)) + p2)))) = f_48 at hP hD hT
            have hFr_50 : AG S S_49 := by rw [eS_49]; exact AG.up hFrS8 (by decide)
            refine lv_iload hx hb dX1_leadAlong_91 (lv_at hl 0 rfl) ?_
            refine lv_istore_n (lv' := [(3, .int (nI (cg S u9 (k + 1)))), (5, .int (nI (cg S u9 (k + 1)))), (0, .ref h0), (1, .int (nI u9)), (2, .int p2), (4, .int (nI k))]) hx hb dX1_leadAlong_93 rfl hl (by decide) rfl (fun ls hl => ?_)
            refine lv_iinc (v := nI (k + 1)) (lv' := [(4, .int (nI (k + 1))), (3, .int (nI (cg S u9 (k + 1)))), (5, .int (nI (cg S u9 (k + 1)))), (0, .ref h0), (1, .int (nI u9)), (2, .int p2)]) hx hb dX1_leadAlong_94 hl (k := 5) rfl (by exact (nI_1 k)) (by decide) rfl (fun ls hl => ?_)
            refine lv_goto (tgt := 23) hx hb dX1_leadAlong_97 (by decide) ?_
            exact ih (k + 1) S_49 (by omega) (by omega) hFr_50 hcn hk11 (by rw [eS_49]; exact LA_n hSy hq9 hl9 hHF hk11 hLA c_40 rfl) _ _ _ hT (hP.part (cx := _) [] rfl) (hD.part (cx := _) [] (by decide) rfl) hS ls (lv_sub hl [3, 4, 5, 1, 0] rfl)
          · refine lv_aload_n hx hb dX1_leadAlong_62 rfl (lv_at hl 1 rfl) ?_
            obtain ⟨q_51, hq_51⟩ := pl_at (X := []) (f := f_13) (e := .inr (1, [.ref (ad 41 0), .ref (ad 42 0), .ref (ad 43 0), .ref (ad 44 0)])) hk_h0.1 hf_15
            refine va_get (D := (dC, dI)) (ci := 1) (v := .ref (ad 42 0)) (C := RX1) (T := TX1) (N := 4) hx hb hts hin1 hown hK hP q_51 hq_51 rfl 1 (by decide) (hts (.fieldLink RX1 17 "YamRiders$Leader" "led" "[[I") (by decide +kernel)) (fun _ h9 => h9) rfl dX1_leadAlong_63 ?_
            refine lv_iload_n hx hb dX1_leadAlong_66 rfl (lv_at hl 4 rfl) ?_
            obtain ⟨q_52, hq_52⟩ := pl_at (X := []) (f := f_13) (e := .inl (cs 2, 12, .inr (.inr (.inr (.inr (gl ad 45 12)))))) (hT.kf (k := 42) (by decide)).1 hf_35
            refine va_aldg hx hb hK hP q_52 2 hq_52 rfl (vp_in_nI (by omega) (by omega)) (show gl ad 45 12 (nI (cg S u9 k)).toNatClampNeg = some (ad 45 (cg S u9 k)) from by rw [(nI_clamp (by omega))]; exact gl_p (by omega)) dX1_leadAlong_67 ?_
            refine lv_iload hx hb dX1_leadAlong_68 (lv_at hl 0 rfl) ?_
            refine lv_dup2_11 hx hb dX1_leadAlong_70 rfl rfl ?_
            obtain ⟨q_53, hq_53⟩ := pl_at (X := []) (f := f_13) (e := .inl (cs 0, 12, .inl (S8 720 (cg S u9 k)))) (hT.k45 (i := (cg S u9 k)) (by omega)).1 hf_37
            refine va_iald hx hb hK hP q_53 0 hq_53 rfl (vp_in_nI (by omega) (by omega)) dX1_leadAlong_71 ?_
            refine lv_topi (fun v_54 ev_54 => ?_)
            obtain rfl : v_54 = S8 720 (cg S u9 k) (cg S u9 (k + 1)) := ev_54.trans (by rw [(nI_clamp (by omega))])
            refine lv_iload_n hx hb dX1_leadAlong_72 rfl (lv_at hl 3 rfl) ?_
            refine lv_isub hx hb dX1_leadAlong_73 ?_
            obtain ⟨q_55, hq_55⟩ := pl_at (X := []) (f := f_13) (e := .inl (cs 0, 12, .inl (S8 720 (cg S u9 k)))) (hT.k45 (i := (cg S u9 k)) (by omega)).1 hf_37
            refine va_iast hx hb hK hP hD hS q_55 0 hq_55 rfl (vp_in_nI (by omega) (by omega)) dX1_leadAlong_74 (fun H locs hP9 hD9 hS => ?_)
            have hs_56 := pl_st (.inl (cs 0, 12, .inl (upd (S8 720 (cg S u9 k)) (nI (cg S u9 (k + 1))).toNatClampNeg ((S8 720 (cg S u9 k) (cg S u9 (k + 1))) - p2)))) hD (hT.k45 (i := (cg S u9 k)) (by omega)).1 hf_37 hq_55
            have hP9 : va_P (dC, dI) vwCl ((([] : va_W) ++ va_pl L f_13).set q_55 ((ad 45 (cg S u9 k)), .inl (cs 0, 12, .inl (upd (S8 720 (cg S u9 k)) (nI (cg S u9 (k + 1))).toNatClampNeg ((S8 720 (cg S u9 k) (cg S u9 (k + 1))) - p2))))) H := hP9
            have hD9 : va_D A ((([] : va_W) ++ va_pl L f_13).set q_55 ((ad 45 (cg S u9 k)), .inl (cs 0, 12, .inl (upd (S8 720 (cg S u9 k)) (nI (cg S u9 (k + 1))).toNatClampNeg ((S8 720 (cg S u9 k) (cg S u9 (k + 1))) - p2))))) := hD9
            rw [hs_56] at hP9 hD9
            have hT := hT.up (c := 720) (j := (cg S u9 (k + 1))) (v := ((S8 720 (cg S u9 k) (cg S u9 (k + 1))) - p2)) (e := .inl (cs 0, 12, .inl (upd (S8 720 (cg S u9 k)) (nI (cg S u9 (k + 1))).toNatClampNeg ((S8 720 (cg S u9 k) (cg S u9 (k + 1))) - p2)))) (hT.k45 (i := (cg S u9 k)) (by omega)) rfl (hT.2.2.up (by decide) (by decide) (by decide)) (by simp only [EN]; rw [up3_a, (nI_clamp (by omega))])
            have hP := hP9
            have hD := hD9
            clear hP9 hD9 hs_56
            obtain ⟨S_58, eS_58⟩ : ∃ S9 : Nat → Nat → Nat → Int32, S9 = up3 S8 720 (cg S u9 k) (cg S u9 (k + 1)) ((S8 720 (cg S u9 k) (cg S u9 (k + 1))) - p2) := ⟨_, rfl⟩
            rw [← eS_58] at hT
            generalize va_up f_13 (ad 45 (cg S u9 k)) (.inl (cs 0, 12, .inl (upd (S8 720 (cg S u9 k)) (nI (cg S u9 (k + 1))).toNatClampNeg ((S8 720 (cg S u9 k) (cg S u9 (k + 1))) - p2)))) = f_57 at hP hD hT
            have hFr_59 : AG S S_58 := by rw [eS_58]; exact AG.up hFrS8 (by decide)
            refine lv_goto (tgt := 91) hx hb dX1_leadAlong_75 (by decide) ?_
            refine lv_iload hx hb dX1_leadAlong_91 (lv_at hl 0 rfl) ?_
            refine lv_istore_n (lv' := [(3, .int (nI (cg S u9 (k + 1)))), (5, .int (nI (cg S u9 (k + 1)))), (0, .ref h0), (1, .int (nI u9)), (2, .int p2), (4, .int (nI k))]) hx hb dX1_leadAlong_93 rfl hl (by decide) rfl (fun ls hl => ?_)
            refine lv_iinc (v := nI (k + 1)) (lv' := [(4, .int (nI (k + 1))), (3, .int (nI (cg S u9 (k + 1)))), (5, .int (nI (cg S u9 (k + 1)))), (0, .ref h0), (1, .int (nI u9)), (2, .int p2)]) hx hb dX1_leadAlong_94 hl (k := 5) rfl (by exact (nI_1 k)) (by decide) rfl (fun ls hl => ?_)
            refine lv_goto (tgt := 23) hx hb dX1_leadAlong_97 (by decide) ?_
            exact ih (k + 1) S_58 (by omega) (by omega) hFr_59 hcn hk11 (by rw [eS_58]; exact LA_y hSy hq9 hl9 hHF hk11 hLA c_40 rfl) _ _ _ hT (hP.part (cx := _) [] rfl) (hD.part (cx := _) [] (by decide) rfl) hS ls (lv_sub hl [3, 4, 5, 1, 0] rfl)
  have hcg0 : cg S u9 0 = u9 := rfl
  exact HL 13 0 S_11 (by omega) (by omega) hFr_12 hu9 (Nat.zero_le _) (by rw [eS_11]; exact LA_0 hq9 (hsb u9 hu9) (fun a ha b hb => (hl9 a ha b hb).1)) _ _ _ hT (hP.part (cx := _) [] rfl) (hD.part (cx := _) [] (by decide) rfl) hS ls (lv_sub hl [2, 3, 4, 1, 0] rfl)

set_option maxHeartbeats 4000000 in
set_option maxRecDepth 100000 in
theorem l_J7_fill (l : Launch) (dC : Nat → ClassId) (dI : Nat → Nat → Nat) (cs : Nat → ClassId) (L : List Nat) (ka : Nat → Nat) (ix : Nat → Nat) (ad : Nat → Nat → Nat) (n0 : Nat) (n6 : Nat) (n2 : Nat) (S : Nat → Nat → Nat → Int32) (f : Nat → va_E) (i9 : Nat) (b1 : Nat) (p0 : Int32) (sz : Nat) (hT : tB L ka ix ad cs n0 n6 n2 S f) (hk_b1 : tpx L ka ix 45 i9 b1) (hlt_i9 : i9 < 12) : Met l yJ7_fill_53178 wsJ7_fill_53178 ({ frames := 0, cells := 0, slots := 0, locals := 0 }) (va_Pc [.ref b1, .int p0] (cP dC dI ([] ++ va_pl L f) (tyC cs) sz)) (va_Qv (fun (_ : Unit) => True) (fun (_ : Unit) t9 => ∃ (S2 : Nat → Nat → Nat → Int32) (f2 : Nat → va_E), (tB L ka ix ad cs n0 n6 n2 S2 f2) ∧ (AG S S2) ∧ (FLc S S2 i9 12 p0) ∧ cQ dC dI ([] ++ va_pl L f2) [] (va_A ([] ++ va_pl L f) sz) t9) (va_A ([] ++ va_pl L f) sz)) 0 0 (va_A ([] ++ va_pl L f) sz) := by
  refine Met.ofW (cc := cJ7_fill_53178) (maxL := 4) (ret := none) (by decide) rfl ?_
  intro p e s m args below meth c s₁ B hml hv
  obtain ⟨rfl, hsz, hP, hK, hD0, hN⟩ := hv
  have hx := B.exec
  have hb := B.bytes
  have hr := B.returns
  have hts := atoms_spec (ws := wsJ7_fill_53178) B.pre
  have hown : s.vm.findClass RJ7 = some m.cls := findClass_of_methodNamed B.named
  have hlocks := B.notSynchronized
  subst hsz
  have hD := hD0.self (sz := s.heap.size)
  generalize hAe : va_A ([] ++ va_pl L f) s.heap.size = A at hD ⊢
  have hA : ∀ q : Nat, s.heap.size ≤ q → A q := fun q h => by rw [← hAe]; exact Or.inr h
  have hS : va_S A s.heap s.heap [] := va_S.rf
  have hP : va_P (dC, dI) vwCl ([] ++ va_pl L f) s.heap := hP
  have hl := lv_entry ([.ref b1, .int p0]) (n := 4) (Nat.le_of_ble_eq_true rfl)
  rw [lg_entry_eq]
  generalize (lg_sl ([.ref b1, .int p0]) ++ List.replicate (4 - (lg_sl ([.ref b1, .int p0])).length) Slot.unset).toArray = ls at hl ⊢
  have hl : lv_has ls 4 [(0, .ref b1), (1, .int p0)] := hl
  refine lv_iconst (v := 0) hx hb dJ7_fill_53178_0 (by decide) ?_
  refine lv_istore_n (lv' := [(2, .int 0), (0, .ref b1), (1, .int p0)]) hx hb dJ7_fill_53178_1 rfl hl (by decide) rfl (fun ls hl => ?_)
  refine lv_aload_n hx hb dJ7_fill_53178_2 rfl (lv_at hl 1 rfl) ?_
  have hf_1 : f b1 = .inl (cs 0, 12, .inl (S 720 i9)) := hT.get hk_b1
  obtain ⟨q_2, hq_2⟩ := pl_at (X := []) (f := f) (e := .inl (cs 0, 12, .inl (S 720 i9))) hk_b1.1 hf_1
  refine va_alen (v := 12) hx hb hK hP q_2 0 hq_2 rfl rfl dJ7_fill_53178_3 ?_
  refine lv_istore_n (lv' := [(3, .int 12), (2, .int 0), (0, .ref b1), (1, .int p0)]) hx hb dJ7_fill_53178_4 rfl hl (by decide) rfl (fun ls hl => ?_)
  have HL : ∀ (n k : Nat) (S8 : Nat → Nat → Nat → Int32), k ≤ 12 → 12 + 1 ≤ k + n → (AG S S8) → (FLc S S8 i9 k p0) → ∀ (f_3 : Nat → va_E) (H : Heap) (locs : List Loc), tB L ka ix ad cs n0 n6 n2 S8 f_3 → va_P (dC, dI) vwCl ([] ++ va_pl L f_3) H → va_D A ([] ++ va_pl L f_3) → va_S A s.heap H locs → ∀ ls : Array Slot, lv_has ls 4 [(0, .ref b1), (1, .int p0), (2, .int (nI k)), (3, .int 12)] → W p l e (headSpec wsJ7_fill_53178 ({ frames := 0, cells := 0, slots := 0, locals := 0 })).room s m ([.ref b1, .int p0]).toArray below meth c H locs 0 0 (MQ below (va_Qv (fun (_ : Unit) => True) (fun (_ : Unit) t9 => ∃ (S2 : Nat → Nat → Nat → Int32) (f2 : Nat → va_E), (tB L ka ix ad cs n0 n6 n2 S2 f2) ∧ (AG S S2) ∧ (FLc S S2 i9 12 p0) ∧ cQ dC dI ([] ++ va_pl L f2) [] A t9) A) ([.ref b1, .int p0]).toArray s 0 0 A) (F0 m 5 ls []) := by
    intro n
    induction n with
    | zero => intro k S8 h1 h2; exact absurd h2 (by omega)
    | succ n ih =>
      intro k S8 hk hn hFrS8 hFL f_3 H locs hT hP hD hS ls hl
      refine lv_iload_n hx hb dJ7_fill_53178_5 rfl (lv_at hl 2 rfl) ?_
      refine lv_iload_n hx hb dJ7_fill_53178_6 rfl (lv_at hl 3 rfl) ?_
      refine lv_icmp_ge (tgt := 20) hx hb dJ7_fill_53178_7 (by decide) (fun c_4 => ?_) (fun c_4 => ?_)
      · have hke : k = 12 := by
          rcases Nat.lt_or_ge k 12 with q | q
          · exact absurd c_4 (nI_ge q (by decide))
          · omega
        have hP9 := hP.part (cx := []) [] rfl
        have hD9 := hD.part (cx := []) [] (by decide) rfl
        have hK9 := hK.sub (tys' := []) [] rfl
        refine W.widen (k := 0) (n := 0) (Nat.le_of_ble_eq_true rfl) (Nat.le_of_ble_eq_true rfl) ?_
        exact W.vret hx hb hr (fun t9 ht hW => ⟨⟨(), rfl, trivial, S8, f_3, hT, hFrS8, (hke ▸ hFL), by rw [ht]; exact hP9, va_K.moved hW.alike hK9, hD9⟩, hS.F ht⟩) hS.2.2 dJ7_fill_53178_20
      · have hlt : k < 12 := by
          rcases Nat.lt_or_ge k 12 with q | q
          · exact q
          · exact absurd (show nI 12 ≤ nI k from nI_le q (by omega)) c_4
        refine lv_aload_n hx hb dJ7_fill_53178_10 rfl (lv_at hl 0 rfl) ?_
        refine lv_iload_n hx hb dJ7_fill_53178_11 rfl (lv_at hl 2 rfl) ?_
        refine lv_iload_n hx hb dJ7_fill_53178_12 rfl (lv_at hl 1 rfl) ?_
        have hf_5 : f_3 b1 = .inl (cs 0, 12, .inl (S8 720 i9)) := hT.get hk_b1
        obtain ⟨q_6, hq_6⟩ := pl_at (X := []) (f := f_3) (e := .inl (cs 0, 12, .inl (S8 720 i9))) hk_b1.1 hf_5
        refine va_iast hx hb hK hP hD hS q_6 0 hq_6 rfl (vp_in_nI (by omega) (by omega)) dJ7_fill_53178_13 (fun H locs hP9 hD9 hS => ?_)
        have hs_7 := pl_st (.inl (cs 0, 12, .inl (upd (S8 720 i9) (nI k).toNatClampNeg p0))) hD hk_b1.1 hf_5 hq_6
        have hP9 : va_P (dC, dI) vwCl ((([] : va_W) ++ va_pl L f_3).set q_6 (b1, .inl (cs 0, 12, .inl (upd (S8 720 i9) (nI k).toNatClampNeg p0)))) H := hP9
        have hD9 : va_D A ((([] : va_W) ++ va_pl L f_3).set q_6 (b1, .inl (cs 0, 12, .inl (upd (S8 720 i9) (nI k).toNatClampNeg p0)))) := hD9
        rw [hs_7] at hP9 hD9
        have hT := hT.up (c := 720) (j := k) (v := p0) (e := .inl (cs 0, 12, .inl (upd (S8 720 i9) (nI k).toNatClampNeg p0))) hk_b1 rfl (hT.2.2.up (by decide) (by decide) (by decide)) (by simp only [EN]; rw [up3_a, (nI_clamp (by omega))])
        have hP := hP9
        have hD := hD9
        clear hP9 hD9 hs_7
        obtain ⟨S_9, eS_9⟩ : ∃ S9 : Nat → Nat → Nat → Int32, S9 = up3 S8 720 i9 k p0 := ⟨_, rfl⟩
        rw [← eS_9] at hT
        generalize va_up f_3 b1 (.inl (cs 0, 12, .inl (upd (S8 720 i9) (nI k).toNatClampNeg p0))) = f_8 at hP hD hT
        have hFr_10 : AG S S_9 := by rw [eS_9]; exact AG.up hFrS8 (by decide)
        refine lv_iinc (v := nI (k + 1)) (lv' := [(2, .int (nI (k + 1))), (0, .ref b1), (1, .int p0), (3, .int 12)]) hx hb dJ7_fill_53178_14 hl (k := 2) rfl (by exact (nI_1 k)) (by decide) rfl (fun ls hl => ?_)
        refine lv_goto (tgt := 5) hx hb dJ7_fill_53178_17 (by decide) ?_
        exact ih (k + 1) S_9 (by omega) (by omega) hFr_10 (by rw [eS_9]; exact FL_s hFL) _ _ _ hT (hP.part (cx := _) [] rfl) (hD.part (cx := _) [] (by decide) rfl) hS ls (lv_sub hl [1, 2, 0, 3] rfl)
  exact HL 13 0 S (by omega) (by omega) AG.rf FL_0 _ _ _ hT (hP.part (cx := _) [] rfl) (hD.part (cx := _) [] (by decide) rfl) hS ls (lv_sub hl [2, 3, 1, 0] rfl)

set_option maxHeartbeats 4000000 in
set_option maxRecDepth 100000 in
theorem l_X1_leastPains (l : Launch) (dC : Nat → ClassId) (dI : Nat → Nat → Nat) (cs : Nat → ClassId) (L : List Nat) (ka : Nat → Nat) (ix : Nat → Nat) (ad : Nat → Nat → Nat) (n0 : Nat) (n6 : Nat) (n2 : Nat) (S : Nat → Nat → Nat → Int32) (f : Nat → va_E) (h0 : Nat) (e1 : Nat) (sz : Nat) (hT : tB L ka ix ad cs n0 n6 n2 S f) (hk_h0 : tpx L ka ix 1 0 h0) (hk_e1 : tpx L ka ix 3 0 e1) (hLh : LPh S) : Met l yX1_leastPains wsX1_leastPains ({ frames := 4, cells := 0, slots := 0, locals := 92 }) (va_Pc [.ref h0, .ref e1] (cP dC dI ([] ++ va_pl L f) (tyC cs) sz)) (va_Qi (fun (r rv : Int32) => r = rv) (fun (rv : Int32) t9 => ∃ (S2 : Nat → Nat → Nat → Int32) (f2 : Nat → va_E), (tB L ka ix ad cs n0 n6 n2 S2 f2) ∧ (AG S S2) ∧ (LPf S S2 rv) ∧ cQ dC dI ([] ++ va_pl L f2) [] (va_A ([] ++ va_pl L f) sz) t9) (va_A ([] ++ va_pl L f) sz)) 0 0 (va_A ([] ++ va_pl L f) sz) := by
  refine Met.ofW (cc := cX1_leastPains) (maxL := 6) (ret := (some .int)) (by decide) rfl ?_
  intro p e s m args below meth c s₁ B hml hv
  obtain ⟨rfl, hsz, hP, hK, hD0, hN⟩ := hv
  have hx := B.exec
  have hb := B.bytes
  have hr := B.returns
  have hts := atoms_spec (ws := wsX1_leastPains) B.pre
  have hown : s.vm.findClass RX1 = some m.cls := findClass_of_methodNamed B.named
  have hlocks := B.notSynchronized
  subst hsz
  have hin1 : ∀ w ∈ u_ws RX1 TX1 4, w ∈ wsX1_leastPains := by decide +kernel
  have hD := hD0.self (sz := s.heap.size)
  generalize hAe : va_A ([] ++ va_pl L f) s.heap.size = A at hD ⊢
  have hA : ∀ q : Nat, s.heap.size ≤ q → A q := fun q h => by rw [← hAe]; exact Or.inr h
  have hS : va_S A s.heap s.heap [] := va_S.rf
  have hP : va_P (dC, dI) vwCl ([] ++ va_pl L f) s.heap := hP
  have hl := lv_entry ([.ref h0, .ref e1]) (n := 6) (Nat.le_of_ble_eq_true rfl)
  rw [lg_entry_eq]
  generalize (lg_sl ([.ref h0, .ref e1]) ++ List.replicate (6 - (lg_sl ([.ref h0, .ref e1])).length) Slot.unset).toArray = ls at hl ⊢
  have hl : lv_has ls 6 [(0, .ref h0), (1, .ref e1)] := hl
  refine lv_iconst (v := 0) hx hb dX1_leastPains_0 (by decide) ?_
  refine lv_istore_n (lv' := [(2, .int 0), (0, .ref h0), (1, .ref e1)]) hx hb dX1_leastPains_1 rfl hl (by decide) rfl (fun ls hl => ?_)
  have HL : ∀ (n k : Nat) (S8 : Nat → Nat → Nat → Int32), k ≤ 12 → 12 + 1 ≤ k + n → (AG S S8) → (FZk S S8 k) → ∀ (f_1 : Nat → va_E) (H : Heap) (locs : List Loc), tB L ka ix ad cs n0 n6 n2 S8 f_1 → va_P (dC, dI) vwCl ([] ++ va_pl L f_1) H → va_D A ([] ++ va_pl L f_1) → va_S A s.heap H locs → ∀ ls : Array Slot, lv_has ls 6 [(0, .ref h0), (1, .ref e1), (2, .int (nI k))] → W p l e (headSpec wsX1_leastPains ({ frames := 4, cells := 0, slots := 0, locals := 92 })).room s m ([.ref h0, .ref e1]).toArray below meth c H locs 0 0 (MQ below (va_Qi (fun (r rv : Int32) => r = rv) (fun (rv : Int32) t9 => ∃ (S2 : Nat → Nat → Nat → Int32) (f2 : Nat → va_E), (tB L ka ix ad cs n0 n6 n2 S2 f2) ∧ (AG S S2) ∧ (LPf S S2 rv) ∧ cQ dC dI ([] ++ va_pl L f2) [] A t9) A) ([.ref h0, .ref e1]).toArray s 0 0 A) (F0 m 2 ls []) := by
    intro n
    induction n with
    | zero => intro k S8 h1 h2; exact absurd h2 (by omega)
    | succ n ih =>
      intro k S8 hk hn hFrS8 hFZ f_1 H locs hT hP hD hS ls hl
      refine lv_iload_n hx hb dX1_leastPains_2 rfl (lv_at hl 2 rfl) ?_
      refine lv_bipush (v := 12) hx hb dX1_leastPains_3 (by decide) ?_
      refine lv_icmp_ge (tgt := 24) hx hb dX1_leastPains_5 (by decide) (fun c_2 => ?_) (fun c_2 => ?_)
      · have hke : k = 12 := by
          rcases Nat.lt_or_ge k 12 with q | q
          · exact absurd c_2 (nI_ge q (by decide))
          · omega
        refine lv_iconst (v := 0) hx hb dX1_leastPains_24 (by decide) ?_
        refine lv_istore_n (lv' := [(2, .int 0), (0, .ref h0), (1, .ref e1)]) hx hb dX1_leastPains_25 rfl hl (by decide) rfl (fun ls hl => ?_)
        refine lv_iconst (v := 0) hx hb dX1_leastPains_26 (by decide) ?_
        refine lv_istore_n (lv' := [(3, .int 0), (2, .int 0), (0, .ref h0), (1, .ref e1)]) hx hb dX1_leastPains_27 rfl hl (by decide) rfl (fun ls hl => ?_)
        have HL_j : ∀ (n_j j : Nat) (x2 : Int32) (S7 : Nat → Nat → Nat → Int32), j ≤ 61 → 61 + 1 ≤ j + n_j → (AG S S7) → (LPk S S7 j x2) → ∀ (f_3 : Nat → va_E) (H : Heap) (locs : List Loc), tB L ka ix ad cs n0 n6 n2 S7 f_3 → va_P (dC, dI) vwCl ([] ++ va_pl L f_3) H → va_D A ([] ++ va_pl L f_3) → va_S A s.heap H locs → ∀ ls : Array Slot, lv_has ls 6 [(0, .ref h0), (1, .ref e1), (2, .int x2), (3, .int (nI j))] → W p l e (headSpec wsX1_leastPains ({ frames := 4, cells := 0, slots := 0, locals := 92 })).room s m ([.ref h0, .ref e1]).toArray below meth c H locs 0 0 (MQ below (va_Qi (fun (r rv : Int32) => r = rv) (fun (rv : Int32) t9 => ∃ (S2 : Nat → Nat → Nat → Int32) (f2 : Nat → va_E), (tB L ka ix ad cs n0 n6 n2 S2 f2) ∧ (AG S S2) ∧ (LPf S S2 rv) ∧ cQ dC dI ([] ++ va_pl L f2) [] A t9) A) ([.ref h0, .ref e1]).toArray s 0 0 A) (F0 m 28 ls []) := by
          intro n_j
          induction n_j with
          | zero => intro j x2 S7 h1 h2; exact absurd h2 (by omega)
          | succ n_j ih_j =>
            intro j x2 S7 hk_j hn_j hFrS7 hLP f_3 H locs hT hP hD hS ls hl
            refine lv_iload_n hx hb dX1_leastPains_28 rfl (lv_at hl 3 rfl) ?_
            refine lv_bipush (v := 60) hx hb dX1_leastPains_29 (by decide) ?_
            refine lv_icmp_gt (tgt := 98) hx hb dX1_leastPains_31 (by decide) (fun c_4 => ?_) (fun c_4 => ?_)
            · exact absurd c_4 (Int32.not_lt.mpr (show nI j ≤ nI 60 from nI_le (LP_61 hLh hLP) (by decide)))
            · refine lv_aload_n hx hb dX1_leastPains_34 rfl (lv_at hl 0 rfl) ?_
              have hPc := hP.part (cx := []) [] rfl
              have hDc := hD.part (cx := []) [] (by decide) rfl
              have hKc := hK
              have hf_5 : f_3 h0 = .inr (1, [.ref (ad 41 0), .ref (ad 42 0), .ref (ad 43 0), .ref (ad 44 0)]) := hT.get hk_h0
              obtain ⟨q_6, hq_6⟩ := pl_at (X := []) (f := f_3) (e := .inr (1, [.ref (ad 41 0), .ref (ad 42 0), .ref (ad 43 0), .ref (ad 44 0)])) hk_h0.1 hf_5
              refine cs_i (va_runV (As := []) (rest := []) ⟨hx, hb, hml, hown, hts⟩ (l_X1_isAnyShort l dC dI cs L ka ix ad n0 n6 n2 S7 f_3 h0 H.size hT hk_h0) (cwV 0 hts gX1_leastPains_X1_isAnyShort rfl rfl rfl (by decide +kernel) ⟨Nat.le_of_ble_eq_true rfl, Nat.le_of_ble_eq_true rfl⟩) ⟨c_blind, va_recv hKc hPc (ci := 1) (q0 := q_6) rfl hq_6, c_pre hPc hKc hDc hN⟩ rfl rfl hl.1 rfl (lv_room (Nat.le_of_ble_eq_true rfl)) dX1_leastPains_35 ⟨Nat.le_of_ble_eq_true rfl, Nat.le_of_ble_eq_true rfl⟩) (fun r_7 hr_7 => ?_)
              refine lv_if_eq (tgt := 98) hx hb dX1_leastPains_38 (by decide) (fun c_8 => ?_) (fun c_8 => ?_)
              · refine lv_iload_n hx hb dX1_leastPains_98 rfl (lv_at hl 2 rfl) ?_
                have hP9 := hP.part (cx := []) [] rfl
                have hD9 := hD.part (cx := []) [] (by decide) rfl
                have hK9 := hK.sub (tys' := []) [] rfl
                refine W.widen (k := 0) (n := 0) (Nat.le_of_ble_eq_true rfl) (Nat.le_of_ble_eq_true rfl) ?_
                exact W.iret (v := x2) hx hb hr (fun t9 ht hW => ⟨⟨_, x2, rfl, rfl, S7, f_3, hT, hFrS7, (Or.inr ⟨⟨j, hLP⟩, An_z hr_7 c_8⟩), by rw [ht]; exact hP9, va_K.moved hW.alike hK9, hD9⟩, hS.F ht⟩) hS.2.2 dX1_leastPains_99
              · obtain ⟨pi9, hpc9⟩ := hLP.1
                refine lv_aload_n hx hb dX1_leastPains_41 rfl (lv_at hl 0 rfl) ?_
                refine lv_aload_n hx hb dX1_leastPains_42 rfl (lv_at hl 1 rfl) ?_
                have hPc := hP.part (cx := []) [] rfl
                have hDc := hD.part (cx := []) [] (by decide) rfl
                have hKc := hK
                have hFc := va_freeP (cx := []) hD hS hA [] rfl
                obtain ⟨q_9, hq_9⟩ := pl_at (X := []) (f := f_3) (e := .inr (1, [.ref (ad 41 0), .ref (ad 42 0), .ref (ad 43 0), .ref (ad 44 0)])) hk_h0.1 hf_5
                refine va_callv (va_runV (As := [.ref e1]) (rest := []) ⟨hx, hb, hml, hown, hts⟩ (l_X1_spread l dC dI cs L ka ix ad n0 n6 n2 S7 f_3 h0 e1 pi9 H.size hT hk_h0 hk_e1 (Sy.fr hLh.1 (AG.fr hFrS7)) (RgS.fr hLh.2.1 (AG.fr hFrS7)) hpc9) (cwV 1 hts gX1_leastPains_X1_spread rfl rfl rfl (by decide +kernel) ⟨Nat.le_of_ble_eq_true rfl, Nat.le_of_ble_eq_true rfl⟩) ⟨c_blind, va_recv hKc hPc (ci := 1) (q0 := q_9) rfl hq_9, c_pre hPc hKc hDc hN⟩ rfl rfl hl.1 rfl (lv_room (Nat.le_of_ble_eq_true rfl)) dX1_leastPains_43 ⟨Nat.le_of_ble_eq_true rfl, Nat.le_of_ble_eq_true rfl⟩) hS (fun q _ h => hFc q h) hFc (fun u9 t9 H1 locs ht hvm hw hB hz1 hk1 hS => ?_)
                obtain ⟨S_11, f_12, hf_x_13, hf_x_14, hf_x_15, hP1, hK1, hD1⟩ := hB
                rw [ht] at hP1
                have hK1 := va_K.moved hvm.symm hK1
                obtain ⟨hP, hD⟩ := va_joinP (X := []) (cx := []) (wr := []) (rx := []) (pl := va_pl L f_3) (pl1 := va_pl L f_12) hP hD [] [] rfl rfl (by decide) (by decide) hk1 hFc hP1 hD1
                have hT := hf_x_13
                generalize H1 = H at hP hS ⊢
                have hP : va_P (dC, dI) vwCl ([] ++ va_pl L f_12) H := hP
                have hD : va_D A ([] ++ va_pl L f_12) := hD
                have hFr_16 := AG.tr hFrS7 hf_x_14
                refine W.widen (k := 0) (n := 0) (Nat.le_of_ble_eq_true rfl) (Nat.le_of_ble_eq_true rfl) ?_
                obtain ⟨hAB9, hCB9, hFX9⟩ := hf_x_15
                obtain ⟨kk9, ck9, hBk9⟩ := CBs.k hAB9 hCB9
                have hFs9 := FXs.b hAB9 hFX9
                refine lv_aload_n hx hb dX1_leastPains_46 rfl (lv_at hl 0 rfl) ?_
                have hPc := hP.part (cx := []) [] rfl
                have hDc := hD.part (cx := []) [] (by decide) rfl
                have hKc := hK
                have hf_17 : f_12 h0 = .inr (1, [.ref (ad 41 0), .ref (ad 42 0), .ref (ad 43 0), .ref (ad 44 0)]) := hT.get hk_h0
                obtain ⟨q_18, hq_18⟩ := pl_at (X := []) (f := f_12) (e := .inr (1, [.ref (ad 41 0), .ref (ad 42 0), .ref (ad 43 0), .ref (ad 44 0)])) hk_h0.1 hf_17
                refine cs_i (va_runV (As := []) (rest := []) ⟨hx, hb, hml, hown, hts⟩ (l_X1_nearestShort l dC dI cs L ka ix ad n0 n6 n2 S_11 f_12 h0 H.size hT hk_h0) (cwV 0 hts gX1_leastPains_X1_nearestShort rfl rfl rfl (by decide +kernel) ⟨Nat.le_of_ble_eq_true rfl, Nat.le_of_ble_eq_true rfl⟩) ⟨c_blind, va_recv hKc hPc (ci := 1) (q0 := q_18) rfl hq_18, c_pre hPc hKc hDc hN⟩ rfl rfl hl.1 rfl (lv_room (Nat.le_of_ble_eq_true rfl)) dX1_leastPains_47 ⟨Nat.le_of_ble_eq_true rfl, Nat.le_of_ble_eq_true rfl⟩) (fun r_19 hr_19 => ?_)
                refine lv_istore (lv' := [(4, .int r_19), (0, .ref h0), (1, .ref e1), (2, .int x2), (3, .int (nI j))]) hx hb dX1_leastPains_50 hl (by decide) rfl (fun ls hl => ?_)
                refine lv_iload hx hb dX1_leastPains_52 (lv_at hl 0 rfl) ?_
                have hPc := hP.sub (ws' := []) [] rfl
                have hDc := hD.sub (ws' := []) [] (by decide) rfl
                have hKc := hK.sub (tys' := []) [] rfl
                refine cs_i (va_runSN (As := [.int r_19]) (rest := []) ⟨hx, hb, hml, hown, hts⟩ (c_X8_isStation l dC dI r_19 H.size) ⟨va_cnB 1 hts ggX1_leastPains_X8_isStation rfl rfl rfl (hN.1 (.methodLinkNest RX1 26 yX8_isStation "YamRiders") (by decide +kernel)) (hts (.initialized RX8) (by decide +kernel)) (by decide +kernel) ⟨Nat.le_of_ble_eq_true rfl, Nat.le_of_ble_eq_true rfl⟩, hts (.static yX8_isStation) (by decide +kernel), trivial⟩ ⟨c_blind, c_pre hPc hKc hDc hN⟩ rfl rfl hl.1 rfl (lv_room (Nat.le_of_ble_eq_true rfl)) dX1_leastPains_54 ⟨Nat.le_of_ble_eq_true rfl, Nat.le_of_ble_eq_true rfl⟩) (fun r_20 hr_20 => ?_)
                subst hr_20
                refine lv_if_ne (tgt := 63) hx hb dX1_leastPains_57 (by decide) (fun c_21 => ?_) (fun c_21 => ?_)
                · obtain ⟨g9, hg9, rfl, hsg9, hpg9⟩ := NS_g hr_19 c_21
                  refine lv_aload_n hx hb dX1_leastPains_63 rfl (lv_at hl 1 rfl) ?_
                  refine lv_iload hx hb dX1_leastPains_64 (lv_at hl 0 rfl) ?_
                  have hPc := hP.part (cx := []) [] rfl
                  have hDc := hD.part (cx := []) [] (by decide) rfl
                  have hKc := hK
                  have hf_22 : f_12 h0 = .inr (1, [.ref (ad 41 0), .ref (ad 42 0), .ref (ad 43 0), .ref (ad 44 0)]) := hT.get hk_h0
                  obtain ⟨q_23, hq_23⟩ := pl_at (X := []) (f := f_12) (e := .inr (1, [.ref (ad 41 0), .ref (ad 42 0), .ref (ad 43 0), .ref (ad 44 0)])) hk_h0.1 hf_22
                  refine cs_i (va_runV (As := [.int (nI g9)]) (rest := []) ⟨hx, hb, hml, hown, hts⟩ (l_X1_horsesAlong l dC dI cs L ka ix ad n0 n6 n2 S_11 f_12 h0 g9 pi9 kk9 ck9 H.size hT hk_h0 (by omega) hBk9 hFs9 hpg9 hsg9 (LP_sb hLh hLP hAB9).1) (cwV 1 hts gX1_leastPains_X1_horsesAlong rfl rfl rfl (by decide +kernel) ⟨Nat.le_of_ble_eq_true rfl, Nat.le_of_ble_eq_true rfl⟩) ⟨c_blind, va_recv hKc hPc (ci := 1) (q0 := q_23) rfl hq_23, c_pre hPc hKc hDc hN⟩ rfl rfl hl.1 rfl (lv_room (Nat.le_of_ble_eq_true rfl)) dX1_leastPains_66 ⟨Nat.le_of_ble_eq_true rfl, Nat.le_of_ble_eq_true rfl⟩) (fun r_24 hr_24 => ?_)
                  obtain ⟨n9, hHF9⟩ := hr_24
                  have hq9 := LP_q hLh hLP hAB9 hg9 hHF9
                  refine lv_istore (lv' := [(5, .int r_24), (4, .int (nI g9)), (0, .ref h0), (1, .ref e1), (2, .int x2), (3, .int (nI j))]) hx hb dX1_leastPains_69 hl (by decide) rfl (fun ls hl => ?_)
                  refine lv_iload_n hx hb dX1_leastPains_71 rfl (lv_at hl 4 rfl) ?_
                  refine lv_iload hx hb dX1_leastPains_72 (lv_at hl 0 rfl) ?_
                  refine lv_aload_n hx hb dX1_leastPains_74 rfl (lv_at hl 2 rfl) ?_
                  obtain ⟨q_25, hq_25⟩ := pl_at (X := []) (f := f_12) (e := .inr (1, [.ref (ad 41 0), .ref (ad 42 0), .ref (ad 43 0), .ref (ad 44 0)])) hk_h0.1 hf_22
                  refine va_get (D := (dC, dI)) (ci := 1) (v := .ref (ad 43 0)) (C := RX1) (T := TX1) (N := 4) hx hb hts hin1 hown hK hP q_25 hq_25 rfl 2 (by decide) (hts (.fieldLink RX1 20 "YamRiders$Leader" "pains" "[I") (by decide +kernel)) (fun _ h9 => h9) rfl dX1_leastPains_75 ?_
                  refine lv_iload hx hb dX1_leastPains_78 (lv_at hl 1 rfl) ?_
                  have hf_26 : f_12 (ad 43 0) = .inl (cs 0, 12, .inl (S_11 688 0)) := hT.get (hT.kf (k := 43) (by decide))
                  obtain ⟨q_27, hq_27⟩ := pl_at (X := []) (f := f_12) (e := .inl (cs 0, 12, .inl (S_11 688 0))) (hT.kf (k := 43) (by decide)).1 hf_26
                  refine va_iald hx hb hK hP q_27 0 hq_27 rfl (vp_in_nI (by omega) (by omega)) dX1_leastPains_80 ?_
                  refine lv_topi (fun v_28 ev_28 => ?_)
                  obtain rfl : v_28 = S_11 688 0 g9 := ev_28.trans (by rw [(nI_clamp (by omega))])
                  refine lv_imul hx hb dX1_leastPains_81 ?_
                  refine lv_iadd hx hb dX1_leastPains_82 ?_
                  refine lv_istore_n (lv' := [(2, .int (x2 + (r_24 * (S_11 688 0 g9)))), (5, .int r_24), (4, .int (nI g9)), (0, .ref h0), (1, .ref e1), (3, .int (nI j))]) hx hb dX1_leastPains_83 rfl hl (by decide) rfl (fun ls hl => ?_)
                  refine lv_aload_n hx hb dX1_leastPains_84 rfl (lv_at hl 3 rfl) ?_
                  refine lv_iload hx hb dX1_leastPains_85 (lv_at hl 2 rfl) ?_
                  refine lv_iload hx hb dX1_leastPains_87 (lv_at hl 1 rfl) ?_
                  have hPc := hP.part (cx := []) [] rfl
                  have hDc := hD.part (cx := []) [] (by decide) rfl
                  have hKc := hK
                  have hFc := va_freeP (cx := []) hD hS hA [] rfl
                  obtain ⟨q_29, hq_29⟩ := pl_at (X := []) (f := f_12) (e := .inr (1, [.ref (ad 41 0), .ref (ad 42 0), .ref (ad 43 0), .ref (ad 44 0)])) hk_h0.1 hf_22
                  refine va_callv (va_runV (As := [.int (nI g9), .int r_24]) (rest := []) ⟨hx, hb, hml, hown, hts⟩ (l_X1_leadAlong l dC dI cs L ka ix ad n0 n6 n2 S_11 f_12 h0 g9 n9 r_24 pi9 kk9 ck9 H.size hT hk_h0 (by omega) hBk9 hFs9 hpg9 hsg9 (LP_sb hLh hLP hAB9).1 (Sy.fr hLh.1 (AG.fr hFr_16)) (LP_sb hLh hLP hAB9).2 hHF9 hq9) (cwV 2 hts gX1_leastPains_X1_leadAlong rfl rfl rfl (by decide +kernel) ⟨Nat.le_of_ble_eq_true rfl, Nat.le_of_ble_eq_true rfl⟩) ⟨c_blind, va_recv hKc hPc (ci := 1) (q0 := q_29) rfl hq_29, c_pre hPc hKc hDc hN⟩ rfl rfl hl.1 rfl (lv_room (Nat.le_of_ble_eq_true rfl)) dX1_leastPains_89 ⟨Nat.le_of_ble_eq_true rfl, Nat.le_of_ble_eq_true rfl⟩) hS (fun q _ h => hFc q h) hFc (fun u9 t9 H1 locs ht hvm hw hB hz1 hk1 hS => ?_)
                  obtain ⟨S_31, f_32, hf_x_33, hf_x_34, hf_x_35, hP1, hK1, hD1⟩ := hB
                  rw [ht] at hP1
                  have hK1 := va_K.moved hvm.symm hK1
                  obtain ⟨hP, hD⟩ := va_joinP (X := []) (cx := []) (wr := []) (rx := []) (pl := va_pl L f_12) (pl1 := va_pl L f_32) hP hD [] [] rfl rfl (by decide) (by decide) hk1 hFc hP1 hD1
                  have hT := hf_x_33
                  generalize H1 = H at hP hS ⊢
                  have hP : va_P (dC, dI) vwCl ([] ++ va_pl L f_32) H := hP
                  have hD : va_D A ([] ++ va_pl L f_32) := hD
                  have hFr_36 := AG.tr hFr_16 hf_x_34
                  refine W.widen (k := 0) (n := 0) (Nat.le_of_ble_eq_true rfl) (Nat.le_of_ble_eq_true rfl) ?_
                  refine lv_iinc (v := nI (j + 1)) (lv' := [(3, .int (nI (j + 1))), (2, .int (x2 + (r_24 * (S_11 688 0 g9)))), (5, .int r_24), (4, .int (nI g9)), (0, .ref h0), (1, .ref e1)]) hx hb dX1_leastPains_92 hl (k := 5) rfl (by exact (nI_1 j)) (by decide) rfl (fun ls hl => ?_)
                  refine lv_goto (tgt := 28) hx hb dX1_leastPains_95 (by decide) ?_
                  have hj9 : j ≤ 60 := gt_n (n := 60) c_4 (by decide) (by omega)
                  exact ih_j (j + 1) (x2 + (r_24 * (S_11 688 0 g9))) S_31 (by omega) (by omega) hFr_36 (LP_s hLh (AG.fr hFrS7) hLP hj9 hpc9 hAB9 hBk9 hFs9 hg9 hpg9 hHF9 hf_x_35 rfl) _ _ _ hT (hP.part (cx := _) [] rfl) (hD.part (cx := _) [] (by decide) rfl) hS ls (lv_sub hl [4, 5, 1, 0] rfl)
                · refine lv_bipush (v := (-2)) hx hb dX1_leastPains_60 (by decide) ?_
                  have hP9 := hP.part (cx := []) [] rfl
                  have hD9 := hD.part (cx := []) [] (by decide) rfl
                  have hK9 := hK.sub (tys' := []) [] rfl
                  refine W.widen (k := 0) (n := 0) (Nat.le_of_ble_eq_true rfl) (Nat.le_of_ble_eq_true rfl) ?_
                  exact W.iret (v := (-2)) hx hb hr (fun t9 ht hW => ⟨⟨_, (-2), rfl, rfl, S_11, f_12, hT, hFr_16, (Or.inl ⟨rfl, LP_t hLh (AG.fr hFrS7) hLP hAB9 hBk9 hFs9 (NS_m hr_19 c_21) (An_e hr_7 c_8)⟩), by rw [ht]; exact hP9, va_K.moved hW.alike hK9, hD9⟩, hS.F ht⟩) hS.2.2 dX1_leastPains_62
        exact HL_j 62 0 0 S8 (by omega) (by omega) hFrS8 (LP_0 hLh (hke ▸ hFZ)) _ _ _ hT (hP.part (cx := _) [] rfl) (hD.part (cx := _) [] (by decide) rfl) hS ls (lv_sub hl [2, 3, 1, 0] rfl)
      · have hlt : k < 12 := by
          rcases Nat.lt_or_ge k 12 with q | q
          · exact q
          · exact absurd (show nI 12 ≤ nI k from nI_le q (by omega)) c_2
        refine lv_aload_n hx hb dX1_leastPains_8 rfl (lv_at hl 0 rfl) ?_
        have hf_37 : f_1 h0 = .inr (1, [.ref (ad 41 0), .ref (ad 42 0), .ref (ad 43 0), .ref (ad 44 0)]) := hT.get hk_h0
        obtain ⟨q_38, hq_38⟩ := pl_at (X := []) (f := f_1) (e := .inr (1, [.ref (ad 41 0), .ref (ad 42 0), .ref (ad 43 0), .ref (ad 44 0)])) hk_h0.1 hf_37
        refine va_get (D := (dC, dI)) (ci := 1) (v := .ref (ad 42 0)) (C := RX1) (T := TX1) (N := 4) hx hb hts hin1 hown hK hP q_38 hq_38 rfl 1 (by decide) (hts (.fieldLink RX1 17 "YamRiders$Leader" "led" "[[I") (by decide +kernel)) (fun _ h9 => h9) rfl dX1_leastPains_9 ?_
        refine lv_iload_n hx hb dX1_leastPains_12 rfl (lv_at hl 2 rfl) ?_
        have hf_39 : f_1 (ad 42 0) = .inl (cs 2, 12, .inr (.inr (.inr (.inr (gl ad 45 12))))) := hT.get (hT.kf (k := 42) (by decide))
        obtain ⟨q_40, hq_40⟩ := pl_at (X := []) (f := f_1) (e := .inl (cs 2, 12, .inr (.inr (.inr (.inr (gl ad 45 12)))))) (hT.kf (k := 42) (by decide)).1 hf_39
        refine va_aldg hx hb hK hP q_40 2 hq_40 rfl (vp_in_nI (by omega) (by omega)) (show gl ad 45 12 (nI k).toNatClampNeg = some (ad 45 k) from by rw [(nI_clamp (by omega))]; exact gl_p (by omega)) dX1_leastPains_13 ?_
        refine lv_iconst (v := 0) hx hb dX1_leastPains_14 (by decide) ?_
        have hPc := hP.part (cx := []) [] rfl
        have hDc := hD.part (cx := []) [] (by decide) rfl
        have hKc := hK
        have hFc := va_freeP (cx := []) hD hS hA [] rfl
        refine va_callv (va_runS (As := [.ref (ad 45 k), .int 0]) (rest := []) ⟨hx, hb, hml, hown, hts⟩ (l_J7_fill l dC dI cs L ka ix ad n0 n6 n2 S8 f_1 k (ad 45 k) 0 H.size hT (hT.k45 (i := k) (by omega)) (by omega)) (va_cwS 2 hts gX1_leastPains_J7_fill_53178 rfl rfl rfl (by decide +kernel) ⟨Nat.le_of_ble_eq_true rfl, Nat.le_of_ble_eq_true rfl⟩) ⟨c_blind, c_pre hPc hKc hDc hN⟩ rfl rfl hl.1 rfl (lv_room (Nat.le_of_ble_eq_true rfl)) dX1_leastPains_15 ⟨Nat.le_of_ble_eq_true rfl, Nat.le_of_ble_eq_true rfl⟩) hS (fun q _ h => hFc q h) hFc (fun u9 t9 H1 locs ht hvm hw hB hz1 hk1 hS => ?_)
        obtain ⟨S_42, f_43, hf_x_44, hf_x_45, hf_x_46, hP1, hK1, hD1⟩ := hB
        rw [ht] at hP1
        have hK1 := va_K.moved hvm.symm hK1
        obtain ⟨hP, hD⟩ := va_joinP (X := []) (cx := []) (wr := []) (rx := []) (pl := va_pl L f_1) (pl1 := va_pl L f_43) hP hD [] [] rfl rfl (by decide) (by decide) hk1 hFc hP1 hD1
        have hT := hf_x_44
        generalize H1 = H at hP hS ⊢
        have hP : va_P (dC, dI) vwCl ([] ++ va_pl L f_43) H := hP
        have hD : va_D A ([] ++ va_pl L f_43) := hD
        have hFr_47 := AG.tr hFrS8 hf_x_45
        refine W.widen (k := 0) (n := 0) (Nat.le_of_ble_eq_true rfl) (Nat.le_of_ble_eq_true rfl) ?_
        refine lv_iinc (v := nI (k + 1)) (lv' := [(2, .int (nI (k + 1))), (0, .ref h0), (1, .ref e1)]) hx hb dX1_leastPains_18 hl (k := 2) rfl (by exact (nI_1 k)) (by decide) rfl (fun ls hl => ?_)
        refine lv_goto (tgt := 2) hx hb dX1_leastPains_21 (by decide) ?_
        exact ih (k + 1) S_42 (by omega) (by omega) hFr_47 (FZ_s hFZ hf_x_46) _ _ _ hT (hP.part (cx := _) [] rfl) (hD.part (cx := _) [] (by decide) rfl) hS ls (lv_sub hl [1, 2, 0] rfl)
  exact HL 13 0 S (by omega) (by omega) AG.rf FZ_0 _ _ _ hT (hP.part (cx := _) [] rfl) (hD.part (cx := _) [] (by decide) rfl) hS ls (lv_sub hl [1, 2, 0] rfl)
