set_option maxHeartbeats 4000000 in
set_option maxRecDepth 100000 in
theorem c_X8_horsesAt (l : Launch) (dC : Nat → ClassId) (dI : Nat → Nat → Nat) (h0 : Nat) (a1 : Nat) (a2 : Nat) (a3 : Nat) (a4 : Nat) (a5 : Nat) (a6 : Nat) (a7 : Nat) (a8 : Nat) (a9 : Nat) (k5 : ClassId) (p0 : Int32) (sz : Nat) : Met l yX8_horsesAt wsX8_horsesAt ({ frames := 0, cells := 0, slots := 0, locals := 0 }) (va_Pc [.ref h0, .int p0] (cP dC dI [(h0, .inr (8, [.ref a1, .ref a2, .ref a3, .ref a4, .ref a5, .ref a6, .ref a7, .ref a8, .ref a9, .int 0, .int 0, .int 0, .int 0, .int 0, .int 0])), (a5, .inl (k5, 60, .inr (.inr (.inr (.inr (fun _ => none))))))] [(k5, .object "YamRiders$Horse")] sz)) (vp_Si (fun r => r = 0)) 0 0 (fun _ => False) := by
  refine Met.ofW (cc := cX8_horsesAt) (maxL := 7) (ret := (some .int)) (by decide) rfl ?_
  intro p e s m args below meth c s₁ B hml hv
  obtain ⟨rfl, hsz, hP, hK, hD0, hN⟩ := hv
  have hx := B.exec
  have hb := B.bytes
  have hr := B.returns
  have hts := atoms_spec (ws := wsX8_horsesAt) B.pre
  have hown : s.vm.findClass RX8 = some m.cls := findClass_of_methodNamed B.named
  have hlocks := B.notSynchronized
  subst hsz
  have hin8 : ∀ w ∈ u_ws RX8 TX8 15, w ∈ wsX8_horsesAt := by decide +kernel
  have hD := hD0
  have hP : va_P (dC, dI) vwCl [(h0, .inr (8, [.ref a1, .ref a2, .ref a3, .ref a4, .ref a5, .ref a6, .ref a7, .ref a8, .ref a9, .int 0, .int 0, .int 0, .int 0, .int 0, .int 0])), (a5, .inl (k5, 60, .inr (.inr (.inr (.inr (fun _ => none))))))] s.heap := hP
  have hl := lv_entry ([.ref h0, .int p0]) (n := 7) (Nat.le_of_ble_eq_true rfl)
  rw [lg_entry_eq]
  generalize (lg_sl ([.ref h0, .int p0]) ++ List.replicate (7 - (lg_sl ([.ref h0, .int p0])).length) Slot.unset).toArray = ls at hl ⊢
  have hl : lv_has ls 7 [(0, .ref h0), (1, .int p0)] := hl
  refine lv_iconst (v := 0) hx hb dX8_horsesAt_0 (by decide) ?_
  refine lv_istore_n (lv' := [(2, .int 0), (0, .ref h0), (1, .int p0)]) hx hb dX8_horsesAt_1 rfl hl (by decide) rfl (fun ls hl => ?_)
  refine lv_aload_n hx hb dX8_horsesAt_2 rfl (lv_at hl 1 rfl) ?_
  refine va_get (D := (dC, dI)) (ci := 8) (v := .ref a5) (C := RX8) (T := TX8) (N := 15) hx hb hts hin8 hown hK hP 0 rfl rfl 4 (by decide) (hts (.fieldLink RX8 36 "YamRiders" "horses" "[LYamRiders$Horse;") (by decide +kernel)) (fun _ h9 => h9) rfl dX8_horsesAt_3 ?_
  refine lv_astore_n (lv' := [(3, .ref a5), (2, .int 0), (0, .ref h0), (1, .int p0)]) hx hb dX8_horsesAt_6 rfl hl (by decide) rfl (fun ls hl => ?_)
  refine lv_aload_n hx hb dX8_horsesAt_7 rfl (lv_at hl 0 rfl) ?_
  refine va_alen (v := 60) hx hb hK hP 1 0 rfl rfl rfl dX8_horsesAt_8 ?_
  refine lv_istore (lv' := [(4, .int 60), (3, .ref a5), (2, .int 0), (0, .ref h0), (1, .int p0)]) hx hb dX8_horsesAt_9 hl (by decide) rfl (fun ls hl => ?_)
  refine lv_iconst (v := 0) hx hb dX8_horsesAt_11 (by decide) ?_
  refine lv_istore (lv' := [(5, .int 0), (4, .int 60), (3, .ref a5), (2, .int 0), (0, .ref h0), (1, .int p0)]) hx hb dX8_horsesAt_12 hl (by decide) rfl (fun ls hl => ?_)
  have HL : ∀ (n k : Nat), k ≤ 60 → 60 + 1 ≤ k + n → ∀ ls : Array Slot, lv_has ls 7 [(0, .ref h0), (1, .int p0), (2, .int 0), (3, .ref a5), (4, .int 60), (5, .int (nI k))] → W p l e (headSpec wsX8_horsesAt ({ frames := 0, cells := 0, slots := 0, locals := 0 })).room s m ([.ref h0, .int p0]).toArray below meth c s.heap [] 0 0 (MQ below (vp_Si (fun r => r = 0)) ([.ref h0, .int p0]).toArray s 0 0 (fun _ => False)) (F0 m 14 ls []) := by
    intro n
    induction n with
    | zero => intro k h1 h2; exact absurd h2 (by omega)
    | succ n ih =>
      intro k hk hn ls hl
      refine lv_iload hx hb dX8_horsesAt_14 (lv_at hl 5 rfl) ?_
      refine lv_iload hx hb dX8_horsesAt_16 (lv_at hl 4 rfl) ?_
      refine lv_icmp_ge (tgt := 50) hx hb dX8_horsesAt_18 (by decide) (fun c_1 => ?_) (fun c_1 => ?_)
      · have hke : k = 60 := by
          rcases Nat.lt_or_ge k 60 with q | q
          · exact absurd c_1 (nI_ge q (by decide))
          · omega
        refine lv_iload_n hx hb dX8_horsesAt_50 rfl (lv_at hl 2 rfl) ?_
        exact W.iret (v := 0) hx hb hr (fun t9 ht hW => ⟨_, rfl, rfl, ht⟩) (fun q h => nomatch h) dX8_horsesAt_51
      · have hlt : k < 60 := by
          rcases Nat.lt_or_ge k 60 with q | q
          · exact q
          · exact absurd (show nI 60 ≤ nI k from nI_le q (by omega)) c_1
        refine lv_aload_n hx hb dX8_horsesAt_21 rfl (lv_at hl 3 rfl) ?_
        refine lv_iload hx hb dX8_horsesAt_22 (lv_at hl 5 rfl) ?_
        refine va_aldq hx hb hK hP 1 0 rfl rfl (vp_in_nI hlt (by decide)) dX8_horsesAt_24 ?_
        refine W.eq (g2 := F0 m 25 ls [.null]) rfl ?_
        refine lv_astoreN (lv' := [(6, .null), (0, .ref h0), (1, .int p0), (2, .int 0), (3, .ref a5), (4, .int 60), (5, .int (nI k))]) hx hb dX8_horsesAt_25 hl (by decide) rfl (fun ls hl => ?_)
        refine lv_aloadN hx hb dX8_horsesAt_27 (lv_at hl 0 rfl) ?_
        refine lv_ifnullN (tgt := 44) hx hb dX8_horsesAt_29 (by decide) ?_
        refine lv_iinc (v := nI (k + 1)) (lv' := [(5, .int (nI (k + 1))), (6, .null), (0, .ref h0), (1, .int p0), (2, .int 0), (3, .ref a5), (4, .int 60)]) hx hb dX8_horsesAt_44 hl (k := 6) rfl (by exact (nI_1 k)) (by decide) rfl (fun ls hl => ?_)
        refine lv_goto (tgt := 14) hx hb dX8_horsesAt_47 (by decide) ?_
        exact ih (k + 1) (by omega) (by omega) ls (lv_sub hl [2, 3, 4, 5, 6, 0] rfl)
  exact HL 61 0 (by omega) (by omega) ls (lv_sub hl [4, 5, 3, 2, 1, 0] rfl)

set_option maxHeartbeats 4000000 in
set_option maxRecDepth 100000 in
theorem c_X8_ridersWaitingAt (l : Launch) (dC : Nat → ClassId) (dI : Nat → Nat → Nat) (h0 : Nat) (a1 : Nat) (a2 : Nat) (a3 : Nat) (a4 : Nat) (a5 : Nat) (a6 : Nat) (a7 : Nat) (a8 : Nat) (a9 : Nat) (k7 : ClassId) (p0 : Int32) (sz : Nat) : Met l yX8_ridersWaitingAt wsX8_ridersWaitingAt ({ frames := 0, cells := 0, slots := 0, locals := 0 }) (va_Pc [.ref h0, .int p0] (cP dC dI [(h0, .inr (8, [.ref a1, .ref a2, .ref a3, .ref a4, .ref a5, .ref a6, .ref a7, .ref a8, .ref a9, .int 0, .int 0, .int 0, .int 0, .int 0, .int 0])), (a7, .inl (k7, 60, .inr (.inr (.inr (.inr (fun _ => none))))))] [(k7, .object "YamRiders$Rider")] sz)) (vp_Si (fun r => r = 0)) 0 0 (fun _ => False) := by
  refine Met.ofW (cc := cX8_ridersWaitingAt) (maxL := 7) (ret := (some .int)) (by decide) rfl ?_
  intro p e s m args below meth c s₁ B hml hv
  obtain ⟨rfl, hsz, hP, hK, hD0, hN⟩ := hv
  have hx := B.exec
  have hb := B.bytes
  have hr := B.returns
  have hts := atoms_spec (ws := wsX8_ridersWaitingAt) B.pre
  have hown : s.vm.findClass RX8 = some m.cls := findClass_of_methodNamed B.named
  have hlocks := B.notSynchronized
  subst hsz
  have hin8 : ∀ w ∈ u_ws RX8 TX8 15, w ∈ wsX8_ridersWaitingAt := by decide +kernel
  have hD := hD0
  have hP : va_P (dC, dI) vwCl [(h0, .inr (8, [.ref a1, .ref a2, .ref a3, .ref a4, .ref a5, .ref a6, .ref a7, .ref a8, .ref a9, .int 0, .int 0, .int 0, .int 0, .int 0, .int 0])), (a7, .inl (k7, 60, .inr (.inr (.inr (.inr (fun _ => none))))))] s.heap := hP
  have hl := lv_entry ([.ref h0, .int p0]) (n := 7) (Nat.le_of_ble_eq_true rfl)
  rw [lg_entry_eq]
  generalize (lg_sl ([.ref h0, .int p0]) ++ List.replicate (7 - (lg_sl ([.ref h0, .int p0])).length) Slot.unset).toArray = ls at hl ⊢
  have hl : lv_has ls 7 [(0, .ref h0), (1, .int p0)] := hl
  refine lv_iconst (v := 0) hx hb dX8_ridersWaitingAt_0 (by decide) ?_
  refine lv_istore_n (lv' := [(2, .int 0), (0, .ref h0), (1, .int p0)]) hx hb dX8_ridersWaitingAt_1 rfl hl (by decide) rfl (fun ls hl => ?_)
  refine lv_aload_n hx hb dX8_ridersWaitingAt_2 rfl (lv_at hl 1 rfl) ?_
  refine va_get (D := (dC, dI)) (ci := 8) (v := .ref a7) (C := RX8) (T := TX8) (N := 15) hx hb hts hin8 hown hK hP 0 rfl rfl 6 (by decide) (hts (.fieldLink RX8 48 "YamRiders" "riders" "[LYamRiders$Rider;") (by decide +kernel)) (fun _ h9 => h9) rfl dX8_ridersWaitingAt_3 ?_
  refine lv_astore_n (lv' := [(3, .ref a7), (2, .int 0), (0, .ref h0), (1, .int p0)]) hx hb dX8_ridersWaitingAt_6 rfl hl (by decide) rfl (fun ls hl => ?_)
  refine lv_aload_n hx hb dX8_ridersWaitingAt_7 rfl (lv_at hl 0 rfl) ?_
  refine va_alen (v := 60) hx hb hK hP 1 0 rfl rfl rfl dX8_ridersWaitingAt_8 ?_
  refine lv_istore (lv' := [(4, .int 60), (3, .ref a7), (2, .int 0), (0, .ref h0), (1, .int p0)]) hx hb dX8_ridersWaitingAt_9 hl (by decide) rfl (fun ls hl => ?_)
  refine lv_iconst (v := 0) hx hb dX8_ridersWaitingAt_11 (by decide) ?_
  refine lv_istore (lv' := [(5, .int 0), (4, .int 60), (3, .ref a7), (2, .int 0), (0, .ref h0), (1, .int p0)]) hx hb dX8_ridersWaitingAt_12 hl (by decide) rfl (fun ls hl => ?_)
  have HL : ∀ (n k : Nat), k ≤ 60 → 60 + 1 ≤ k + n → ∀ ls : Array Slot, lv_has ls 7 [(0, .ref h0), (1, .int p0), (2, .int 0), (3, .ref a7), (4, .int 60), (5, .int (nI k))] → W p l e (headSpec wsX8_ridersWaitingAt ({ frames := 0, cells := 0, slots := 0, locals := 0 })).room s m ([.ref h0, .int p0]).toArray below meth c s.heap [] 0 0 (MQ below (vp_Si (fun r => r = 0)) ([.ref h0, .int p0]).toArray s 0 0 (fun _ => False)) (F0 m 14 ls []) := by
    intro n
    induction n with
    | zero => intro k h1 h2; exact absurd h2 (by omega)
    | succ n ih =>
      intro k hk hn ls hl
      refine lv_iload hx hb dX8_ridersWaitingAt_14 (lv_at hl 5 rfl) ?_
      refine lv_iload hx hb dX8_ridersWaitingAt_16 (lv_at hl 4 rfl) ?_
      refine lv_icmp_ge (tgt := 58) hx hb dX8_ridersWaitingAt_18 (by decide) (fun c_1 => ?_) (fun c_1 => ?_)
      · have hke : k = 60 := by
          rcases Nat.lt_or_ge k 60 with q | q
          · exact absurd c_1 (nI_ge q (by decide))
          · omega
        refine lv_iload_n hx hb dX8_ridersWaitingAt_58 rfl (lv_at hl 2 rfl) ?_
        exact W.iret (v := 0) hx hb hr (fun t9 ht hW => ⟨_, rfl, rfl, ht⟩) (fun q h => nomatch h) dX8_ridersWaitingAt_59
      · have hlt : k < 60 := by
          rcases Nat.lt_or_ge k 60 with q | q
          · exact q
          · exact absurd (show nI 60 ≤ nI k from nI_le q (by omega)) c_1
        refine lv_aload_n hx hb dX8_ridersWaitingAt_21 rfl (lv_at hl 3 rfl) ?_
        refine lv_iload hx hb dX8_ridersWaitingAt_22 (lv_at hl 5 rfl) ?_
        refine va_aldq hx hb hK hP 1 0 rfl rfl (vp_in_nI hlt (by decide)) dX8_ridersWaitingAt_24 ?_
        refine W.eq (g2 := F0 m 25 ls [.null]) rfl ?_
        refine lv_astoreN (lv' := [(6, .null), (0, .ref h0), (1, .int p0), (2, .int 0), (3, .ref a7), (4, .int 60), (5, .int (nI k))]) hx hb dX8_ridersWaitingAt_25 hl (by decide) rfl (fun ls hl => ?_)
        refine lv_aloadN hx hb dX8_ridersWaitingAt_27 (lv_at hl 0 rfl) ?_
        refine lv_ifnullN (tgt := 52) hx hb dX8_ridersWaitingAt_29 (by decide) ?_
        refine lv_iinc (v := nI (k + 1)) (lv' := [(5, .int (nI (k + 1))), (6, .null), (0, .ref h0), (1, .int p0), (2, .int 0), (3, .ref a7), (4, .int 60)]) hx hb dX8_ridersWaitingAt_52 hl (k := 6) rfl (by exact (nI_1 k)) (by decide) rfl (fun ls hl => ?_)
        refine lv_goto (tgt := 14) hx hb dX8_ridersWaitingAt_55 (by decide) ?_
        exact ih (k + 1) (by omega) (by omega) ls (lv_sub hl [2, 3, 4, 5, 6, 0] rfl)
  exact HL 61 0 (by omega) (by omega) ls (lv_sub hl [4, 5, 3, 2, 1, 0] rfl)

set_option maxHeartbeats 4000000 in
set_option maxRecDepth 100000 in
theorem c_X8_ridersUnderWay (l : Launch) (dC : Nat → ClassId) (dI : Nat → Nat → Nat) (h0 : Nat) (a1 : Nat) (a2 : Nat) (a3 : Nat) (a4 : Nat) (a5 : Nat) (a6 : Nat) (a7 : Nat) (a8 : Nat) (a9 : Nat) (k7 : ClassId) (sz : Nat) : Met l yX8_ridersUnderWay wsX8_ridersUnderWay ({ frames := 0, cells := 0, slots := 0, locals := 0 }) (va_Pc [.ref h0] (cP dC dI [(h0, .inr (8, [.ref a1, .ref a2, .ref a3, .ref a4, .ref a5, .ref a6, .ref a7, .ref a8, .ref a9, .int 0, .int 0, .int 0, .int 0, .int 0, .int 0])), (a7, .inl (k7, 60, .inr (.inr (.inr (.inr (fun _ => none))))))] [(k7, .object "YamRiders$Rider")] sz)) (vp_Si (fun r => r = 0)) 0 0 (fun _ => False) := by
  refine Met.ofW (cc := cX8_ridersUnderWay) (maxL := 6) (ret := (some .int)) (by decide) rfl ?_
  intro p e s m args below meth c s₁ B hml hv
  obtain ⟨rfl, hsz, hP, hK, hD0, hN⟩ := hv
  have hx := B.exec
  have hb := B.bytes
  have hr := B.returns
  have hts := atoms_spec (ws := wsX8_ridersUnderWay) B.pre
  have hown : s.vm.findClass RX8 = some m.cls := findClass_of_methodNamed B.named
  have hlocks := B.notSynchronized
  subst hsz
  have hin8 : ∀ w ∈ u_ws RX8 TX8 15, w ∈ wsX8_ridersUnderWay := by decide +kernel
  have hD := hD0
  have hP : va_P (dC, dI) vwCl [(h0, .inr (8, [.ref a1, .ref a2, .ref a3, .ref a4, .ref a5, .ref a6, .ref a7, .ref a8, .ref a9, .int 0, .int 0, .int 0, .int 0, .int 0, .int 0])), (a7, .inl (k7, 60, .inr (.inr (.inr (.inr (fun _ => none))))))] s.heap := hP
  have hl := lv_entry ([.ref h0]) (n := 6) (Nat.le_of_ble_eq_true rfl)
  rw [lg_entry_eq]
  generalize (lg_sl ([.ref h0]) ++ List.replicate (6 - (lg_sl ([.ref h0])).length) Slot.unset).toArray = ls at hl ⊢
  have hl : lv_has ls 6 [(0, .ref h0)] := hl
  refine lv_iconst (v := 0) hx hb dX8_ridersUnderWay_0 (by decide) ?_
  refine lv_istore_n (lv' := [(1, .int 0), (0, .ref h0)]) hx hb dX8_ridersUnderWay_1 rfl hl (by decide) rfl (fun ls hl => ?_)
  refine lv_aload_n hx hb dX8_ridersUnderWay_2 rfl (lv_at hl 1 rfl) ?_
  refine va_get (D := (dC, dI)) (ci := 8) (v := .ref a7) (C := RX8) (T := TX8) (N := 15) hx hb hts hin8 hown hK hP 0 rfl rfl 6 (by decide) (hts (.fieldLink RX8 48 "YamRiders" "riders" "[LYamRiders$Rider;") (by decide +kernel)) (fun _ h9 => h9) rfl dX8_ridersUnderWay_3 ?_
  refine lv_astore_n (lv' := [(2, .ref a7), (1, .int 0), (0, .ref h0)]) hx hb dX8_ridersUnderWay_6 rfl hl (by decide) rfl (fun ls hl => ?_)
  refine lv_aload_n hx hb dX8_ridersUnderWay_7 rfl (lv_at hl 0 rfl) ?_
  refine va_alen (v := 60) hx hb hK hP 1 0 rfl rfl rfl dX8_ridersUnderWay_8 ?_
  refine lv_istore_n (lv' := [(3, .int 60), (2, .ref a7), (1, .int 0), (0, .ref h0)]) hx hb dX8_ridersUnderWay_9 rfl hl (by decide) rfl (fun ls hl => ?_)
  refine lv_iconst (v := 0) hx hb dX8_ridersUnderWay_10 (by decide) ?_
  refine lv_istore (lv' := [(4, .int 0), (3, .int 60), (2, .ref a7), (1, .int 0), (0, .ref h0)]) hx hb dX8_ridersUnderWay_11 hl (by decide) rfl (fun ls hl => ?_)
  have HL : ∀ (n k : Nat), k ≤ 60 → 60 + 1 ≤ k + n → ∀ ls : Array Slot, lv_has ls 6 [(0, .ref h0), (1, .int 0), (2, .ref a7), (3, .int 60), (4, .int (nI k))] → W p l e (headSpec wsX8_ridersUnderWay ({ frames := 0, cells := 0, slots := 0, locals := 0 })).room s m ([.ref h0]).toArray below meth c s.heap [] 0 0 (MQ below (vp_Si (fun r => r = 0)) ([.ref h0]).toArray s 0 0 (fun _ => False)) (F0 m 13 ls []) := by
    intro n
    induction n with
    | zero => intro k h1 h2; exact absurd h2 (by omega)
    | succ n ih =>
      intro k hk hn ls hl
      refine lv_iload hx hb dX8_ridersUnderWay_13 (lv_at hl 4 rfl) ?_
      refine lv_iload_n hx hb dX8_ridersUnderWay_15 rfl (lv_at hl 3 rfl) ?_
      refine lv_icmp_ge (tgt := 47) hx hb dX8_ridersUnderWay_16 (by decide) (fun c_1 => ?_) (fun c_1 => ?_)
      · have hke : k = 60 := by
          rcases Nat.lt_or_ge k 60 with q | q
          · exact absurd c_1 (nI_ge q (by decide))
          · omega
        refine lv_iload_n hx hb dX8_ridersUnderWay_47 rfl (lv_at hl 1 rfl) ?_
        exact W.iret (v := 0) hx hb hr (fun t9 ht hW => ⟨_, rfl, rfl, ht⟩) (fun q h => nomatch h) dX8_ridersUnderWay_48
      · have hlt : k < 60 := by
          rcases Nat.lt_or_ge k 60 with q | q
          · exact q
          · exact absurd (show nI 60 ≤ nI k from nI_le q (by omega)) c_1
        refine lv_aload_n hx hb dX8_ridersUnderWay_19 rfl (lv_at hl 2 rfl) ?_
        refine lv_iload hx hb dX8_ridersUnderWay_20 (lv_at hl 4 rfl) ?_
        refine va_aldq hx hb hK hP 1 0 rfl rfl (vp_in_nI hlt (by decide)) dX8_ridersUnderWay_22 ?_
        refine W.eq (g2 := F0 m 23 ls [.null]) rfl ?_
        refine lv_astoreN (lv' := [(5, .null), (0, .ref h0), (1, .int 0), (2, .ref a7), (3, .int 60), (4, .int (nI k))]) hx hb dX8_ridersUnderWay_23 hl (by decide) rfl (fun ls hl => ?_)
        refine lv_aloadN hx hb dX8_ridersUnderWay_25 (lv_at hl 0 rfl) ?_
        refine lv_ifnullN (tgt := 41) hx hb dX8_ridersUnderWay_27 (by decide) ?_
        refine lv_iinc (v := nI (k + 1)) (lv' := [(4, .int (nI (k + 1))), (5, .null), (0, .ref h0), (1, .int 0), (2, .ref a7), (3, .int 60)]) hx hb dX8_ridersUnderWay_41 hl (k := 5) rfl (by exact (nI_1 k)) (by decide) rfl (fun ls hl => ?_)
        refine lv_goto (tgt := 13) hx hb dX8_ridersUnderWay_44 (by decide) ?_
        exact ih (k + 1) (by omega) (by omega) ls (lv_sub hl [2, 3, 4, 5, 0] rfl)
  exact HL 61 0 (by omega) (by omega) ls (lv_sub hl [4, 3, 2, 1, 0] rfl)

set_option maxHeartbeats 4000000 in
set_option maxRecDepth 100000 in
theorem c_X8_careForHorses (l : Launch) (dC : Nat → ClassId) (dI : Nat → Nat → Nat) (h0 : Nat) (a1 : Nat) (a2 : Nat) (a3 : Nat) (a4 : Nat) (a5 : Nat) (a6 : Nat) (a7 : Nat) (a8 : Nat) (a9 : Nat) (k5 : ClassId) (sz : Nat) : Met l yX8_careForHorses wsX8_careForHorses ({ frames := 0, cells := 0, slots := 0, locals := 0 }) (va_Pc [.ref h0] (cP dC dI [(h0, .inr (8, [.ref a1, .ref a2, .ref a3, .ref a4, .ref a5, .ref a6, .ref a7, .ref a8, .ref a9, .int 0, .int 0, .int 0, .int 0, .int 0, .int 0])), (a5, .inl (k5, 60, .inr (.inr (.inr (.inr (fun _ => none))))))] [(k5, .object "YamRiders$Horse")] sz)) (va_Sv (fun _ => True)) 0 0 (fun _ => False) := by
  refine Met.ofW (cc := cX8_careForHorses) (maxL := 5) (ret := none) (by decide) rfl ?_
  intro p e s m args below meth c s₁ B hml hv
  obtain ⟨rfl, hsz, hP, hK, hD0, hN⟩ := hv
  have hx := B.exec
  have hb := B.bytes
  have hr := B.returns
  have hts := atoms_spec (ws := wsX8_careForHorses) B.pre
  have hown : s.vm.findClass RX8 = some m.cls := findClass_of_methodNamed B.named
  have hlocks := B.notSynchronized
  subst hsz
  have hin8 : ∀ w ∈ u_ws RX8 TX8 15, w ∈ wsX8_careForHorses := by decide +kernel
  have hD := hD0
  have hP : va_P (dC, dI) vwCl [(h0, .inr (8, [.ref a1, .ref a2, .ref a3, .ref a4, .ref a5, .ref a6, .ref a7, .ref a8, .ref a9, .int 0, .int 0, .int 0, .int 0, .int 0, .int 0])), (a5, .inl (k5, 60, .inr (.inr (.inr (.inr (fun _ => none))))))] s.heap := hP
  have hl := lv_entry ([.ref h0]) (n := 5) (Nat.le_of_ble_eq_true rfl)
  rw [lg_entry_eq]
  generalize (lg_sl ([.ref h0]) ++ List.replicate (5 - (lg_sl ([.ref h0])).length) Slot.unset).toArray = ls at hl ⊢
  have hl : lv_has ls 5 [(0, .ref h0)] := hl
  refine lv_aload_n hx hb dX8_careForHorses_0 rfl (lv_at hl 0 rfl) ?_
  refine va_get (D := (dC, dI)) (ci := 8) (v := .ref a5) (C := RX8) (T := TX8) (N := 15) hx hb hts hin8 hown hK hP 0 rfl rfl 4 (by decide) (hts (.fieldLink RX8 36 "YamRiders" "horses" "[LYamRiders$Horse;") (by decide +kernel)) (fun _ h9 => h9) rfl dX8_careForHorses_1 ?_
  refine lv_astore_n (lv' := [(1, .ref a5), (0, .ref h0)]) hx hb dX8_careForHorses_4 rfl hl (by decide) rfl (fun ls hl => ?_)
  refine lv_aload_n hx hb dX8_careForHorses_5 rfl (lv_at hl 0 rfl) ?_
  refine va_alen (v := 60) hx hb hK hP 1 0 rfl rfl rfl dX8_careForHorses_6 ?_
  refine lv_istore_n (lv' := [(2, .int 60), (1, .ref a5), (0, .ref h0)]) hx hb dX8_careForHorses_7 rfl hl (by decide) rfl (fun ls hl => ?_)
  refine lv_iconst (v := 0) hx hb dX8_careForHorses_8 (by decide) ?_
  refine lv_istore_n (lv' := [(3, .int 0), (2, .int 60), (1, .ref a5), (0, .ref h0)]) hx hb dX8_careForHorses_9 rfl hl (by decide) rfl (fun ls hl => ?_)
  have HL : ∀ (n k : Nat), k ≤ 60 → 60 + 1 ≤ k + n → ∀ ls : Array Slot, lv_has ls 5 [(0, .ref h0), (1, .ref a5), (2, .int 60), (3, .int (nI k))] → W p l e (headSpec wsX8_careForHorses ({ frames := 0, cells := 0, slots := 0, locals := 0 })).room s m ([.ref h0]).toArray below meth c s.heap [] 0 0 (MQ below (va_Sv (fun _ => True)) ([.ref h0]).toArray s 0 0 (fun _ => False)) (F0 m 10 ls []) := by
    intro n
    induction n with
    | zero => intro k h1 h2; exact absurd h2 (by omega)
    | succ n ih =>
      intro k hk hn ls hl
      refine lv_iload_n hx hb dX8_careForHorses_10 rfl (lv_at hl 3 rfl) ?_
      refine lv_iload_n hx hb dX8_careForHorses_11 rfl (lv_at hl 2 rfl) ?_
      refine lv_icmp_ge (tgt := 53) hx hb dX8_careForHorses_12 (by decide) (fun c_1 => ?_) (fun c_1 => ?_)
      · have hke : k = 60 := by
          rcases Nat.lt_or_ge k 60 with q | q
          · exact absurd c_1 (nI_ge q (by decide))
          · omega
        exact W.vret hx hb hr (fun t9 ht hW => ⟨rfl, trivial, ht⟩) (fun q h => nomatch h) dX8_careForHorses_53
      · have hlt : k < 60 := by
          rcases Nat.lt_or_ge k 60 with q | q
          · exact q
          · exact absurd (show nI 60 ≤ nI k from nI_le q (by omega)) c_1
        refine lv_aload_n hx hb dX8_careForHorses_15 rfl (lv_at hl 1 rfl) ?_
        refine lv_iload_n hx hb dX8_careForHorses_16 rfl (lv_at hl 3 rfl) ?_
        refine va_aldq hx hb hK hP 1 0 rfl rfl (vp_in_nI hlt (by decide)) dX8_careForHorses_17 ?_
        refine W.eq (g2 := F0 m 18 ls [.null]) rfl ?_
        refine lv_astoreN (lv' := [(4, .null), (0, .ref h0), (1, .ref a5), (2, .int 60), (3, .int (nI k))]) hx hb dX8_careForHorses_18 hl (by decide) rfl (fun ls hl => ?_)
        refine lv_aloadN hx hb dX8_careForHorses_20 (lv_at hl 0 rfl) ?_
        refine lv_ifnullN (tgt := 47) hx hb dX8_careForHorses_22 (by decide) ?_
        refine lv_iinc (v := nI (k + 1)) (lv' := [(3, .int (nI (k + 1))), (4, .null), (0, .ref h0), (1, .ref a5), (2, .int 60)]) hx hb dX8_careForHorses_47 hl (k := 4) rfl (by exact (nI_1 k)) (by decide) rfl (fun ls hl => ?_)
        refine lv_goto (tgt := 10) hx hb dX8_careForHorses_50 (by decide) ?_
        exact ih (k + 1) (by omega) (by omega) ls (lv_sub hl [2, 3, 4, 0] rfl)
  exact HL 61 0 (by omega) (by omega) ls (lv_sub hl [3, 2, 1, 0] rfl)

set_option maxHeartbeats 4000000 in
set_option maxRecDepth 100000 in
theorem c_X8_lineUpWaiting (l : Launch) (dC : Nat → ClassId) (dI : Nat → Nat → Nat) (h0 : Nat) (a1 : Nat) (a2 : Nat) (a3 : Nat) (a4 : Nat) (a5 : Nat) (a6 : Nat) (a7 : Nat) (a8 : Nat) (a9 : Nat) (k7 : ClassId) (sz : Nat) : Met l yX8_lineUpWaiting wsX8_lineUpWaiting ({ frames := 0, cells := 0, slots := 0, locals := 0 }) (va_Pc [.ref h0] (cP dC dI [(h0, .inr (8, [.ref a1, .ref a2, .ref a3, .ref a4, .ref a5, .ref a6, .ref a7, .ref a8, .ref a9, .int 0, .int 0, .int 0, .int 0, .int 0, .int 0])), (a7, .inl (k7, 60, .inr (.inr (.inr (.inr (fun _ => none))))))] [(k7, .object "YamRiders$Rider")] sz)) (va_Qv (fun (_ : Unit) => True) (fun (_ : Unit) t9 => cQ dC dI [(h0, .inr (8, [.ref a1, .ref a2, .ref a3, .ref a4, .ref a5, .ref a6, .ref a7, .ref a8, .ref a9, .int 0, .int 0, .int 0, .int 0, .int 0, .int 0])), (a7, .inl (k7, 60, .inr (.inr (.inr (.inr (fun _ => none))))))] [] (va_A [(h0, .inr (8, [.ref a1, .ref a2, .ref a3, .ref a4, .ref a5, .ref a6, .ref a7, .ref a8, .ref a9, .int 0, .int 0, .int 0, .int 0, .int 0, .int 0])), (a7, .inl (k7, 60, .inr (.inr (.inr (.inr (fun _ => none))))))] sz) t9) (va_A [(h0, .inr (8, [.ref a1, .ref a2, .ref a3, .ref a4, .ref a5, .ref a6, .ref a7, .ref a8, .ref a9, .int 0, .int 0, .int 0, .int 0, .int 0, .int 0])), (a7, .inl (k7, 60, .inr (.inr (.inr (.inr (fun _ => none))))))] sz)) 0 0 (va_A [(h0, .inr (8, [.ref a1, .ref a2, .ref a3, .ref a4, .ref a5, .ref a6, .ref a7, .ref a8, .ref a9, .int 0, .int 0, .int 0, .int 0, .int 0, .int 0])), (a7, .inl (k7, 60, .inr (.inr (.inr (.inr (fun _ => none))))))] sz) := by
  refine Met.ofW (cc := cX8_lineUpWaiting) (maxL := 5) (ret := none) (by decide) rfl ?_
  intro p e s m args below meth c s₁ B hml hv
  obtain ⟨rfl, hsz, hP, hK, hD0, hN⟩ := hv
  have hx := B.exec
  have hb := B.bytes
  have hr := B.returns
  have hts := atoms_spec (ws := wsX8_lineUpWaiting) B.pre
  have hown : s.vm.findClass RX8 = some m.cls := findClass_of_methodNamed B.named
  have hlocks := B.notSynchronized
  subst hsz
  have hin8 : ∀ w ∈ u_ws RX8 TX8 15, w ∈ wsX8_lineUpWaiting := by decide +kernel
  have hD := hD0.self (sz := s.heap.size)
  generalize hAe : va_A [(h0, .inr (8, [.ref a1, .ref a2, .ref a3, .ref a4, .ref a5, .ref a6, .ref a7, .ref a8, .ref a9, .int 0, .int 0, .int 0, .int 0, .int 0, .int 0])), (a7, .inl (k7, 60, .inr (.inr (.inr (.inr (fun _ => none))))))] s.heap.size = A at hD ⊢
  have hA : ∀ q : Nat, s.heap.size ≤ q → A q := fun q h => by rw [← hAe]; exact Or.inr h
  have hS : va_S A s.heap s.heap [] := va_S.rf
  have hP : va_P (dC, dI) vwCl [(h0, .inr (8, [.ref a1, .ref a2, .ref a3, .ref a4, .ref a5, .ref a6, .ref a7, .ref a8, .ref a9, .int 0, .int 0, .int 0, .int 0, .int 0, .int 0])), (a7, .inl (k7, 60, .inr (.inr (.inr (.inr (fun _ => none))))))] s.heap := hP
  have hl := lv_entry ([.ref h0]) (n := 5) (Nat.le_of_ble_eq_true rfl)
  rw [lg_entry_eq]
  generalize (lg_sl ([.ref h0]) ++ List.replicate (5 - (lg_sl ([.ref h0])).length) Slot.unset).toArray = ls at hl ⊢
  have hl : lv_has ls 5 [(0, .ref h0)] := hl
  refine lv_aload_n hx hb dX8_lineUpWaiting_0 rfl (lv_at hl 0 rfl) ?_
  refine lv_iconst (v := 0) hx hb dX8_lineUpWaiting_1 (by decide) ?_
  refine va_put (D := (dC, dI)) (ci := 8) (v := .int 0) (ty := (tyX8 13)) (C := RX8) (T := TX8) (N := 15) hx hb hts hin8 tyX8 tyX8_ok nmX8 hown hK hP hD hS 0 rfl rfl 13 (by decide) (hts (.fieldLink RX8 259 "YamRiders" "lineLength" "I") (by decide +kernel)) (fun _ h9 => h9) rfl (by decide +kernel) rfl rfl (Nat.le_of_ble_eq_true rfl) dX8_lineUpWaiting_2 (fun H locs hP hD hS => ?_)
  have hP : va_P (dC, dI) vwCl [(h0, .inr (8, [.ref a1, .ref a2, .ref a3, .ref a4, .ref a5, .ref a6, .ref a7, .ref a8, .ref a9, .int 0, .int 0, .int 0, .int 0, .int 0, .int 0])), (a7, .inl (k7, 60, .inr (.inr (.inr (.inr (fun _ => none))))))] H := hP
  have hD : va_D A [(h0, .inr (8, [.ref a1, .ref a2, .ref a3, .ref a4, .ref a5, .ref a6, .ref a7, .ref a8, .ref a9, .int 0, .int 0, .int 0, .int 0, .int 0, .int 0])), (a7, .inl (k7, 60, .inr (.inr (.inr (.inr (fun _ => none))))))] := hD
  refine lv_aload_n hx hb dX8_lineUpWaiting_5 rfl (lv_at hl 0 rfl) ?_
  refine va_get (D := (dC, dI)) (ci := 8) (v := .ref a7) (C := RX8) (T := TX8) (N := 15) hx hb hts hin8 hown hK hP 0 rfl rfl 6 (by decide) (hts (.fieldLink RX8 48 "YamRiders" "riders" "[LYamRiders$Rider;") (by decide +kernel)) (fun _ h9 => h9) rfl dX8_lineUpWaiting_6 ?_
  refine lv_astore_n (lv' := [(1, .ref a7), (0, .ref h0)]) hx hb dX8_lineUpWaiting_9 rfl hl (by decide) rfl (fun ls hl => ?_)
  refine lv_aload_n hx hb dX8_lineUpWaiting_10 rfl (lv_at hl 0 rfl) ?_
  refine va_alen (v := 60) hx hb hK hP 1 0 rfl rfl rfl dX8_lineUpWaiting_11 ?_
  refine lv_istore_n (lv' := [(2, .int 60), (1, .ref a7), (0, .ref h0)]) hx hb dX8_lineUpWaiting_12 rfl hl (by decide) rfl (fun ls hl => ?_)
  refine lv_iconst (v := 0) hx hb dX8_lineUpWaiting_13 (by decide) ?_
  refine lv_istore_n (lv' := [(3, .int 0), (2, .int 60), (1, .ref a7), (0, .ref h0)]) hx hb dX8_lineUpWaiting_14 rfl hl (by decide) rfl (fun ls hl => ?_)
  have HL : ∀ (n k : Nat), k ≤ 60 → 60 + 1 ≤ k + n → ∀ (H : Heap) (locs : List Loc), va_P (dC, dI) vwCl [(h0, .inr (8, [.ref a1, .ref a2, .ref a3, .ref a4, .ref a5, .ref a6, .ref a7, .ref a8, .ref a9, .int 0, .int 0, .int 0, .int 0, .int 0, .int 0])), (a7, .inl (k7, 60, .inr (.inr (.inr (.inr (fun _ => none))))))] H → va_D A [(h0, .inr (8, [.ref a1, .ref a2, .ref a3, .ref a4, .ref a5, .ref a6, .ref a7, .ref a8, .ref a9, .int 0, .int 0, .int 0, .int 0, .int 0, .int 0])), (a7, .inl (k7, 60, .inr (.inr (.inr (.inr (fun _ => none))))))] → va_S A s.heap H locs → ∀ ls : Array Slot, lv_has ls 5 [(0, .ref h0), (1, .ref a7), (2, .int 60), (3, .int (nI k))] → W p l e (headSpec wsX8_lineUpWaiting ({ frames := 0, cells := 0, slots := 0, locals := 0 })).room s m ([.ref h0]).toArray below meth c H locs 0 0 (MQ below (va_Qv (fun (_ : Unit) => True) (fun (_ : Unit) t9 => cQ dC dI [(h0, .inr (8, [.ref a1, .ref a2, .ref a3, .ref a4, .ref a5, .ref a6, .ref a7, .ref a8, .ref a9, .int 0, .int 0, .int 0, .int 0, .int 0, .int 0])), (a7, .inl (k7, 60, .inr (.inr (.inr (.inr (fun _ => none))))))] [] A t9) A) ([.ref h0]).toArray s 0 0 A) (F0 m 15 ls []) := by
    intro n
    induction n with
    | zero => intro k h1 h2; exact absurd h2 (by omega)
    | succ n ih =>
      intro k hk hn H locs hP hD hS ls hl
      refine lv_iload_n hx hb dX8_lineUpWaiting_15 rfl (lv_at hl 3 rfl) ?_
      refine lv_iload_n hx hb dX8_lineUpWaiting_16 rfl (lv_at hl 2 rfl) ?_
      refine lv_icmp_ge (tgt := 50) hx hb dX8_lineUpWaiting_17 (by decide) (fun c_1 => ?_) (fun c_1 => ?_)
      · have hke : k = 60 := by
          rcases Nat.lt_or_ge k 60 with q | q
          · exact absurd c_1 (nI_ge q (by decide))
          · omega
        have hP9 := hP.sub (ws' := [(h0, .inr (8, [.ref a1, .ref a2, .ref a3, .ref a4, .ref a5, .ref a6, .ref a7, .ref a8, .ref a9, .int 0, .int 0, .int 0, .int 0, .int 0, .int 0])), (a7, .inl (k7, 60, .inr (.inr (.inr (.inr (fun _ => none))))))]) [0, 1] rfl
        have hD9 := hD.sub (ws' := [(h0, .inr (8, [.ref a1, .ref a2, .ref a3, .ref a4, .ref a5, .ref a6, .ref a7, .ref a8, .ref a9, .int 0, .int 0, .int 0, .int 0, .int 0, .int 0])), (a7, .inl (k7, 60, .inr (.inr (.inr (.inr (fun _ => none))))))]) [0, 1] (by decide) rfl
        have hK9 := hK.sub (tys' := []) [] rfl
        refine W.widen (k := 0) (n := 0) (Nat.le_of_ble_eq_true rfl) (Nat.le_of_ble_eq_true rfl) ?_
        exact W.vret hx hb hr (fun t9 ht hW => ⟨⟨(), rfl, trivial, by rw [ht]; exact hP9, va_K.moved hW.alike hK9, hD9⟩, hS.F ht⟩) hS.2.2 dX8_lineUpWaiting_50
      · have hlt : k < 60 := by
          rcases Nat.lt_or_ge k 60 with q | q
          · exact q
          · exact absurd (show nI 60 ≤ nI k from nI_le q (by omega)) c_1
        refine lv_aload_n hx hb dX8_lineUpWaiting_20 rfl (lv_at hl 1 rfl) ?_
        refine lv_iload_n hx hb dX8_lineUpWaiting_21 rfl (lv_at hl 3 rfl) ?_
        refine va_aldq hx hb hK hP 1 0 rfl rfl (vp_in_nI hlt (by decide)) dX8_lineUpWaiting_22 ?_
        refine W.eq (g2 := F0 m 23 ls [.null]) rfl ?_
        refine lv_astoreN (lv' := [(4, .null), (0, .ref h0), (1, .ref a7), (2, .int 60), (3, .int (nI k))]) hx hb dX8_lineUpWaiting_23 hl (by decide) rfl (fun ls hl => ?_)
        refine lv_aloadN hx hb dX8_lineUpWaiting_25 (lv_at hl 0 rfl) ?_
        refine lv_ifnullN (tgt := 44) hx hb dX8_lineUpWaiting_27 (by decide) ?_
        refine lv_iinc (v := nI (k + 1)) (lv' := [(3, .int (nI (k + 1))), (4, .null), (0, .ref h0), (1, .ref a7), (2, .int 60)]) hx hb dX8_lineUpWaiting_44 hl (k := 4) rfl (by exact (nI_1 k)) (by decide) rfl (fun ls hl => ?_)
        refine lv_goto (tgt := 15) hx hb dX8_lineUpWaiting_47 (by decide) ?_
        exact ih (k + 1) (by omega) (by omega) _ _ (hP.sub [0, 1] rfl) (hD.sub [0, 1] (by decide) rfl) hS ls (lv_sub hl [2, 3, 4, 0] rfl)
  exact HL 61 0 (by omega) (by omega) _ _ (hP.sub [0, 1] rfl) (hD.sub [0, 1] (by decide) rfl) hS ls (lv_sub hl [3, 2, 1, 0] rfl)

set_option maxHeartbeats 4000000 in
set_option maxRecDepth 100000 in
theorem c_X8_sendLine (l : Launch) (dC : Nat → ClassId) (dI : Nat → Nat → Nat) (h0 : Nat) (a1 : Nat) (a2 : Nat) (a3 : Nat) (a4 : Nat) (a5 : Nat) (a6 : Nat) (a7 : Nat) (a8 : Nat) (a9 : Nat) (sz : Nat) : Met l yX8_sendLine wsX8_sendLine ({ frames := 0, cells := 0, slots := 0, locals := 0 }) (va_Pc [.ref h0] (cP dC dI [(h0, .inr (8, [.ref a1, .ref a2, .ref a3, .ref a4, .ref a5, .ref a6, .ref a7, .ref a8, .ref a9, .int 0, .int 0, .int 0, .int 0, .int 0, .int 0]))] [] sz)) (va_Sv (fun _ => True)) 0 0 (fun _ => False) := by
  refine Met.ofW (cc := cX8_sendLine) (maxL := 3) (ret := none) (by decide) rfl ?_
  intro p e s m args below meth c s₁ B hml hv
  obtain ⟨rfl, hsz, hP, hK, hD0, hN⟩ := hv
  have hx := B.exec
  have hb := B.bytes
  have hr := B.returns
  have hts := atoms_spec (ws := wsX8_sendLine) B.pre
  have hown : s.vm.findClass RX8 = some m.cls := findClass_of_methodNamed B.named
  have hlocks := B.notSynchronized
  subst hsz
  have hin8 : ∀ w ∈ u_ws RX8 TX8 15, w ∈ wsX8_sendLine := by decide +kernel
  have hD := hD0
  have hP : va_P (dC, dI) vwCl [(h0, .inr (8, [.ref a1, .ref a2, .ref a3, .ref a4, .ref a5, .ref a6, .ref a7, .ref a8, .ref a9, .int 0, .int 0, .int 0, .int 0, .int 0, .int 0]))] s.heap := hP
  have hl := lv_entry ([.ref h0]) (n := 3) (Nat.le_of_ble_eq_true rfl)
  rw [lg_entry_eq]
  generalize (lg_sl ([.ref h0]) ++ List.replicate (3 - (lg_sl ([.ref h0])).length) Slot.unset).toArray = ls at hl ⊢
  have hl : lv_has ls 3 [(0, .ref h0)] := hl
  refine lv_iconst (v := 0) hx hb dX8_sendLine_0 (by decide) ?_
  refine lv_istore_n (lv' := [(1, .int 0), (0, .ref h0)]) hx hb dX8_sendLine_1 rfl hl (by decide) rfl (fun ls hl => ?_)
  refine lv_iload_n hx hb dX8_sendLine_2 rfl (lv_at hl 0 rfl) ?_
  refine lv_aload_n hx hb dX8_sendLine_3 rfl (lv_at hl 1 rfl) ?_
  refine va_get (D := (dC, dI)) (ci := 8) (v := .int 0) (C := RX8) (T := TX8) (N := 15) hx hb hts hin8 hown hK hP 0 rfl rfl 13 (by decide) (hts (.fieldLink RX8 259 "YamRiders" "lineLength" "I") (by decide +kernel)) (fun _ h9 => h9) rfl dX8_sendLine_4 ?_
  refine lv_icmp_ge (tgt := 38) hx hb dX8_sendLine_7 (by decide) (fun _ => ?_) (fun c_1 => by first | exact absurd c_1 (by decide) | exact absurd (by decide) c_1)
  exact W.vret hx hb hr (fun t9 ht hW => ⟨rfl, trivial, ht⟩) (fun q h => nomatch h) dX8_sendLine_38

set_option maxHeartbeats 4000000 in
set_option maxRecDepth 100000 in
theorem c_X8_bringComers (l : Launch) (dC : Nat → ClassId) (dI : Nat → Nat → Nat) (h0 : Nat) (a1 : Nat) (a2 : Nat) (a3 : Nat) (a4 : Nat) (a5 : Nat) (a6 : Nat) (a7 : Nat) (a8 : Nat) (a9 : Nat) (k7 : ClassId) (sz : Nat) : Met l yX8_bringComers wsX8_bringComers ({ frames := 0, cells := 0, slots := 0, locals := 0 }) (va_Pc [.ref h0] (cP dC dI [(h0, .inr (8, [.ref a1, .ref a2, .ref a3, .ref a4, .ref a5, .ref a6, .ref a7, .ref a8, .ref a9, .int 0, .int 0, .int 0, .int 0, .int 0, .int 1])), (a7, .inl (k7, 60, .inr (.inr (.inr (.inr (fun _ => none))))))] [(k7, .object "YamRiders$Rider")] sz)) (va_Sv (fun _ => True)) 0 0 (fun _ => False) := by
  refine Met.ofW (cc := cX8_bringComers) (maxL := 5) (ret := none) (by decide) rfl ?_
  intro p e s m args below meth c s₁ B hml hv
  obtain ⟨rfl, hsz, hP, hK, hD0, hN⟩ := hv
  have hx := B.exec
  have hb := B.bytes
  have hr := B.returns
  have hts := atoms_spec (ws := wsX8_bringComers) B.pre
  have hown : s.vm.findClass RX8 = some m.cls := findClass_of_methodNamed B.named
  have hlocks := B.notSynchronized
  subst hsz
  have hin8 : ∀ w ∈ u_ws RX8 TX8 15, w ∈ wsX8_bringComers := by decide +kernel
  have hD := hD0
  have hP : va_P (dC, dI) vwCl [(h0, .inr (8, [.ref a1, .ref a2, .ref a3, .ref a4, .ref a5, .ref a6, .ref a7, .ref a8, .ref a9, .int 0, .int 0, .int 0, .int 0, .int 0, .int 1])), (a7, .inl (k7, 60, .inr (.inr (.inr (.inr (fun _ => none))))))] s.heap := hP
  have hl := lv_entry ([.ref h0]) (n := 5) (Nat.le_of_ble_eq_true rfl)
  rw [lg_entry_eq]
  generalize (lg_sl ([.ref h0]) ++ List.replicate (5 - (lg_sl ([.ref h0])).length) Slot.unset).toArray = ls at hl ⊢
  have hl : lv_has ls 5 [(0, .ref h0)] := hl
  refine lv_aload_n hx hb dX8_bringComers_0 rfl (lv_at hl 0 rfl) ?_
  refine va_get (D := (dC, dI)) (ci := 8) (v := .ref a7) (C := RX8) (T := TX8) (N := 15) hx hb hts hin8 hown hK hP 0 rfl rfl 6 (by decide) (hts (.fieldLink RX8 48 "YamRiders" "riders" "[LYamRiders$Rider;") (by decide +kernel)) (fun _ h9 => h9) rfl dX8_bringComers_1 ?_
  refine lv_astore_n (lv' := [(1, .ref a7), (0, .ref h0)]) hx hb dX8_bringComers_4 rfl hl (by decide) rfl (fun ls hl => ?_)
  refine lv_aload_n hx hb dX8_bringComers_5 rfl (lv_at hl 0 rfl) ?_
  refine va_alen (v := 60) hx hb hK hP 1 0 rfl rfl rfl dX8_bringComers_6 ?_
  refine lv_istore_n (lv' := [(2, .int 60), (1, .ref a7), (0, .ref h0)]) hx hb dX8_bringComers_7 rfl hl (by decide) rfl (fun ls hl => ?_)
  refine lv_iconst (v := 0) hx hb dX8_bringComers_8 (by decide) ?_
  refine lv_istore_n (lv' := [(3, .int 0), (2, .int 60), (1, .ref a7), (0, .ref h0)]) hx hb dX8_bringComers_9 rfl hl (by decide) rfl (fun ls hl => ?_)
  have HL : ∀ (n k : Nat), k ≤ 60 → 60 + 1 ≤ k + n → ∀ ls : Array Slot, lv_has ls 5 [(0, .ref h0), (1, .ref a7), (2, .int 60), (3, .int (nI k))] → W p l e (headSpec wsX8_bringComers ({ frames := 0, cells := 0, slots := 0, locals := 0 })).room s m ([.ref h0]).toArray below meth c s.heap [] 0 0 (MQ below (va_Sv (fun _ => True)) ([.ref h0]).toArray s 0 0 (fun _ => False)) (F0 m 10 ls []) := by
    intro n
    induction n with
    | zero => intro k h1 h2; exact absurd h2 (by omega)
    | succ n ih =>
      intro k hk hn ls hl
      refine lv_iload_n hx hb dX8_bringComers_10 rfl (lv_at hl 3 rfl) ?_
      refine lv_iload_n hx hb dX8_bringComers_11 rfl (lv_at hl 2 rfl) ?_
      refine lv_icmp_ge (tgt := 68) hx hb dX8_bringComers_12 (by decide) (fun c_1 => ?_) (fun c_1 => ?_)
      · have hke : k = 60 := by
          rcases Nat.lt_or_ge k 60 with q | q
          · exact absurd c_1 (nI_ge q (by decide))
          · omega
        exact W.vret hx hb hr (fun t9 ht hW => ⟨rfl, trivial, ht⟩) (fun q h => nomatch h) dX8_bringComers_68
      · have hlt : k < 60 := by
          rcases Nat.lt_or_ge k 60 with q | q
          · exact q
          · exact absurd (show nI 60 ≤ nI k from nI_le q (by omega)) c_1
        refine lv_aload_n hx hb dX8_bringComers_15 rfl (lv_at hl 1 rfl) ?_
        refine lv_iload_n hx hb dX8_bringComers_16 rfl (lv_at hl 3 rfl) ?_
        refine va_aldq hx hb hK hP 1 0 rfl rfl (vp_in_nI hlt (by decide)) dX8_bringComers_17 ?_
        refine W.eq (g2 := F0 m 18 ls [.null]) rfl ?_
        refine lv_astoreN (lv' := [(4, .null), (0, .ref h0), (1, .ref a7), (2, .int 60), (3, .int (nI k))]) hx hb dX8_bringComers_18 hl (by decide) rfl (fun ls hl => ?_)
        refine lv_aloadN hx hb dX8_bringComers_20 (lv_at hl 0 rfl) ?_
        refine lv_ifnullN (tgt := 62) hx hb dX8_bringComers_22 (by decide) ?_
        refine lv_iinc (v := nI (k + 1)) (lv' := [(3, .int (nI (k + 1))), (4, .null), (0, .ref h0), (1, .ref a7), (2, .int 60)]) hx hb dX8_bringComers_62 hl (k := 4) rfl (by exact (nI_1 k)) (by decide) rfl (fun ls hl => ?_)
        refine lv_goto (tgt := 10) hx hb dX8_bringComers_65 (by decide) ?_
        exact ih (k + 1) (by omega) (by omega) ls (lv_sub hl [2, 3, 4, 0] rfl)
  exact HL 61 0 (by omega) (by omega) ls (lv_sub hl [3, 2, 1, 0] rfl)

set_option maxHeartbeats 4000000 in
set_option maxRecDepth 100000 in
theorem c_X8_next (l : Launch) (dC : Nat → ClassId) (dI : Nat → Nat → Nat) (h0 : Nat) (a1 : Nat) (a2 : Nat) (a3 : Nat) (a4 : Nat) (a5 : Nat) (a6 : Nat) (a7 : Nat) (a8 : Nat) (a9 : Nat) (k5 : ClassId) (k7 : ClassId) (sz : Nat) : Met l yX8_next wsX8_next ({ frames := 1, cells := 0, slots := 0, locals := 24 }) (va_Pc [.ref h0] (cP dC dI [(h0, .inr (8, [.ref a1, .ref a2, .ref a3, .ref a4, .ref a5, .ref a6, .ref a7, .ref a8, .ref a9, .int 0, .int 0, .int 0, .int 0, .int 0, .int 0])), (a5, .inl (k5, 60, .inr (.inr (.inr (.inr (fun _ => none)))))), (a7, .inl (k7, 60, .inr (.inr (.inr (.inr (fun _ => none))))))] [(k5, .object "YamRiders$Horse"), (k7, .object "YamRiders$Rider")] sz)) (va_Qi (fun (r : Int32) (_ : Unit) => r = 1) (fun (_ : Unit) t9 => cQ dC dI [] [] (va_A [(h0, .inr (8, [.ref a1, .ref a2, .ref a3, .ref a4, .ref a5, .ref a6, .ref a7, .ref a8, .ref a9, .int 0, .int 0, .int 0, .int 0, .int 0, .int 0])), (a5, .inl (k5, 60, .inr (.inr (.inr (.inr (fun _ => none)))))), (a7, .inl (k7, 60, .inr (.inr (.inr (.inr (fun _ => none))))))] sz) t9) (va_A [(h0, .inr (8, [.ref a1, .ref a2, .ref a3, .ref a4, .ref a5, .ref a6, .ref a7, .ref a8, .ref a9, .int 0, .int 0, .int 0, .int 0, .int 0, .int 0])), (a5, .inl (k5, 60, .inr (.inr (.inr (.inr (fun _ => none)))))), (a7, .inl (k7, 60, .inr (.inr (.inr (.inr (fun _ => none))))))] sz)) 0 0 (va_A [(h0, .inr (8, [.ref a1, .ref a2, .ref a3, .ref a4, .ref a5, .ref a6, .ref a7, .ref a8, .ref a9, .int 0, .int 0, .int 0, .int 0, .int 0, .int 0])), (a5, .inl (k5, 60, .inr (.inr (.inr (.inr (fun _ => none)))))), (a7, .inl (k7, 60, .inr (.inr (.inr (.inr (fun _ => none))))))] sz) := by
  refine Met.ofW (cc := cX8_next) (maxL := 1) (ret := (some .int)) (by decide) rfl ?_
  intro p e s m args below meth c s₁ B hml hv
  obtain ⟨rfl, hsz, hP, hK, hD0, hN⟩ := hv
  have hx := B.exec
  have hb := B.bytes
  have hr := B.returns
  have hts := atoms_spec (ws := wsX8_next) B.pre
  have hown : s.vm.findClass RX8 = some m.cls := findClass_of_methodNamed B.named
  have hlocks := B.notSynchronized
  subst hsz
  have hin8 : ∀ w ∈ u_ws RX8 TX8 15, w ∈ wsX8_next := by decide +kernel
  have hD := hD0.self (sz := s.heap.size)
  generalize hAe : va_A [(h0, .inr (8, [.ref a1, .ref a2, .ref a3, .ref a4, .ref a5, .ref a6, .ref a7, .ref a8, .ref a9, .int 0, .int 0, .int 0, .int 0, .int 0, .int 0])), (a5, .inl (k5, 60, .inr (.inr (.inr (.inr (fun _ => none)))))), (a7, .inl (k7, 60, .inr (.inr (.inr (.inr (fun _ => none))))))] s.heap.size = A at hD ⊢
  have hA : ∀ q : Nat, s.heap.size ≤ q → A q := fun q h => by rw [← hAe]; exact Or.inr h
  have hS : va_S A s.heap s.heap [] := va_S.rf
  have hP : va_P (dC, dI) vwCl [(h0, .inr (8, [.ref a1, .ref a2, .ref a3, .ref a4, .ref a5, .ref a6, .ref a7, .ref a8, .ref a9, .int 0, .int 0, .int 0, .int 0, .int 0, .int 0])), (a5, .inl (k5, 60, .inr (.inr (.inr (.inr (fun _ => none)))))), (a7, .inl (k7, 60, .inr (.inr (.inr (.inr (fun _ => none))))))] s.heap := hP
  have hl := lv_entry ([.ref h0]) (n := 1) (Nat.le_of_ble_eq_true rfl)
  rw [lg_entry_eq]
  generalize (lg_sl ([.ref h0]) ++ List.replicate (1 - (lg_sl ([.ref h0])).length) Slot.unset).toArray = ls at hl ⊢
  have hl : lv_has ls 1 [(0, .ref h0)] := hl
  refine lv_aload_n hx hb dX8_next_0 rfl (lv_at hl 0 rfl) ?_
  refine va_get (D := (dC, dI)) (ci := 8) (v := .int 0) (C := RX8) (T := TX8) (N := 15) hx hb hts hin8 hown hK hP 0 rfl rfl 14 (by decide) (hts (.fieldLink RX8 140 "YamRiders" "hour" "I") (by decide +kernel)) (fun _ h9 => h9) rfl dX8_next_1 ?_
  refine lv_sipush (v := 9999) hx hb dX8_next_4 (by decide) ?_
  refine lv_icmp_lt (tgt := 12) hx hb dX8_next_7 (by decide) (fun _ => ?_) (fun c_1 => by first | exact absurd c_1 (by decide) | exact absurd (by decide) c_1)
  refine lv_aload_n hx hb dX8_next_12 rfl (lv_at hl 0 rfl) ?_
  have hPc := hP.sub (ws' := [(h0, .inr (8, [.ref a1, .ref a2, .ref a3, .ref a4, .ref a5, .ref a6, .ref a7, .ref a8, .ref a9, .int 0, .int 0, .int 0, .int 0, .int 0, .int 0])), (a5, .inl (k5, 60, .inr (.inr (.inr (.inr (fun _ => none))))))]) [0, 1] rfl
  have hDc := hD.sub (ws' := [(h0, .inr (8, [.ref a1, .ref a2, .ref a3, .ref a4, .ref a5, .ref a6, .ref a7, .ref a8, .ref a9, .int 0, .int 0, .int 0, .int 0, .int 0, .int 0])), (a5, .inl (k5, 60, .inr (.inr (.inr (.inr (fun _ => none))))))]) [0, 1] (by decide) rfl
  have hKc := hK.sub (tys' := [(k5, .object "YamRiders$Horse")]) [0] rfl
  refine cs_v (va_runV (As := []) (rest := []) ⟨hx, hb, hml, hown, hts⟩ (c_X8_careForHorses l dC dI h0 a1 a2 a3 a4 a5 a6 a7 a8 a9 k5 s.heap.size) (cwV 0 hts gX8_next_X8_careForHorses rfl rfl rfl (by decide +kernel) ⟨Nat.le_of_ble_eq_true rfl, Nat.le_of_ble_eq_true rfl⟩) ⟨c_blind, va_recv hKc hPc (ci := 8) (q0 := 0) rfl rfl, c_pre hPc hKc hDc hN⟩ rfl rfl hl.1 rfl (lv_room (Nat.le_of_ble_eq_true rfl)) dX8_next_13 ⟨Nat.le_of_ble_eq_true rfl, Nat.le_of_ble_eq_true rfl⟩) (fun _ => ?_)
  refine lv_aload_n hx hb dX8_next_16 rfl (lv_at hl 0 rfl) ?_
  have hPc := hP.sub (ws' := [(h0, .inr (8, [.ref a1, .ref a2, .ref a3, .ref a4, .ref a5, .ref a6, .ref a7, .ref a8, .ref a9, .int 0, .int 0, .int 0, .int 0, .int 0, .int 0])), (a7, .inl (k7, 60, .inr (.inr (.inr (.inr (fun _ => none))))))]) [0, 2] rfl
  have hDc := hD.sub (ws' := [(h0, .inr (8, [.ref a1, .ref a2, .ref a3, .ref a4, .ref a5, .ref a6, .ref a7, .ref a8, .ref a9, .int 0, .int 0, .int 0, .int 0, .int 0, .int 0])), (a7, .inl (k7, 60, .inr (.inr (.inr (.inr (fun _ => none))))))]) [0, 2] (by decide) rfl
  have hKc := hK.sub (tys' := [(k7, .object "YamRiders$Rider")]) [1] rfl
  have hFc := va_free (wc := [(h0, .inr (8, [.ref a1, .ref a2, .ref a3, .ref a4, .ref a5, .ref a6, .ref a7, .ref a8, .ref a9, .int 0, .int 0, .int 0, .int 0, .int 0, .int 0])), (a7, .inl (k7, 60, .inr (.inr (.inr (.inr (fun _ => none))))))]) hD hS hA [0, 2] rfl
  refine va_callv (va_runV (As := []) (rest := []) ⟨hx, hb, hml, hown, hts⟩ (c_X8_lineUpWaiting l dC dI h0 a1 a2 a3 a4 a5 a6 a7 a8 a9 k7 s.heap.size) (cwV 0 hts gX8_next_X8_lineUpWaiting rfl rfl rfl (by decide +kernel) ⟨Nat.le_of_ble_eq_true rfl, Nat.le_of_ble_eq_true rfl⟩) ⟨c_blind, va_recv hKc hPc (ci := 8) (q0 := 0) rfl rfl, c_pre hPc hKc hDc hN⟩ rfl rfl hl.1 rfl (lv_room (Nat.le_of_ble_eq_true rfl)) dX8_next_17 ⟨Nat.le_of_ble_eq_true rfl, Nat.le_of_ble_eq_true rfl⟩) hS (fun q _ h => hFc q h) hFc (fun u9 t9 H1 locs ht hvm hw hB hz1 hk1 hS => ?_)
  obtain ⟨hP1, hK1, hD1⟩ := hB
  rw [ht] at hP1
  have hK1 := va_K.moved hvm.symm hK1
  obtain ⟨hP, hD⟩ := va_join (wr := [(a5, .inl (k5, 60, .inr (.inr (.inr (.inr (fun _ => none))))))]) (w1 := [(h0, .inr (8, [.ref a1, .ref a2, .ref a3, .ref a4, .ref a5, .ref a6, .ref a7, .ref a8, .ref a9, .int 0, .int 0, .int 0, .int 0, .int 0, .int 0])), (a7, .inl (k7, 60, .inr (.inr (.inr (.inr (fun _ => none))))))]) hP hD [0, 2] [1] rfl rfl (by decide) (by decide) hk1 hFc hP1 hD1
  have hK := (hK.sub (tys' := [(k5, .object "YamRiders$Horse"), (k7, .object "YamRiders$Rider")]) [0, 1] rfl).app hK1
  generalize H1 = H at hP hS ⊢
  have hK : va_K (dC, dI) vwCl [(k5, .object "YamRiders$Horse"), (k7, .object "YamRiders$Rider")] s := hK
  have hP : va_P (dC, dI) vwCl [(a5, .inl (k5, 60, .inr (.inr (.inr (.inr (fun _ => none)))))), (h0, .inr (8, [.ref a1, .ref a2, .ref a3, .ref a4, .ref a5, .ref a6, .ref a7, .ref a8, .ref a9, .int 0, .int 0, .int 0, .int 0, .int 0, .int 0])), (a7, .inl (k7, 60, .inr (.inr (.inr (.inr (fun _ => none))))))] H := hP
  have hD : va_D A [(a5, .inl (k5, 60, .inr (.inr (.inr (.inr (fun _ => none)))))), (h0, .inr (8, [.ref a1, .ref a2, .ref a3, .ref a4, .ref a5, .ref a6, .ref a7, .ref a8, .ref a9, .int 0, .int 0, .int 0, .int 0, .int 0, .int 0])), (a7, .inl (k7, 60, .inr (.inr (.inr (.inr (fun _ => none))))))] := hD
  refine W.widen (k := 0) (n := 0) (Nat.le_of_ble_eq_true rfl) (Nat.le_of_ble_eq_true rfl) ?_
  refine lv_aload_n hx hb dX8_next_20 rfl (lv_at hl 0 rfl) ?_
  have hPc := hP.sub (ws' := [(h0, .inr (8, [.ref a1, .ref a2, .ref a3, .ref a4, .ref a5, .ref a6, .ref a7, .ref a8, .ref a9, .int 0, .int 0, .int 0, .int 0, .int 0, .int 0]))]) [1] rfl
  have hDc := hD.sub (ws' := [(h0, .inr (8, [.ref a1, .ref a2, .ref a3, .ref a4, .ref a5, .ref a6, .ref a7, .ref a8, .ref a9, .int 0, .int 0, .int 0, .int 0, .int 0, .int 0]))]) [1] (by decide) rfl
  have hKc := hK.sub (tys' := []) [] rfl
  refine cs_v (va_runV (As := []) (rest := []) ⟨hx, hb, hml, hown, hts⟩ (c_X8_sendLine l dC dI h0 a1 a2 a3 a4 a5 a6 a7 a8 a9 H.size) (cwV 0 hts gX8_next_X8_sendLine rfl rfl rfl (by decide +kernel) ⟨Nat.le_of_ble_eq_true rfl, Nat.le_of_ble_eq_true rfl⟩) ⟨c_blind, va_recv hKc hPc (ci := 8) (q0 := 0) rfl rfl, c_pre hPc hKc hDc hN⟩ rfl rfl hl.1 rfl (lv_room (Nat.le_of_ble_eq_true rfl)) dX8_next_21 ⟨Nat.le_of_ble_eq_true rfl, Nat.le_of_ble_eq_true rfl⟩) (fun _ => ?_)
  refine lv_aload_n hx hb dX8_next_24 rfl (lv_at hl 0 rfl) ?_
  refine lv_dup hx hb dX8_next_25 rfl ?_
  refine va_get (D := (dC, dI)) (ci := 8) (v := .int 0) (C := RX8) (T := TX8) (N := 15) hx hb hts hin8 hown hK hP 1 rfl rfl 14 (by decide) (hts (.fieldLink RX8 140 "YamRiders" "hour" "I") (by decide +kernel)) (fun _ h9 => h9) rfl dX8_next_26 ?_
  refine lv_iconst (v := 1) hx hb dX8_next_29 (by decide) ?_
  refine lv_iadd hx hb dX8_next_30 ?_
  refine lv_topi (fun y_3 ey_3 => ?_)
  obtain rfl : y_3 = 1 := ey_3.trans (by decide)
  refine va_put (D := (dC, dI)) (ci := 8) (v := .int 1) (ty := (tyX8 14)) (C := RX8) (T := TX8) (N := 15) hx hb hts hin8 tyX8 tyX8_ok nmX8 hown hK hP hD hS 1 rfl rfl 14 (by decide) (hts (.fieldLink RX8 140 "YamRiders" "hour" "I") (by decide +kernel)) (fun _ h9 => h9) rfl (by decide +kernel) rfl rfl (Nat.le_of_ble_eq_true rfl) dX8_next_31 (fun H locs hP hD hS => ?_)
  have hP : va_P (dC, dI) vwCl [(a5, .inl (k5, 60, .inr (.inr (.inr (.inr (fun _ => none)))))), (h0, .inr (8, [.ref a1, .ref a2, .ref a3, .ref a4, .ref a5, .ref a6, .ref a7, .ref a8, .ref a9, .int 0, .int 0, .int 0, .int 0, .int 0, .int 1])), (a7, .inl (k7, 60, .inr (.inr (.inr (.inr (fun _ => none))))))] H := hP
  have hD : va_D A [(a5, .inl (k5, 60, .inr (.inr (.inr (.inr (fun _ => none)))))), (h0, .inr (8, [.ref a1, .ref a2, .ref a3, .ref a4, .ref a5, .ref a6, .ref a7, .ref a8, .ref a9, .int 0, .int 0, .int 0, .int 0, .int 0, .int 1])), (a7, .inl (k7, 60, .inr (.inr (.inr (.inr (fun _ => none))))))] := hD
  refine lv_aload_n hx hb dX8_next_34 rfl (lv_at hl 0 rfl) ?_
  have hPc := hP.sub (ws' := [(h0, .inr (8, [.ref a1, .ref a2, .ref a3, .ref a4, .ref a5, .ref a6, .ref a7, .ref a8, .ref a9, .int 0, .int 0, .int 0, .int 0, .int 0, .int 1])), (a7, .inl (k7, 60, .inr (.inr (.inr (.inr (fun _ => none))))))]) [1, 2] rfl
  have hDc := hD.sub (ws' := [(h0, .inr (8, [.ref a1, .ref a2, .ref a3, .ref a4, .ref a5, .ref a6, .ref a7, .ref a8, .ref a9, .int 0, .int 0, .int 0, .int 0, .int 0, .int 1])), (a7, .inl (k7, 60, .inr (.inr (.inr (.inr (fun _ => none))))))]) [1, 2] (by decide) rfl
  have hKc := hK.sub (tys' := [(k7, .object "YamRiders$Rider")]) [1] rfl
  refine cs_v (va_runV (As := []) (rest := []) ⟨hx, hb, hml, hown, hts⟩ (c_X8_bringComers l dC dI h0 a1 a2 a3 a4 a5 a6 a7 a8 a9 k7 H.size) (cwV 0 hts gX8_next_X8_bringComers rfl rfl rfl (by decide +kernel) ⟨Nat.le_of_ble_eq_true rfl, Nat.le_of_ble_eq_true rfl⟩) ⟨c_blind, va_recv hKc hPc (ci := 8) (q0 := 0) rfl rfl, c_pre hPc hKc hDc hN⟩ rfl rfl hl.1 rfl (lv_room (Nat.le_of_ble_eq_true rfl)) dX8_next_35 ⟨Nat.le_of_ble_eq_true rfl, Nat.le_of_ble_eq_true rfl⟩) (fun _ => ?_)
  refine lv_aload_n hx hb dX8_next_38 rfl (lv_at hl 0 rfl) ?_
  refine va_get (D := (dC, dI)) (ci := 8) (v := .int 1) (C := RX8) (T := TX8) (N := 15) hx hb hts hin8 hown hK hP 1 rfl rfl 14 (by decide) (hts (.fieldLink RX8 140 "YamRiders" "hour" "I") (by decide +kernel)) (fun _ h9 => h9) rfl dX8_next_39 ?_
  have hP9 := hP.sub (ws' := []) [] rfl
  have hD9 := hD.sub (ws' := []) [] (by decide) rfl
  have hK9 := hK.sub (tys' := []) [] rfl
  refine W.widen (k := 0) (n := 0) (Nat.le_of_ble_eq_true rfl) (Nat.le_of_ble_eq_true rfl) ?_
  exact W.iret (v := 1) hx hb hr (fun t9 ht hW => ⟨⟨_, (), rfl, rfl, by rw [ht]; exact hP9, va_K.moved hW.alike hK9, hD9⟩, hS.F ht⟩) hS.2.2 dX8_next_42

set_option maxHeartbeats 4000000 in
set_option maxRecDepth 100000 in
theorem c_X8_at (l : Launch) (dC : Nat → ClassId) (dI : Nat → Nat → Nat) (h0 : Nat) (a1 : Nat) (a2 : Nat) (a3 : Nat) (a4 : Nat) (a5 : Nat) (a6 : Nat) (a7 : Nat) (a8 : Nat) (a9 : Nat) (k4 : ClassId) (k5 : ClassId) (k7 : ClassId) (p0 : Int32) (p1 : Int32) (sz : Nat) : Met l yX8_at wsX8_at ({ frames := 1, cells := 0, slots := 0, locals := 26 }) (va_Pc [.ref h0, .int p0, .int p1] (cP dC dI [(h0, .inr (8, [.ref a1, .ref a2, .ref a3, .ref a4, .ref a5, .ref a6, .ref a7, .ref a8, .ref a9, .int 0, .int 0, .int 0, .int 0, .int 0, .int 0])), (a4, .inl (k4, 12, .inl (fun _ => 0))), (a5, .inl (k5, 60, .inr (.inr (.inr (.inr (fun _ => none)))))), (a7, .inl (k7, 60, .inr (.inr (.inr (.inr (fun _ => none))))))] [(k4, .int), (k5, .object "YamRiders$Horse"), (k7, .object "YamRiders$Rider")] sz)) (vp_Si (fun r => r = (if (sp_st p0) = 0 then (-1) else (if p1 = 0 then 0 else (if p1 = 1 then 0 else (if p1 = 2 then 0 else (-1))))))) 0 0 (fun _ => False) := by
  refine Met.ofW (cc := cX8_at) (maxL := 3) (ret := (some .int)) (by decide) rfl ?_
  intro p e s m args below meth c s₁ B hml hv
  obtain ⟨rfl, hsz, hP, hK, hD0, hN⟩ := hv
  have hx := B.exec
  have hb := B.bytes
  have hr := B.returns
  have hts := atoms_spec (ws := wsX8_at) B.pre
  have hown : s.vm.findClass RX8 = some m.cls := findClass_of_methodNamed B.named
  have hlocks := B.notSynchronized
  subst hsz
  have hin8 : ∀ w ∈ u_ws RX8 TX8 15, w ∈ wsX8_at := by decide +kernel
  have hD := hD0
  have hP : va_P (dC, dI) vwCl [(h0, .inr (8, [.ref a1, .ref a2, .ref a3, .ref a4, .ref a5, .ref a6, .ref a7, .ref a8, .ref a9, .int 0, .int 0, .int 0, .int 0, .int 0, .int 0])), (a4, .inl (k4, 12, .inl (fun _ => 0))), (a5, .inl (k5, 60, .inr (.inr (.inr (.inr (fun _ => none)))))), (a7, .inl (k7, 60, .inr (.inr (.inr (.inr (fun _ => none))))))] s.heap := hP
  have hl := lv_entry ([.ref h0, .int p0, .int p1]) (n := 3) (Nat.le_of_ble_eq_true rfl)
  rw [lg_entry_eq]
  generalize (lg_sl ([.ref h0, .int p0, .int p1]) ++ List.replicate (3 - (lg_sl ([.ref h0, .int p0, .int p1])).length) Slot.unset).toArray = ls at hl ⊢
  have hl : lv_has ls 3 [(0, .ref h0), (1, .int p0), (2, .int p1)] := hl
  refine lv_iload_n hx hb dX8_at_0 rfl (lv_at hl 1 rfl) ?_
  have hPc := hP.sub (ws' := []) [] rfl
  have hDc := hD.sub (ws' := []) [] (by decide) rfl
  have hKc := hK.sub (tys' := []) [] rfl
  refine cs_i (va_runS (As := [.int p0]) (rest := []) ⟨hx, hb, hml, hown, hts⟩ (c_X8_isStation l dC dI p0 s.heap.size) (va_cwS 1 hts gX8_at_X8_isStation rfl rfl rfl (by decide +kernel) ⟨Nat.le_of_ble_eq_true rfl, Nat.le_of_ble_eq_true rfl⟩) ⟨c_blind, c_pre hPc hKc hDc hN⟩ rfl rfl hl.1 rfl (lv_room (Nat.le_of_ble_eq_true rfl)) dX8_at_1 ⟨Nat.le_of_ble_eq_true rfl, Nat.le_of_ble_eq_true rfl⟩) (fun r_1 hr_1 => ?_)
  subst hr_1
  refine lv_if_ne (tgt := 9) hx hb dX8_at_4 (by decide) (fun c_2 => ?_) (fun c_2 => ?_)
  · refine lv_iload_n hx hb dX8_at_9 rfl (lv_at hl 2 rfl) ?_
    by_cases c_3 : p1 = 0
    · refine lv_tableIn (tgt := 36) (off := 26) hx hb dX8_at_10 (by rw [c_3]; decide) (by rw [c_3]; decide) (by rw [c_3]; decide) (by decide) ?_
      refine lv_aload_n hx hb dX8_at_36 rfl (lv_at hl 0 rfl) ?_
      refine va_get (D := (dC, dI)) (ci := 8) (v := .ref a4) (C := RX8) (T := TX8) (N := 15) hx hb hts hin8 hown hK hP 0 rfl rfl 3 (by decide) (hts (.fieldLink RX8 30 "YamRiders" "fodderAt" "[I") (by decide +kernel)) (fun _ h9 => h9) rfl dX8_at_37 ?_
      refine lv_iload_n hx hb dX8_at_40 rfl (lv_at hl 1 rfl) ?_
      refine va_iald hx hb hK hP 1 0 rfl rfl (st_in c_2) dX8_at_41 ?_
      refine lv_topi (fun v_4 ev_4 => ?_)
      obtain rfl : v_4 = 0 := ev_4.trans rfl
      exact W.iret (v := 0) hx hb hr (fun t9 ht hW => ⟨_, rfl, (by rw [if_neg c_2, if_pos c_3]), ht⟩) (fun q h => nomatch h) dX8_at_42
    by_cases c_5 : p1 = 1
    · refine lv_tableIn (tgt := 43) (off := 33) hx hb dX8_at_10 (by rw [c_5]; decide) (by rw [c_5]; decide) (by rw [c_5]; decide) (by decide) ?_
      refine lv_aload_n hx hb dX8_at_43 rfl (lv_at hl 0 rfl) ?_
      refine lv_iload_n hx hb dX8_at_44 rfl (lv_at hl 1 rfl) ?_
      have hPc := hP.sub (ws' := [(h0, .inr (8, [.ref a1, .ref a2, .ref a3, .ref a4, .ref a5, .ref a6, .ref a7, .ref a8, .ref a9, .int 0, .int 0, .int 0, .int 0, .int 0, .int 0])), (a5, .inl (k5, 60, .inr (.inr (.inr (.inr (fun _ => none))))))]) [0, 2] rfl
      have hDc := hD.sub (ws' := [(h0, .inr (8, [.ref a1, .ref a2, .ref a3, .ref a4, .ref a5, .ref a6, .ref a7, .ref a8, .ref a9, .int 0, .int 0, .int 0, .int 0, .int 0, .int 0])), (a5, .inl (k5, 60, .inr (.inr (.inr (.inr (fun _ => none))))))]) [0, 2] (by decide) rfl
      have hKc := hK.sub (tys' := [(k5, .object "YamRiders$Horse")]) [1] rfl
      refine cs_i (va_runV (As := [.int p0]) (rest := []) ⟨hx, hb, hml, hown, hts⟩ (c_X8_horsesAt l dC dI h0 a1 a2 a3 a4 a5 a6 a7 a8 a9 k5 p0 s.heap.size) (cwV 1 hts gX8_at_X8_horsesAt rfl rfl rfl (by decide +kernel) ⟨Nat.le_of_ble_eq_true rfl, Nat.le_of_ble_eq_true rfl⟩) ⟨c_blind, va_recv hKc hPc (ci := 8) (q0 := 0) rfl rfl, c_pre hPc hKc hDc hN⟩ rfl rfl hl.1 rfl (lv_room (Nat.le_of_ble_eq_true rfl)) dX8_at_45 ⟨Nat.le_of_ble_eq_true rfl, Nat.le_of_ble_eq_true rfl⟩) (fun r_6 hr_6 => ?_)
      subst hr_6
      exact W.iret (v := 0) hx hb hr (fun t9 ht hW => ⟨_, rfl, (by rw [if_neg c_2, if_neg c_3, if_pos c_5]), ht⟩) (fun q h => nomatch h) dX8_at_48
    by_cases c_7 : p1 = 2
    · refine lv_tableIn (tgt := 49) (off := 39) hx hb dX8_at_10 (by rw [c_7]; decide) (by rw [c_7]; decide) (by rw [c_7]; decide) (by decide) ?_
      refine lv_aload_n hx hb dX8_at_49 rfl (lv_at hl 0 rfl) ?_
      refine lv_iload_n hx hb dX8_at_50 rfl (lv_at hl 1 rfl) ?_
      have hPc := hP.sub (ws' := [(h0, .inr (8, [.ref a1, .ref a2, .ref a3, .ref a4, .ref a5, .ref a6, .ref a7, .ref a8, .ref a9, .int 0, .int 0, .int 0, .int 0, .int 0, .int 0])), (a7, .inl (k7, 60, .inr (.inr (.inr (.inr (fun _ => none))))))]) [0, 3] rfl
      have hDc := hD.sub (ws' := [(h0, .inr (8, [.ref a1, .ref a2, .ref a3, .ref a4, .ref a5, .ref a6, .ref a7, .ref a8, .ref a9, .int 0, .int 0, .int 0, .int 0, .int 0, .int 0])), (a7, .inl (k7, 60, .inr (.inr (.inr (.inr (fun _ => none))))))]) [0, 3] (by decide) rfl
      have hKc := hK.sub (tys' := [(k7, .object "YamRiders$Rider")]) [2] rfl
      refine cs_i (va_runV (As := [.int p0]) (rest := []) ⟨hx, hb, hml, hown, hts⟩ (c_X8_ridersWaitingAt l dC dI h0 a1 a2 a3 a4 a5 a6 a7 a8 a9 k7 p0 s.heap.size) (cwV 1 hts gX8_at_X8_ridersWaitingAt rfl rfl rfl (by decide +kernel) ⟨Nat.le_of_ble_eq_true rfl, Nat.le_of_ble_eq_true rfl⟩) ⟨c_blind, va_recv hKc hPc (ci := 8) (q0 := 0) rfl rfl, c_pre hPc hKc hDc hN⟩ rfl rfl hl.1 rfl (lv_room (Nat.le_of_ble_eq_true rfl)) dX8_at_51 ⟨Nat.le_of_ble_eq_true rfl, Nat.le_of_ble_eq_true rfl⟩) (fun r_8 hr_8 => ?_)
      subst hr_8
      exact W.iret (v := 0) hx hb hr (fun t9 ht hW => ⟨_, rfl, (by rw [if_neg c_2, if_neg c_3, if_neg c_5, if_pos c_7]), ht⟩) (fun q h => nomatch h) dX8_at_54
    refine lv_tableOut (tgt := 55) hx hb dX8_at_10 (sw_out0_2 c_3 c_5 c_7) (by decide) ?_
    refine lv_iconst (v := (-1)) hx hb dX8_at_55 (by decide) ?_
    exact W.iret (v := (-1)) hx hb hr (fun t9 ht hW => ⟨_, rfl, (by rw [if_neg c_2, if_neg c_3, if_neg c_5, if_neg c_7]), ht⟩) (fun q h => nomatch h) dX8_at_56
  · refine lv_iconst (v := (-1)) hx hb dX8_at_7 (by decide) ?_
    exact W.iret (v := (-1)) hx hb hr (fun t9 ht hW => ⟨_, rfl, (by rw [if_pos c_2]), ht⟩) (fun q h => nomatch h) dX8_at_8

set_option maxHeartbeats 4000000 in
set_option maxRecDepth 100000 in
theorem c_X8_count (l : Launch) (dC : Nat → ClassId) (dI : Nat → Nat → Nat) (h0 : Nat) (a1 : Nat) (a2 : Nat) (a3 : Nat) (a4 : Nat) (a5 : Nat) (a6 : Nat) (a7 : Nat) (a8 : Nat) (a9 : Nat) (b1 : Nat) (k7 : ClassId) (p0 : Int32) (sz : Nat) : Met l yX8_count wsX8_count ({ frames := 1, cells := 0, slots := 0, locals := 25 }) (va_Pc [.ref h0, .int p0] (cP dC dI [(h0, .inr (8, [.ref a1, .ref a2, .ref a3, .ref a4, .ref a5, .ref a6, .ref a7, .ref a8, .ref a9, .int 0, .int 0, .int 0, .int 0, .int 0, .int 0])), (a1, .inr (7, [.ref b1, .int 0])), (a7, .inl (k7, 60, .inr (.inr (.inr (.inr (fun _ => none))))))] [(k7, .object "YamRiders$Rider")] sz)) (vp_Si (fun r => r = (if p0 = 0 then 0 else (if p0 = 1 then 0 else (if p0 = 2 then 0 else (if p0 = 3 then 0 else (if p0 = 4 then 0 else (if p0 = 5 then 0 else (-1))))))))) 0 0 (fun _ => False) := by
  refine Met.ofW (cc := cX8_count) (maxL := 2) (ret := (some .int)) (by decide) rfl ?_
  intro p e s m args below meth c s₁ B hml hv
  obtain ⟨rfl, hsz, hP, hK, hD0, hN⟩ := hv
  have hx := B.exec
  have hb := B.bytes
  have hr := B.returns
  have hts := atoms_spec (ws := wsX8_count) B.pre
  have hown : s.vm.findClass RX8 = some m.cls := findClass_of_methodNamed B.named
  have hlocks := B.notSynchronized
  subst hsz
  have hin7 : ∀ w ∈ u_ws RX7 TX7 2, w ∈ wsX8_count := by decide +kernel
  have hin8 : ∀ w ∈ u_ws RX8 TX8 15, w ∈ wsX8_count := by decide +kernel
  have hD := hD0
  have hP : va_P (dC, dI) vwCl [(h0, .inr (8, [.ref a1, .ref a2, .ref a3, .ref a4, .ref a5, .ref a6, .ref a7, .ref a8, .ref a9, .int 0, .int 0, .int 0, .int 0, .int 0, .int 0])), (a1, .inr (7, [.ref b1, .int 0])), (a7, .inl (k7, 60, .inr (.inr (.inr (.inr (fun _ => none))))))] s.heap := hP
  have hl := lv_entry ([.ref h0, .int p0]) (n := 2) (Nat.le_of_ble_eq_true rfl)
  rw [lg_entry_eq]
  generalize (lg_sl ([.ref h0, .int p0]) ++ List.replicate (2 - (lg_sl ([.ref h0, .int p0])).length) Slot.unset).toArray = ls at hl ⊢
  have hl : lv_has ls 2 [(0, .ref h0), (1, .int p0)] := hl
  refine lv_iload_n hx hb dX8_count_0 rfl (lv_at hl 1 rfl) ?_
  by_cases c_1 : p0 = 0
  · refine lv_tableIn (tgt := 40) (off := 39) hx hb dX8_count_1 (by rw [c_1]; decide) (by rw [c_1]; decide) (by rw [c_1]; decide) (by decide) ?_
    refine lv_aload_n hx hb dX8_count_40 rfl (lv_at hl 0 rfl) ?_
    refine va_get (D := (dC, dI)) (ci := 8) (v := .int 0) (C := RX8) (T := TX8) (N := 15) hx hb hts hin8 hown hK hP 0 rfl rfl 14 (by decide) (hts (.fieldLink RX8 140 "YamRiders" "hour" "I") (by decide +kernel)) (fun _ h9 => h9) rfl dX8_count_41 ?_
    exact W.iret (v := 0) hx hb hr (fun t9 ht hW => ⟨_, rfl, (by rw [if_pos c_1]), ht⟩) (fun q h => nomatch h) dX8_count_44
  by_cases c_2 : p0 = 1
  · refine lv_tableIn (tgt := 45) (off := 44) hx hb dX8_count_1 (by rw [c_2]; decide) (by rw [c_2]; decide) (by rw [c_2]; decide) (by decide) ?_
    refine lv_aload_n hx hb dX8_count_45 rfl (lv_at hl 0 rfl) ?_
    refine va_get (D := (dC, dI)) (ci := 8) (v := .int 0) (C := RX8) (T := TX8) (N := 15) hx hb hts hin8 hown hK hP 0 rfl rfl 10 (by decide) (hts (.fieldLink RX8 110 "YamRiders" "horseCount" "I") (by decide +kernel)) (fun _ h9 => h9) rfl dX8_count_46 ?_
    exact W.iret (v := 0) hx hb hr (fun t9 ht hW => ⟨_, rfl, (by rw [if_neg c_1, if_pos c_2]), ht⟩) (fun q h => nomatch h) dX8_count_49
  by_cases c_3 : p0 = 2
  · refine lv_tableIn (tgt := 50) (off := 49) hx hb dX8_count_1 (by rw [c_3]; decide) (by rw [c_3]; decide) (by rw [c_3]; decide) (by decide) ?_
    refine lv_aload_n hx hb dX8_count_50 rfl (lv_at hl 0 rfl) ?_
    refine va_get (D := (dC, dI)) (ci := 8) (v := .int 0) (C := RX8) (T := TX8) (N := 15) hx hb hts hin8 hown hK hP 0 rfl rfl 11 (by decide) (hts (.fieldLink RX8 115 "YamRiders" "tabletCount" "I") (by decide +kernel)) (fun _ h9 => h9) rfl dX8_count_51 ?_
    exact W.iret (v := 0) hx hb hr (fun t9 ht hW => ⟨_, rfl, (by rw [if_neg c_1, if_neg c_2, if_pos c_3]), ht⟩) (fun q h => nomatch h) dX8_count_54
  by_cases c_4 : p0 = 3
  · refine lv_tableIn (tgt := 55) (off := 54) hx hb dX8_count_1 (by rw [c_4]; decide) (by rw [c_4]; decide) (by rw [c_4]; decide) (by decide) ?_
    refine lv_aload_n hx hb dX8_count_55 rfl (lv_at hl 0 rfl) ?_
    refine va_get (D := (dC, dI)) (ci := 8) (v := .int 0) (C := RX8) (T := TX8) (N := 15) hx hb hts hin8 hown hK hP 0 rfl rfl 12 (by decide) (hts (.fieldLink RX8 124 "YamRiders" "riderCount" "I") (by decide +kernel)) (fun _ h9 => h9) rfl dX8_count_56 ?_
    exact W.iret (v := 0) hx hb hr (fun t9 ht hW => ⟨_, rfl, (by rw [if_neg c_1, if_neg c_2, if_neg c_3, if_pos c_4]), ht⟩) (fun q h => nomatch h) dX8_count_59
  by_cases c_5 : p0 = 4
  · refine lv_tableIn (tgt := 60) (off := 59) hx hb dX8_count_1 (by rw [c_5]; decide) (by rw [c_5]; decide) (by rw [c_5]; decide) (by decide) ?_
    refine lv_aload_n hx hb dX8_count_60 rfl (lv_at hl 0 rfl) ?_
    have hPc := hP.sub (ws' := [(h0, .inr (8, [.ref a1, .ref a2, .ref a3, .ref a4, .ref a5, .ref a6, .ref a7, .ref a8, .ref a9, .int 0, .int 0, .int 0, .int 0, .int 0, .int 0])), (a7, .inl (k7, 60, .inr (.inr (.inr (.inr (fun _ => none))))))]) [0, 2] rfl
    have hDc := hD.sub (ws' := [(h0, .inr (8, [.ref a1, .ref a2, .ref a3, .ref a4, .ref a5, .ref a6, .ref a7, .ref a8, .ref a9, .int 0, .int 0, .int 0, .int 0, .int 0, .int 0])), (a7, .inl (k7, 60, .inr (.inr (.inr (.inr (fun _ => none))))))]) [0, 2] (by decide) rfl
    have hKc := hK.sub (tys' := [(k7, .object "YamRiders$Rider")]) [0] rfl
    refine cs_i (va_runV (As := []) (rest := []) ⟨hx, hb, hml, hown, hts⟩ (c_X8_ridersUnderWay l dC dI h0 a1 a2 a3 a4 a5 a6 a7 a8 a9 k7 s.heap.size) (cwV 0 hts gX8_count_X8_ridersUnderWay rfl rfl rfl (by decide +kernel) ⟨Nat.le_of_ble_eq_true rfl, Nat.le_of_ble_eq_true rfl⟩) ⟨c_blind, va_recv hKc hPc (ci := 8) (q0 := 0) rfl rfl, c_pre hPc hKc hDc hN⟩ rfl rfl hl.1 rfl (lv_room (Nat.le_of_ble_eq_true rfl)) dX8_count_61 ⟨Nat.le_of_ble_eq_true rfl, Nat.le_of_ble_eq_true rfl⟩) (fun r_6 hr_6 => ?_)
    subst hr_6
    exact W.iret (v := 0) hx hb hr (fun t9 ht hW => ⟨_, rfl, (by rw [if_neg c_1, if_neg c_2, if_neg c_3, if_neg c_4, if_pos c_5]), ht⟩) (fun q h => nomatch h) dX8_count_64
  by_cases c_7 : p0 = 5
  · refine lv_tableIn (tgt := 65) (off := 64) hx hb dX8_count_1 (by rw [c_7]; decide) (by rw [c_7]; decide) (by rw [c_7]; decide) (by decide) ?_
    refine lv_aload_n hx hb dX8_count_65 rfl (lv_at hl 0 rfl) ?_
    refine va_get (D := (dC, dI)) (ci := 8) (v := .ref a1) (C := RX8) (T := TX8) (N := 15) hx hb hts hin8 hown hK hP 0 rfl rfl 0 (by decide) (hts (.fieldLink RX8 10 "YamRiders" "tape" "LYamRiders$Tape;") (by decide +kernel)) (fun _ h9 => h9) rfl dX8_count_66 ?_
    refine va_getN (D := (dC, dI)) (ci := 7) (v := .int 0) (C := RX7) (T := TX7) (N := 2) hx hb hts hin7 hown hK hP 1 rfl rfl 1 (by decide) (hN.nx (.fieldLinkNest RX8 70 "YamRiders$Tape" "length" "I" "YamRiders") (by decide +kernel)) (fun _ h9 => h9) rfl dX8_count_69 ?_
    exact W.iret (v := 0) hx hb hr (fun t9 ht hW => ⟨_, rfl, (by rw [if_neg c_1, if_neg c_2, if_neg c_3, if_neg c_4, if_neg c_5, if_pos c_7]), ht⟩) (fun q h => nomatch h) dX8_count_72
  refine lv_tableOut (tgt := 73) hx hb dX8_count_1 (sw_out0_5 c_1 c_2 c_3 c_4 c_5 c_7) (by decide) ?_
  refine lv_iconst (v := (-1)) hx hb dX8_count_73 (by decide) ?_
  exact W.iret (v := (-1)) hx hb hr (fun t9 ht hW => ⟨_, rfl, (by rw [if_neg c_1, if_neg c_2, if_neg c_3, if_neg c_4, if_neg c_5, if_neg c_7]), ht⟩) (fun q h => nomatch h) dX8_count_74

theorem b_in {x y : Int32} {n : Nat} (h0 : ¬ x < 0) (h1 : ¬ y ≤ x) (hn : n < 2 ^ 31 ∧ y = nI n) : vp_in x n := by
  obtain ⟨hn, rfl⟩ := hn
  obtain ⟨j, hj, rfl⟩ := nI_of h0
  refine vp_in_nI ?_ hn
  rcases Nat.lt_or_ge j n with q | q
  · exact q
  · exact absurd (nI_le q hj) h1

set_option maxHeartbeats 4000000 in
set_option maxRecDepth 100000 in
theorem c_X8_horseOf (l : Launch) (dC : Nat → ClassId) (dI : Nat → Nat → Nat) (h0 : Nat) (a1 : Nat) (a2 : Nat) (a3 : Nat) (a4 : Nat) (a5 : Nat) (a6 : Nat) (a7 : Nat) (a8 : Nat) (a9 : Nat) (k5 : ClassId) (p0 : Int32) (sz : Nat) : Met l yX8_horseOf wsX8_horseOf ({ frames := 0, cells := 0, slots := 0, locals := 0 }) (va_Pc [.ref h0, .int p0] (cP dC dI [(h0, .inr (8, [.ref a1, .ref a2, .ref a3, .ref a4, .ref a5, .ref a6, .ref a7, .ref a8, .ref a9, .int 0, .int 0, .int 0, .int 0, .int 0, .int 0])), (a5, .inl (k5, 60, .inr (.inr (.inr (.inr (fun _ => none))))))] [(k5, .object "YamRiders$Horse")] sz)) (va_Sq (fun r => r = none)) 0 0 (fun _ => False) := by
  refine Met.ofW (cc := cX8_horseOf) (maxL := 2) (ret := (some (.object "YamRiders$Horse"))) (by decide) rfl ?_
  intro p e s m args below meth c s₁ B hml hv
  obtain ⟨rfl, hsz, hP, hK, hD0, hN⟩ := hv
  have hx := B.exec
  have hb := B.bytes
  have hr := B.returns
  have hts := atoms_spec (ws := wsX8_horseOf) B.pre
  have hown : s.vm.findClass RX8 = some m.cls := findClass_of_methodNamed B.named
  have hlocks := B.notSynchronized
  subst hsz
  have hin8 : ∀ w ∈ u_ws RX8 TX8 15, w ∈ wsX8_horseOf := by decide +kernel
  have hD := hD0
  have hP : va_P (dC, dI) vwCl [(h0, .inr (8, [.ref a1, .ref a2, .ref a3, .ref a4, .ref a5, .ref a6, .ref a7, .ref a8, .ref a9, .int 0, .int 0, .int 0, .int 0, .int 0, .int 0])), (a5, .inl (k5, 60, .inr (.inr (.inr (.inr (fun _ => none))))))] s.heap := hP
  have hl := lv_entry ([.ref h0, .int p0]) (n := 2) (Nat.le_of_ble_eq_true rfl)
  rw [lg_entry_eq]
  generalize (lg_sl ([.ref h0, .int p0]) ++ List.replicate (2 - (lg_sl ([.ref h0, .int p0])).length) Slot.unset).toArray = ls at hl ⊢
  have hl : lv_has ls 2 [(0, .ref h0), (1, .int p0)] := hl
  refine lv_iload_n hx hb dX8_horseOf_0 rfl (lv_at hl 1 rfl) ?_
  refine lv_if_lt (tgt := 19) hx hb dX8_horseOf_1 (by decide) (fun c_1 => ?_) (fun c_1 => ?_)
  · refine lv_null hx hb dX8_horseOf_19 ?_
    exact W.aret (v := .null) hx hb hr (by first | exact Or.inl ⟨_, rfl⟩ | exact Or.inr ⟨_, rfl⟩) (Or.inl rfl) (fun t9 ht hW => ⟨none, rfl, rfl, ht⟩) (fun q h => nomatch h) dX8_horseOf_20
  · refine lv_iload_n hx hb dX8_horseOf_4 rfl (lv_at hl 1 rfl) ?_
    refine lv_bipush (v := 60) hx hb dX8_horseOf_5 (by decide) ?_
    refine lv_icmp_ge (tgt := 19) hx hb dX8_horseOf_7 (by decide) (fun c_2 => ?_) (fun c_2 => ?_)
    · refine lv_null hx hb dX8_horseOf_19 ?_
      exact W.aret (v := .null) hx hb hr (by first | exact Or.inl ⟨_, rfl⟩ | exact Or.inr ⟨_, rfl⟩) (Or.inl rfl) (fun t9 ht hW => ⟨none, rfl, rfl, ht⟩) (fun q h => nomatch h) dX8_horseOf_20
    · refine lv_aload_n hx hb dX8_horseOf_10 rfl (lv_at hl 0 rfl) ?_
      refine va_get (D := (dC, dI)) (ci := 8) (v := .ref a5) (C := RX8) (T := TX8) (N := 15) hx hb hts hin8 hown hK hP 0 rfl rfl 4 (by decide) (hts (.fieldLink RX8 36 "YamRiders" "horses" "[LYamRiders$Horse;") (by decide +kernel)) (fun _ h9 => h9) rfl dX8_horseOf_11 ?_
      refine lv_iload_n hx hb dX8_horseOf_14 rfl (lv_at hl 1 rfl) ?_
      refine va_aldq hx hb hK hP 1 0 rfl rfl (b_in c_1 c_2 (by decide)) dX8_horseOf_15 ?_
      refine W.eq (g2 := F0 m 16 ls [.null]) rfl ?_
      refine lv_goto (tgt := 20) hx hb dX8_horseOf_16 (by decide) ?_
      exact W.aret (v := .null) hx hb hr (by first | exact Or.inl ⟨_, rfl⟩ | exact Or.inr ⟨_, rfl⟩) (Or.inl rfl) (fun t9 ht hW => ⟨none, rfl, rfl, ht⟩) (fun q h => nomatch h) dX8_horseOf_20

set_option maxHeartbeats 4000000 in
set_option maxRecDepth 100000 in
theorem c_X8_tabletOf (l : Launch) (dC : Nat → ClassId) (dI : Nat → Nat → Nat) (h0 : Nat) (a1 : Nat) (a2 : Nat) (a3 : Nat) (a4 : Nat) (a5 : Nat) (a6 : Nat) (a7 : Nat) (a8 : Nat) (a9 : Nat) (k6 : ClassId) (p0 : Int32) (sz : Nat) : Met l yX8_tabletOf wsX8_tabletOf ({ frames := 0, cells := 0, slots := 0, locals := 0 }) (va_Pc [.ref h0, .int p0] (cP dC dI [(h0, .inr (8, [.ref a1, .ref a2, .ref a3, .ref a4, .ref a5, .ref a6, .ref a7, .ref a8, .ref a9, .int 0, .int 0, .int 0, .int 0, .int 0, .int 0])), (a6, .inl (k6, 20, .inr (.inr (.inr (.inr (fun _ => none))))))] [(k6, .object "YamRiders$Tablet")] sz)) (va_Sq (fun r => r = none)) 0 0 (fun _ => False) := by
  refine Met.ofW (cc := cX8_tabletOf) (maxL := 2) (ret := (some (.object "YamRiders$Tablet"))) (by decide) rfl ?_
  intro p e s m args below meth c s₁ B hml hv
  obtain ⟨rfl, hsz, hP, hK, hD0, hN⟩ := hv
  have hx := B.exec
  have hb := B.bytes
  have hr := B.returns
  have hts := atoms_spec (ws := wsX8_tabletOf) B.pre
  have hown : s.vm.findClass RX8 = some m.cls := findClass_of_methodNamed B.named
  have hlocks := B.notSynchronized
  subst hsz
  have hin8 : ∀ w ∈ u_ws RX8 TX8 15, w ∈ wsX8_tabletOf := by decide +kernel
  have hD := hD0
  have hP : va_P (dC, dI) vwCl [(h0, .inr (8, [.ref a1, .ref a2, .ref a3, .ref a4, .ref a5, .ref a6, .ref a7, .ref a8, .ref a9, .int 0, .int 0, .int 0, .int 0, .int 0, .int 0])), (a6, .inl (k6, 20, .inr (.inr (.inr (.inr (fun _ => none))))))] s.heap := hP
  have hl := lv_entry ([.ref h0, .int p0]) (n := 2) (Nat.le_of_ble_eq_true rfl)
  rw [lg_entry_eq]
  generalize (lg_sl ([.ref h0, .int p0]) ++ List.replicate (2 - (lg_sl ([.ref h0, .int p0])).length) Slot.unset).toArray = ls at hl ⊢
  have hl : lv_has ls 2 [(0, .ref h0), (1, .int p0)] := hl
  refine lv_iload_n hx hb dX8_tabletOf_0 rfl (lv_at hl 1 rfl) ?_
  refine lv_if_lt (tgt := 19) hx hb dX8_tabletOf_1 (by decide) (fun c_1 => ?_) (fun c_1 => ?_)
  · refine lv_null hx hb dX8_tabletOf_19 ?_
    exact W.aret (v := .null) hx hb hr (by first | exact Or.inl ⟨_, rfl⟩ | exact Or.inr ⟨_, rfl⟩) (Or.inl rfl) (fun t9 ht hW => ⟨none, rfl, rfl, ht⟩) (fun q h => nomatch h) dX8_tabletOf_20
  · refine lv_iload_n hx hb dX8_tabletOf_4 rfl (lv_at hl 1 rfl) ?_
    refine lv_bipush (v := 20) hx hb dX8_tabletOf_5 (by decide) ?_
    refine lv_icmp_ge (tgt := 19) hx hb dX8_tabletOf_7 (by decide) (fun c_2 => ?_) (fun c_2 => ?_)
    · refine lv_null hx hb dX8_tabletOf_19 ?_
      exact W.aret (v := .null) hx hb hr (by first | exact Or.inl ⟨_, rfl⟩ | exact Or.inr ⟨_, rfl⟩) (Or.inl rfl) (fun t9 ht hW => ⟨none, rfl, rfl, ht⟩) (fun q h => nomatch h) dX8_tabletOf_20
    · refine lv_aload_n hx hb dX8_tabletOf_10 rfl (lv_at hl 0 rfl) ?_
      refine va_get (D := (dC, dI)) (ci := 8) (v := .ref a6) (C := RX8) (T := TX8) (N := 15) hx hb hts hin8 hown hK hP 0 rfl rfl 5 (by decide) (hts (.fieldLink RX8 42 "YamRiders" "tablets" "[LYamRiders$Tablet;") (by decide +kernel)) (fun _ h9 => h9) rfl dX8_tabletOf_11 ?_
      refine lv_iload_n hx hb dX8_tabletOf_14 rfl (lv_at hl 1 rfl) ?_
      refine va_aldq hx hb hK hP 1 0 rfl rfl (b_in c_1 c_2 (by decide)) dX8_tabletOf_15 ?_
      refine W.eq (g2 := F0 m 16 ls [.null]) rfl ?_
      refine lv_goto (tgt := 20) hx hb dX8_tabletOf_16 (by decide) ?_
      exact W.aret (v := .null) hx hb hr (by first | exact Or.inl ⟨_, rfl⟩ | exact Or.inr ⟨_, rfl⟩) (Or.inl rfl) (fun t9 ht hW => ⟨none, rfl, rfl, ht⟩) (fun q h => nomatch h) dX8_tabletOf_20

set_option maxHeartbeats 4000000 in
set_option maxRecDepth 100000 in
theorem c_X8_riderOf (l : Launch) (dC : Nat → ClassId) (dI : Nat → Nat → Nat) (h0 : Nat) (a1 : Nat) (a2 : Nat) (a3 : Nat) (a4 : Nat) (a5 : Nat) (a6 : Nat) (a7 : Nat) (a8 : Nat) (a9 : Nat) (k7 : ClassId) (p0 : Int32) (sz : Nat) : Met l yX8_riderOf wsX8_riderOf ({ frames := 0, cells := 0, slots := 0, locals := 0 }) (va_Pc [.ref h0, .int p0] (cP dC dI [(h0, .inr (8, [.ref a1, .ref a2, .ref a3, .ref a4, .ref a5, .ref a6, .ref a7, .ref a8, .ref a9, .int 0, .int 0, .int 0, .int 0, .int 0, .int 0])), (a7, .inl (k7, 60, .inr (.inr (.inr (.inr (fun _ => none))))))] [(k7, .object "YamRiders$Rider")] sz)) (va_Sq (fun r => r = none)) 0 0 (fun _ => False) := by
  refine Met.ofW (cc := cX8_riderOf) (maxL := 2) (ret := (some (.object "YamRiders$Rider"))) (by decide) rfl ?_
  intro p e s m args below meth c s₁ B hml hv
  obtain ⟨rfl, hsz, hP, hK, hD0, hN⟩ := hv
  have hx := B.exec
  have hb := B.bytes
  have hr := B.returns
  have hts := atoms_spec (ws := wsX8_riderOf) B.pre
  have hown : s.vm.findClass RX8 = some m.cls := findClass_of_methodNamed B.named
  have hlocks := B.notSynchronized
  subst hsz
  have hin8 : ∀ w ∈ u_ws RX8 TX8 15, w ∈ wsX8_riderOf := by decide +kernel
  have hD := hD0
  have hP : va_P (dC, dI) vwCl [(h0, .inr (8, [.ref a1, .ref a2, .ref a3, .ref a4, .ref a5, .ref a6, .ref a7, .ref a8, .ref a9, .int 0, .int 0, .int 0, .int 0, .int 0, .int 0])), (a7, .inl (k7, 60, .inr (.inr (.inr (.inr (fun _ => none))))))] s.heap := hP
  have hl := lv_entry ([.ref h0, .int p0]) (n := 2) (Nat.le_of_ble_eq_true rfl)
  rw [lg_entry_eq]
  generalize (lg_sl ([.ref h0, .int p0]) ++ List.replicate (2 - (lg_sl ([.ref h0, .int p0])).length) Slot.unset).toArray = ls at hl ⊢
  have hl : lv_has ls 2 [(0, .ref h0), (1, .int p0)] := hl
  refine lv_iload_n hx hb dX8_riderOf_0 rfl (lv_at hl 1 rfl) ?_
  refine lv_if_lt (tgt := 19) hx hb dX8_riderOf_1 (by decide) (fun c_1 => ?_) (fun c_1 => ?_)
  · refine lv_null hx hb dX8_riderOf_19 ?_
    exact W.aret (v := .null) hx hb hr (by first | exact Or.inl ⟨_, rfl⟩ | exact Or.inr ⟨_, rfl⟩) (Or.inl rfl) (fun t9 ht hW => ⟨none, rfl, rfl, ht⟩) (fun q h => nomatch h) dX8_riderOf_20
  · refine lv_iload_n hx hb dX8_riderOf_4 rfl (lv_at hl 1 rfl) ?_
    refine lv_bipush (v := 60) hx hb dX8_riderOf_5 (by decide) ?_
    refine lv_icmp_ge (tgt := 19) hx hb dX8_riderOf_7 (by decide) (fun c_2 => ?_) (fun c_2 => ?_)
    · refine lv_null hx hb dX8_riderOf_19 ?_
      exact W.aret (v := .null) hx hb hr (by first | exact Or.inl ⟨_, rfl⟩ | exact Or.inr ⟨_, rfl⟩) (Or.inl rfl) (fun t9 ht hW => ⟨none, rfl, rfl, ht⟩) (fun q h => nomatch h) dX8_riderOf_20
    · refine lv_aload_n hx hb dX8_riderOf_10 rfl (lv_at hl 0 rfl) ?_
      refine va_get (D := (dC, dI)) (ci := 8) (v := .ref a7) (C := RX8) (T := TX8) (N := 15) hx hb hts hin8 hown hK hP 0 rfl rfl 6 (by decide) (hts (.fieldLink RX8 48 "YamRiders" "riders" "[LYamRiders$Rider;") (by decide +kernel)) (fun _ h9 => h9) rfl dX8_riderOf_11 ?_
      refine lv_iload_n hx hb dX8_riderOf_14 rfl (lv_at hl 1 rfl) ?_
      refine va_aldq hx hb hK hP 1 0 rfl rfl (b_in c_1 c_2 (by decide)) dX8_riderOf_15 ?_
      refine W.eq (g2 := F0 m 16 ls [.null]) rfl ?_
      refine lv_goto (tgt := 20) hx hb dX8_riderOf_16 (by decide) ?_
      exact W.aret (v := .null) hx hb hr (by first | exact Or.inl ⟨_, rfl⟩ | exact Or.inr ⟨_, rfl⟩) (Or.inl rfl) (fun t9 ht hW => ⟨none, rfl, rfl, ht⟩) (fun q h => nomatch h) dX8_riderOf_20

set_option maxHeartbeats 4000000 in
set_option maxRecDepth 100000 in
theorem c_X8_ride (l : Launch) (dC : Nat → ClassId) (dI : Nat → Nat → Nat) (h0 : Nat) (a1 : Nat) (a2 : Nat) (a3 : Nat) (a4 : Nat) (a5 : Nat) (a6 : Nat) (a7 : Nat) (a8 : Nat) (a9 : Nat) (k6 : ClassId) (p0 : Int32) (p1 : Int32) (p2 : Int32) (sz : Nat) : Met l yX8_ride wsX8_ride ({ frames := 1, cells := 0, slots := 0, locals := 21 }) (va_Pc [.ref h0, .int p0, .int p1, .int p2] (cP dC dI [(h0, .inr (8, [.ref a1, .ref a2, .ref a3, .ref a4, .ref a5, .ref a6, .ref a7, .ref a8, .ref a9, .int 0, .int 0, .int 0, .int 0, .int 0, .int 0])), (a6, .inl (k6, 20, .inr (.inr (.inr (.inr (fun _ => none))))))] [(k6, .object "YamRiders$Tablet")] sz)) (vp_Si (fun r => r = (-1))) 0 0 (fun _ => False) := by
  refine Met.ofW (cc := cX8_ride) (maxL := 7) (ret := (some .int)) (by decide) rfl ?_
  intro p e s m args below meth c s₁ B hml hv
  obtain ⟨rfl, hsz, hP, hK, hD0, hN⟩ := hv
  have hx := B.exec
  have hb := B.bytes
  have hr := B.returns
  have hts := atoms_spec (ws := wsX8_ride) B.pre
  have hown : s.vm.findClass RX8 = some m.cls := findClass_of_methodNamed B.named
  have hlocks := B.notSynchronized
  subst hsz
  have hin8 : ∀ w ∈ u_ws RX8 TX8 15, w ∈ wsX8_ride := by decide +kernel
  have hD := hD0
  have hP : va_P (dC, dI) vwCl [(h0, .inr (8, [.ref a1, .ref a2, .ref a3, .ref a4, .ref a5, .ref a6, .ref a7, .ref a8, .ref a9, .int 0, .int 0, .int 0, .int 0, .int 0, .int 0])), (a6, .inl (k6, 20, .inr (.inr (.inr (.inr (fun _ => none))))))] s.heap := hP
  have hl := lv_entry ([.ref h0, .int p0, .int p1, .int p2]) (n := 7) (Nat.le_of_ble_eq_true rfl)
  rw [lg_entry_eq]
  generalize (lg_sl ([.ref h0, .int p0, .int p1, .int p2]) ++ List.replicate (7 - (lg_sl ([.ref h0, .int p0, .int p1, .int p2])).length) Slot.unset).toArray = ls at hl ⊢
  have hl : lv_has ls 7 [(0, .ref h0), (1, .int p0), (2, .int p1), (3, .int p2)] := hl
  refine lv_aload_n hx hb dX8_ride_0 rfl (lv_at hl 0 rfl) ?_
  refine lv_iload_n hx hb dX8_ride_1 rfl (lv_at hl 1 rfl) ?_
  have hPc := hP.sub (ws' := [(h0, .inr (8, [.ref a1, .ref a2, .ref a3, .ref a4, .ref a5, .ref a6, .ref a7, .ref a8, .ref a9, .int 0, .int 0, .int 0, .int 0, .int 0, .int 0])), (a6, .inl (k6, 20, .inr (.inr (.inr (.inr (fun _ => none))))))]) [0, 1] rfl
  have hDc := hD.sub (ws' := [(h0, .inr (8, [.ref a1, .ref a2, .ref a3, .ref a4, .ref a5, .ref a6, .ref a7, .ref a8, .ref a9, .int 0, .int 0, .int 0, .int 0, .int 0, .int 0])), (a6, .inl (k6, 20, .inr (.inr (.inr (.inr (fun _ => none))))))]) [0, 1] (by decide) rfl
  have hKc := hK.sub (tys' := [(k6, .object "YamRiders$Tablet")]) [0] rfl
  refine cs_n (va_runV (As := [.int p0]) (rest := []) ⟨hx, hb, hml, hown, hts⟩ (c_X8_tabletOf l dC dI h0 a1 a2 a3 a4 a5 a6 a7 a8 a9 k6 p0 s.heap.size) (cwV 1 hts gX8_ride_X8_tabletOf rfl rfl rfl (by decide +kernel) ⟨Nat.le_of_ble_eq_true rfl, Nat.le_of_ble_eq_true rfl⟩) ⟨c_blind, va_recv hKc hPc (ci := 8) (q0 := 0) rfl rfl, c_pre hPc hKc hDc hN⟩ rfl rfl hl.1 rfl (lv_room (Nat.le_of_ble_eq_true rfl)) dX8_ride_2 ⟨Nat.le_of_ble_eq_true rfl, Nat.le_of_ble_eq_true rfl⟩) (fun _ h => h) ?_
  refine lv_astoreN (lv' := [(4, .null), (0, .ref h0), (1, .int p0), (2, .int p1), (3, .int p2)]) hx hb dX8_ride_5 hl (by decide) rfl (fun ls hl => ?_)
  refine lv_aload_n hx hb dX8_ride_7 rfl (lv_at hl 1 rfl) ?_
  refine va_get (D := (dC, dI)) (ci := 8) (v := .int 0) (C := RX8) (T := TX8) (N := 15) hx hb hts hin8 hown hK hP 0 rfl rfl 12 (by decide) (hts (.fieldLink RX8 124 "YamRiders" "riderCount" "I") (by decide +kernel)) (fun _ h9 => h9) rfl dX8_ride_8 ?_
  refine lv_bipush (v := 60) hx hb dX8_ride_11 (by decide) ?_
  refine lv_icmp_ge (tgt := 29) hx hb dX8_ride_13 (by decide) (fun c_1 => by first | exact absurd c_1 (by decide) | exact absurd (by decide) c_1) (fun _ => ?_)
  refine lv_aloadN hx hb dX8_ride_16 (lv_at hl 0 rfl) ?_
  refine lv_ifnullN (tgt := 29) hx hb dX8_ride_18 (by decide) ?_
  refine lv_iconst (v := (-1)) hx hb dX8_ride_29 (by decide) ?_
  exact W.iret (v := (-1)) hx hb hr (fun t9 ht hW => ⟨_, rfl, rfl, ht⟩) (fun q h => nomatch h) dX8_ride_30

set_option maxHeartbeats 4000000 in
set_option maxRecDepth 100000 in
theorem c_X8_cancel (l : Launch) (dC : Nat → ClassId) (dI : Nat → Nat → Nat) (h0 : Nat) (a1 : Nat) (a2 : Nat) (a3 : Nat) (a4 : Nat) (a5 : Nat) (a6 : Nat) (a7 : Nat) (a8 : Nat) (a9 : Nat) (k6 : ClassId) (p0 : Int32) (p1 : Int32) (sz : Nat) : Met l yX8_cancel wsX8_cancel ({ frames := 1, cells := 0, slots := 0, locals := 21 }) (va_Pc [.ref h0, .int p0, .int p1] (cP dC dI [(h0, .inr (8, [.ref a1, .ref a2, .ref a3, .ref a4, .ref a5, .ref a6, .ref a7, .ref a8, .ref a9, .int 0, .int 0, .int 0, .int 0, .int 0, .int 0])), (a6, .inl (k6, 20, .inr (.inr (.inr (.inr (fun _ => none))))))] [(k6, .object "YamRiders$Tablet")] sz)) (vp_Si (fun r => r = 0)) 0 0 (fun _ => False) := by
  refine Met.ofW (cc := cX8_cancel) (maxL := 4) (ret := (some .boolean)) (by decide) rfl ?_
  intro p e s m args below meth c s₁ B hml hv
  obtain ⟨rfl, hsz, hP, hK, hD0, hN⟩ := hv
  have hx := B.exec
  have hb := B.bytes
  have hr := B.returns
  have hts := atoms_spec (ws := wsX8_cancel) B.pre
  have hown : s.vm.findClass RX8 = some m.cls := findClass_of_methodNamed B.named
  have hlocks := B.notSynchronized
  subst hsz
  have hD := hD0
  have hP : va_P (dC, dI) vwCl [(h0, .inr (8, [.ref a1, .ref a2, .ref a3, .ref a4, .ref a5, .ref a6, .ref a7, .ref a8, .ref a9, .int 0, .int 0, .int 0, .int 0, .int 0, .int 0])), (a6, .inl (k6, 20, .inr (.inr (.inr (.inr (fun _ => none))))))] s.heap := hP
  have hl := lv_entry ([.ref h0, .int p0, .int p1]) (n := 4) (Nat.le_of_ble_eq_true rfl)
  rw [lg_entry_eq]
  generalize (lg_sl ([.ref h0, .int p0, .int p1]) ++ List.replicate (4 - (lg_sl ([.ref h0, .int p0, .int p1])).length) Slot.unset).toArray = ls at hl ⊢
  have hl : lv_has ls 4 [(0, .ref h0), (1, .int p0), (2, .int p1)] := hl
  refine lv_aload_n hx hb dX8_cancel_0 rfl (lv_at hl 0 rfl) ?_
  refine lv_iload_n hx hb dX8_cancel_1 rfl (lv_at hl 1 rfl) ?_
  have hPc := hP.sub (ws' := [(h0, .inr (8, [.ref a1, .ref a2, .ref a3, .ref a4, .ref a5, .ref a6, .ref a7, .ref a8, .ref a9, .int 0, .int 0, .int 0, .int 0, .int 0, .int 0])), (a6, .inl (k6, 20, .inr (.inr (.inr (.inr (fun _ => none))))))]) [0, 1] rfl
  have hDc := hD.sub (ws' := [(h0, .inr (8, [.ref a1, .ref a2, .ref a3, .ref a4, .ref a5, .ref a6, .ref a7, .ref a8, .ref a9, .int 0, .int 0, .int 0, .int 0, .int 0, .int 0])), (a6, .inl (k6, 20, .inr (.inr (.inr (.inr (fun _ => none))))))]) [0, 1] (by decide) rfl
  have hKc := hK.sub (tys' := [(k6, .object "YamRiders$Tablet")]) [0] rfl
  refine cs_n (va_runV (As := [.int p0]) (rest := []) ⟨hx, hb, hml, hown, hts⟩ (c_X8_tabletOf l dC dI h0 a1 a2 a3 a4 a5 a6 a7 a8 a9 k6 p0 s.heap.size) (cwV 1 hts gX8_cancel_X8_tabletOf rfl rfl rfl (by decide +kernel) ⟨Nat.le_of_ble_eq_true rfl, Nat.le_of_ble_eq_true rfl⟩) ⟨c_blind, va_recv hKc hPc (ci := 8) (q0 := 0) rfl rfl, c_pre hPc hKc hDc hN⟩ rfl rfl hl.1 rfl (lv_room (Nat.le_of_ble_eq_true rfl)) dX8_cancel_2 ⟨Nat.le_of_ble_eq_true rfl, Nat.le_of_ble_eq_true rfl⟩) (fun _ h => h) ?_
  refine lv_astore_nN (lv' := [(3, .null), (0, .ref h0), (1, .int p0), (2, .int p1)]) hx hb dX8_cancel_5 rfl hl (by decide) rfl (fun ls hl => ?_)
  refine lv_aload_nN hx hb dX8_cancel_6 rfl (lv_at hl 0 rfl) ?_
  refine lv_ifnullN (tgt := 26) hx hb dX8_cancel_7 (by decide) ?_
  refine lv_iconst (v := 0) hx hb dX8_cancel_26 (by decide) ?_
  exact W.zret (v := 0) hx hb hr rfl (fun t9 ht hW => ⟨_, rfl, rfl, ht⟩) (fun q h => nomatch h) dX8_cancel_27

set_option maxHeartbeats 4000000 in
set_option maxRecDepth 100000 in
theorem c_X8_kill (l : Launch) (dC : Nat → ClassId) (dI : Nat → Nat → Nat) (h0 : Nat) (a1 : Nat) (a2 : Nat) (a3 : Nat) (a4 : Nat) (a5 : Nat) (a6 : Nat) (a7 : Nat) (a8 : Nat) (a9 : Nat) (k7 : ClassId) (p0 : Int32) (sz : Nat) : Met l yX8_kill wsX8_kill ({ frames := 1, cells := 0, slots := 0, locals := 21 }) (va_Pc [.ref h0, .int p0] (cP dC dI [(h0, .inr (8, [.ref a1, .ref a2, .ref a3, .ref a4, .ref a5, .ref a6, .ref a7, .ref a8, .ref a9, .int 0, .int 0, .int 0, .int 0, .int 0, .int 0])), (a7, .inl (k7, 60, .inr (.inr (.inr (.inr (fun _ => none))))))] [(k7, .object "YamRiders$Rider")] sz)) (vp_Si (fun r => r = 0)) 0 0 (fun _ => False) := by
  refine Met.ofW (cc := cX8_kill) (maxL := 3) (ret := (some .boolean)) (by decide) rfl ?_
  intro p e s m args below meth c s₁ B hml hv
  obtain ⟨rfl, hsz, hP, hK, hD0, hN⟩ := hv
  have hx := B.exec
  have hb := B.bytes
  have hr := B.returns
  have hts := atoms_spec (ws := wsX8_kill) B.pre
  have hown : s.vm.findClass RX8 = some m.cls := findClass_of_methodNamed B.named
  have hlocks := B.notSynchronized
  subst hsz
  have hD := hD0
  have hP : va_P (dC, dI) vwCl [(h0, .inr (8, [.ref a1, .ref a2, .ref a3, .ref a4, .ref a5, .ref a6, .ref a7, .ref a8, .ref a9, .int 0, .int 0, .int 0, .int 0, .int 0, .int 0])), (a7, .inl (k7, 60, .inr (.inr (.inr (.inr (fun _ => none))))))] s.heap := hP
  have hl := lv_entry ([.ref h0, .int p0]) (n := 3) (Nat.le_of_ble_eq_true rfl)
  rw [lg_entry_eq]
  generalize (lg_sl ([.ref h0, .int p0]) ++ List.replicate (3 - (lg_sl ([.ref h0, .int p0])).length) Slot.unset).toArray = ls at hl ⊢
  have hl : lv_has ls 3 [(0, .ref h0), (1, .int p0)] := hl
  refine lv_aload_n hx hb dX8_kill_0 rfl (lv_at hl 0 rfl) ?_
  refine lv_iload_n hx hb dX8_kill_1 rfl (lv_at hl 1 rfl) ?_
  have hPc := hP.sub (ws' := [(h0, .inr (8, [.ref a1, .ref a2, .ref a3, .ref a4, .ref a5, .ref a6, .ref a7, .ref a8, .ref a9, .int 0, .int 0, .int 0, .int 0, .int 0, .int 0])), (a7, .inl (k7, 60, .inr (.inr (.inr (.inr (fun _ => none))))))]) [0, 1] rfl
  have hDc := hD.sub (ws' := [(h0, .inr (8, [.ref a1, .ref a2, .ref a3, .ref a4, .ref a5, .ref a6, .ref a7, .ref a8, .ref a9, .int 0, .int 0, .int 0, .int 0, .int 0, .int 0])), (a7, .inl (k7, 60, .inr (.inr (.inr (.inr (fun _ => none))))))]) [0, 1] (by decide) rfl
  have hKc := hK.sub (tys' := [(k7, .object "YamRiders$Rider")]) [0] rfl
  refine cs_n (va_runV (As := [.int p0]) (rest := []) ⟨hx, hb, hml, hown, hts⟩ (c_X8_riderOf l dC dI h0 a1 a2 a3 a4 a5 a6 a7 a8 a9 k7 p0 s.heap.size) (cwV 1 hts gX8_kill_X8_riderOf rfl rfl rfl (by decide +kernel) ⟨Nat.le_of_ble_eq_true rfl, Nat.le_of_ble_eq_true rfl⟩) ⟨c_blind, va_recv hKc hPc (ci := 8) (q0 := 0) rfl rfl, c_pre hPc hKc hDc hN⟩ rfl rfl hl.1 rfl (lv_room (Nat.le_of_ble_eq_true rfl)) dX8_kill_2 ⟨Nat.le_of_ble_eq_true rfl, Nat.le_of_ble_eq_true rfl⟩) (fun _ h => h) ?_
  refine lv_astore_nN (lv' := [(2, .null), (0, .ref h0), (1, .int p0)]) hx hb dX8_kill_5 rfl hl (by decide) rfl (fun ls hl => ?_)
  refine lv_aload_nN hx hb dX8_kill_6 rfl (lv_at hl 0 rfl) ?_
  refine lv_ifnullN (tgt := 17) hx hb dX8_kill_7 (by decide) ?_
  refine lv_iconst (v := 0) hx hb dX8_kill_17 (by decide) ?_
  exact W.zret (v := 0) hx hb hr rfl (fun t9 ht hW => ⟨_, rfl, rfl, ht⟩) (fun q h => nomatch h) dX8_kill_18

set_option maxHeartbeats 4000000 in
set_option maxRecDepth 100000 in
theorem c_X8_way (l : Launch) (dC : Nat → ClassId) (dI : Nat → Nat → Nat) (h0 : Nat) (a1 : Nat) (a2 : Nat) (a3 : Nat) (a4 : Nat) (a5 : Nat) (a6 : Nat) (a7 : Nat) (a8 : Nat) (a9 : Nat) (k7 : ClassId) (p0 : Int32) (p1 : Int32) (sz : Nat) : Met l yX8_way wsX8_way ({ frames := 1, cells := 0, slots := 0, locals := 21 }) (va_Pc [.ref h0, .int p0, .int p1] (cP dC dI [(h0, .inr (8, [.ref a1, .ref a2, .ref a3, .ref a4, .ref a5, .ref a6, .ref a7, .ref a8, .ref a9, .int 0, .int 0, .int 0, .int 0, .int 0, .int 0])), (a7, .inl (k7, 60, .inr (.inr (.inr (.inr (fun _ => none))))))] [(k7, .object "YamRiders$Rider")] sz)) (vp_Si (fun r => r = (-1))) 0 0 (fun _ => False) := by
  refine Met.ofW (cc := cX8_way) (maxL := 4) (ret := (some .int)) (by decide) rfl ?_
  intro p e s m args below meth c s₁ B hml hv
  obtain ⟨rfl, hsz, hP, hK, hD0, hN⟩ := hv
  have hx := B.exec
  have hb := B.bytes
  have hr := B.returns
  have hts := atoms_spec (ws := wsX8_way) B.pre
  have hown : s.vm.findClass RX8 = some m.cls := findClass_of_methodNamed B.named
  have hlocks := B.notSynchronized
  subst hsz
  have hD := hD0
  have hP : va_P (dC, dI) vwCl [(h0, .inr (8, [.ref a1, .ref a2, .ref a3, .ref a4, .ref a5, .ref a6, .ref a7, .ref a8, .ref a9, .int 0, .int 0, .int 0, .int 0, .int 0, .int 0])), (a7, .inl (k7, 60, .inr (.inr (.inr (.inr (fun _ => none))))))] s.heap := hP
  have hl := lv_entry ([.ref h0, .int p0, .int p1]) (n := 4) (Nat.le_of_ble_eq_true rfl)
  rw [lg_entry_eq]
  generalize (lg_sl ([.ref h0, .int p0, .int p1]) ++ List.replicate (4 - (lg_sl ([.ref h0, .int p0, .int p1])).length) Slot.unset).toArray = ls at hl ⊢
  have hl : lv_has ls 4 [(0, .ref h0), (1, .int p0), (2, .int p1)] := hl
  refine lv_aload_n hx hb dX8_way_0 rfl (lv_at hl 0 rfl) ?_
  refine lv_iload_n hx hb dX8_way_1 rfl (lv_at hl 1 rfl) ?_
  have hPc := hP.sub (ws' := [(h0, .inr (8, [.ref a1, .ref a2, .ref a3, .ref a4, .ref a5, .ref a6, .ref a7, .ref a8, .ref a9, .int 0, .int 0, .int 0, .int 0, .int 0, .int 0])), (a7, .inl (k7, 60, .inr (.inr (.inr (.inr (fun _ => none))))))]) [0, 1] rfl
  have hDc := hD.sub (ws' := [(h0, .inr (8, [.ref a1, .ref a2, .ref a3, .ref a4, .ref a5, .ref a6, .ref a7, .ref a8, .ref a9, .int 0, .int 0, .int 0, .int 0, .int 0, .int 0])), (a7, .inl (k7, 60, .inr (.inr (.inr (.inr (fun _ => none))))))]) [0, 1] (by decide) rfl
  have hKc := hK.sub (tys' := [(k7, .object "YamRiders$Rider")]) [0] rfl
  refine cs_n (va_runV (As := [.int p0]) (rest := []) ⟨hx, hb, hml, hown, hts⟩ (c_X8_riderOf l dC dI h0 a1 a2 a3 a4 a5 a6 a7 a8 a9 k7 p0 s.heap.size) (cwV 1 hts gX8_way_X8_riderOf rfl rfl rfl (by decide +kernel) ⟨Nat.le_of_ble_eq_true rfl, Nat.le_of_ble_eq_true rfl⟩) ⟨c_blind, va_recv hKc hPc (ci := 8) (q0 := 0) rfl rfl, c_pre hPc hKc hDc hN⟩ rfl rfl hl.1 rfl (lv_room (Nat.le_of_ble_eq_true rfl)) dX8_way_2 ⟨Nat.le_of_ble_eq_true rfl, Nat.le_of_ble_eq_true rfl⟩) (fun _ h => h) ?_
  refine lv_astore_nN (lv' := [(3, .null), (0, .ref h0), (1, .int p0), (2, .int p1)]) hx hb dX8_way_5 rfl hl (by decide) rfl (fun ls hl => ?_)
  refine lv_aload_nN hx hb dX8_way_6 rfl (lv_at hl 0 rfl) ?_
  refine lv_ifnonnullN hx hb dX8_way_7 ?_
  refine lv_iconst (v := (-1)) hx hb dX8_way_10 (by decide) ?_
  refine lv_goto (tgt := 19) hx hb dX8_way_11 (by decide) ?_
  exact W.iret (v := (-1)) hx hb hr (fun t9 ht hW => ⟨_, rfl, rfl, ht⟩) (fun q h => nomatch h) dX8_way_19

set_option maxHeartbeats 4000000 in
set_option maxRecDepth 100000 in
theorem c_X8_voided (l : Launch) (dC : Nat → ClassId) (dI : Nat → Nat → Nat) (h0 : Nat) (a1 : Nat) (a2 : Nat) (a3 : Nat) (a4 : Nat) (a5 : Nat) (a6 : Nat) (a7 : Nat) (a8 : Nat) (a9 : Nat) (k6 : ClassId) (p0 : Int32) (p1 : Int32) (sz : Nat) : Met l yX8_voided wsX8_voided ({ frames := 1, cells := 0, slots := 0, locals := 21 }) (va_Pc [.ref h0, .int p0, .int p1] (cP dC dI [(h0, .inr (8, [.ref a1, .ref a2, .ref a3, .ref a4, .ref a5, .ref a6, .ref a7, .ref a8, .ref a9, .int 0, .int 0, .int 0, .int 0, .int 0, .int 0])), (a6, .inl (k6, 20, .inr (.inr (.inr (.inr (fun _ => none))))))] [(k6, .object "YamRiders$Tablet")] sz)) (vp_Si (fun r => r = (-1))) 0 0 (fun _ => False) := by
  refine Met.ofW (cc := cX8_voided) (maxL := 4) (ret := (some .int)) (by decide) rfl ?_
  intro p e s m args below meth c s₁ B hml hv
  obtain ⟨rfl, hsz, hP, hK, hD0, hN⟩ := hv
  have hx := B.exec
  have hb := B.bytes
  have hr := B.returns
  have hts := atoms_spec (ws := wsX8_voided) B.pre
  have hown : s.vm.findClass RX8 = some m.cls := findClass_of_methodNamed B.named
  have hlocks := B.notSynchronized
  subst hsz
  have hD := hD0
  have hP : va_P (dC, dI) vwCl [(h0, .inr (8, [.ref a1, .ref a2, .ref a3, .ref a4, .ref a5, .ref a6, .ref a7, .ref a8, .ref a9, .int 0, .int 0, .int 0, .int 0, .int 0, .int 0])), (a6, .inl (k6, 20, .inr (.inr (.inr (.inr (fun _ => none))))))] s.heap := hP
  have hl := lv_entry ([.ref h0, .int p0, .int p1]) (n := 4) (Nat.le_of_ble_eq_true rfl)
  rw [lg_entry_eq]
  generalize (lg_sl ([.ref h0, .int p0, .int p1]) ++ List.replicate (4 - (lg_sl ([.ref h0, .int p0, .int p1])).length) Slot.unset).toArray = ls at hl ⊢
  have hl : lv_has ls 4 [(0, .ref h0), (1, .int p0), (2, .int p1)] := hl
  refine lv_aload_n hx hb dX8_voided_0 rfl (lv_at hl 0 rfl) ?_
  refine lv_iload_n hx hb dX8_voided_1 rfl (lv_at hl 1 rfl) ?_
  have hPc := hP.sub (ws' := [(h0, .inr (8, [.ref a1, .ref a2, .ref a3, .ref a4, .ref a5, .ref a6, .ref a7, .ref a8, .ref a9, .int 0, .int 0, .int 0, .int 0, .int 0, .int 0])), (a6, .inl (k6, 20, .inr (.inr (.inr (.inr (fun _ => none))))))]) [0, 1] rfl
  have hDc := hD.sub (ws' := [(h0, .inr (8, [.ref a1, .ref a2, .ref a3, .ref a4, .ref a5, .ref a6, .ref a7, .ref a8, .ref a9, .int 0, .int 0, .int 0, .int 0, .int 0, .int 0])), (a6, .inl (k6, 20, .inr (.inr (.inr (.inr (fun _ => none))))))]) [0, 1] (by decide) rfl
  have hKc := hK.sub (tys' := [(k6, .object "YamRiders$Tablet")]) [0] rfl
  refine cs_n (va_runV (As := [.int p0]) (rest := []) ⟨hx, hb, hml, hown, hts⟩ (c_X8_tabletOf l dC dI h0 a1 a2 a3 a4 a5 a6 a7 a8 a9 k6 p0 s.heap.size) (cwV 1 hts gX8_voided_X8_tabletOf rfl rfl rfl (by decide +kernel) ⟨Nat.le_of_ble_eq_true rfl, Nat.le_of_ble_eq_true rfl⟩) ⟨c_blind, va_recv hKc hPc (ci := 8) (q0 := 0) rfl rfl, c_pre hPc hKc hDc hN⟩ rfl rfl hl.1 rfl (lv_room (Nat.le_of_ble_eq_true rfl)) dX8_voided_2 ⟨Nat.le_of_ble_eq_true rfl, Nat.le_of_ble_eq_true rfl⟩) (fun _ h => h) ?_
  refine lv_astore_nN (lv' := [(3, .null), (0, .ref h0), (1, .int p0), (2, .int p1)]) hx hb dX8_voided_5 rfl hl (by decide) rfl (fun ls hl => ?_)
  refine lv_aload_nN hx hb dX8_voided_6 rfl (lv_at hl 0 rfl) ?_
  refine lv_ifnonnullN hx hb dX8_voided_7 ?_
  refine lv_iconst (v := (-1)) hx hb dX8_voided_10 (by decide) ?_
  refine lv_goto (tgt := 19) hx hb dX8_voided_11 (by decide) ?_
  exact W.iret (v := (-1)) hx hb hr (fun t9 ht hW => ⟨_, rfl, rfl, ht⟩) (fun q h => nomatch h) dX8_voided_19

set_option maxHeartbeats 4000000 in
set_option maxRecDepth 100000 in
theorem c_X8_known (l : Launch) (dC : Nat → ClassId) (dI : Nat → Nat → Nat) (h0 : Nat) (a1 : Nat) (a2 : Nat) (a3 : Nat) (a4 : Nat) (a5 : Nat) (a6 : Nat) (a7 : Nat) (a8 : Nat) (a9 : Nat) (k7 : ClassId) (p0 : Int32) (p1 : Int32) (sz : Nat) : Met l yX8_known wsX8_known ({ frames := 1, cells := 0, slots := 0, locals := 21 }) (va_Pc [.ref h0, .int p0, .int p1] (cP dC dI [(h0, .inr (8, [.ref a1, .ref a2, .ref a3, .ref a4, .ref a5, .ref a6, .ref a7, .ref a8, .ref a9, .int 0, .int 0, .int 0, .int 0, .int 0, .int 0])), (a7, .inl (k7, 60, .inr (.inr (.inr (.inr (fun _ => none))))))] [(k7, .object "YamRiders$Rider")] sz)) (vp_Si (fun r => r = (-1))) 0 0 (fun _ => False) := by
  refine Met.ofW (cc := cX8_known) (maxL := 4) (ret := (some .int)) (by decide) rfl ?_
  intro p e s m args below meth c s₁ B hml hv
  obtain ⟨rfl, hsz, hP, hK, hD0, hN⟩ := hv
  have hx := B.exec
  have hb := B.bytes
  have hr := B.returns
  have hts := atoms_spec (ws := wsX8_known) B.pre
  have hown : s.vm.findClass RX8 = some m.cls := findClass_of_methodNamed B.named
  have hlocks := B.notSynchronized
  subst hsz
  have hD := hD0
  have hP : va_P (dC, dI) vwCl [(h0, .inr (8, [.ref a1, .ref a2, .ref a3, .ref a4, .ref a5, .ref a6, .ref a7, .ref a8, .ref a9, .int 0, .int 0, .int 0, .int 0, .int 0, .int 0])), (a7, .inl (k7, 60, .inr (.inr (.inr (.inr (fun _ => none))))))] s.heap := hP
  have hl := lv_entry ([.ref h0, .int p0, .int p1]) (n := 4) (Nat.le_of_ble_eq_true rfl)
  rw [lg_entry_eq]
  generalize (lg_sl ([.ref h0, .int p0, .int p1]) ++ List.replicate (4 - (lg_sl ([.ref h0, .int p0, .int p1])).length) Slot.unset).toArray = ls at hl ⊢
  have hl : lv_has ls 4 [(0, .ref h0), (1, .int p0), (2, .int p1)] := hl
  refine lv_aload_n hx hb dX8_known_0 rfl (lv_at hl 0 rfl) ?_
  refine lv_iload_n hx hb dX8_known_1 rfl (lv_at hl 1 rfl) ?_
  have hPc := hP.sub (ws' := [(h0, .inr (8, [.ref a1, .ref a2, .ref a3, .ref a4, .ref a5, .ref a6, .ref a7, .ref a8, .ref a9, .int 0, .int 0, .int 0, .int 0, .int 0, .int 0])), (a7, .inl (k7, 60, .inr (.inr (.inr (.inr (fun _ => none))))))]) [0, 1] rfl
  have hDc := hD.sub (ws' := [(h0, .inr (8, [.ref a1, .ref a2, .ref a3, .ref a4, .ref a5, .ref a6, .ref a7, .ref a8, .ref a9, .int 0, .int 0, .int 0, .int 0, .int 0, .int 0])), (a7, .inl (k7, 60, .inr (.inr (.inr (.inr (fun _ => none))))))]) [0, 1] (by decide) rfl
  have hKc := hK.sub (tys' := [(k7, .object "YamRiders$Rider")]) [0] rfl
  refine cs_n (va_runV (As := [.int p0]) (rest := []) ⟨hx, hb, hml, hown, hts⟩ (c_X8_riderOf l dC dI h0 a1 a2 a3 a4 a5 a6 a7 a8 a9 k7 p0 s.heap.size) (cwV 1 hts gX8_known_X8_riderOf rfl rfl rfl (by decide +kernel) ⟨Nat.le_of_ble_eq_true rfl, Nat.le_of_ble_eq_true rfl⟩) ⟨c_blind, va_recv hKc hPc (ci := 8) (q0 := 0) rfl rfl, c_pre hPc hKc hDc hN⟩ rfl rfl hl.1 rfl (lv_room (Nat.le_of_ble_eq_true rfl)) dX8_known_2 ⟨Nat.le_of_ble_eq_true rfl, Nat.le_of_ble_eq_true rfl⟩) (fun _ h => h) ?_
  refine lv_astore_nN (lv' := [(3, .null), (0, .ref h0), (1, .int p0), (2, .int p1)]) hx hb dX8_known_5 rfl hl (by decide) rfl (fun ls hl => ?_)
  refine lv_aload_nN hx hb dX8_known_6 rfl (lv_at hl 0 rfl) ?_
  refine lv_ifnonnullN hx hb dX8_known_7 ?_
  refine lv_iconst (v := (-1)) hx hb dX8_known_10 (by decide) ?_
  refine lv_goto (tgt := 19) hx hb dX8_known_11 (by decide) ?_
  exact W.iret (v := (-1)) hx hb hr (fun t9 ht hW => ⟨_, rfl, rfl, ht⟩) (fun q h => nomatch h) dX8_known_19

set_option maxHeartbeats 4000000 in
set_option maxRecDepth 100000 in
theorem c_X8_leading (l : Launch) (dC : Nat → ClassId) (dI : Nat → Nat → Nat) (h0 : Nat) (a1 : Nat) (a2 : Nat) (a3 : Nat) (a4 : Nat) (a5 : Nat) (a6 : Nat) (a7 : Nat) (a8 : Nat) (a9 : Nat) (b1 : Nat) (sz : Nat) : Met l yX8_leading wsX8_leading ({ frames := 0, cells := 0, slots := 0, locals := 0 }) (va_Pc [.ref h0] (cP dC dI [(h0, .inr (8, [.ref a1, .ref a2, .ref a3, .ref a4, .ref a5, .ref a6, .ref a7, .ref a8, .ref a9, .int 0, .int 0, .int 0, .int 0, .int 0, .int 0])), (a1, .inr (7, [.ref b1, .int 0]))] [] sz)) (va_Qi (fun (r : Int32) (_ : Unit) => r = (-1)) (fun (_ : Unit) t9 => cQ dC dI [] [] (va_A [(h0, .inr (8, [.ref a1, .ref a2, .ref a3, .ref a4, .ref a5, .ref a6, .ref a7, .ref a8, .ref a9, .int 0, .int 0, .int 0, .int 0, .int 0, .int 0])), (a1, .inr (7, [.ref b1, .int 0]))] sz) t9) (va_A [(h0, .inr (8, [.ref a1, .ref a2, .ref a3, .ref a4, .ref a5, .ref a6, .ref a7, .ref a8, .ref a9, .int 0, .int 0, .int 0, .int 0, .int 0, .int 0])), (a1, .inr (7, [.ref b1, .int 0]))] sz)) 0 0 (va_A [(h0, .inr (8, [.ref a1, .ref a2, .ref a3, .ref a4, .ref a5, .ref a6, .ref a7, .ref a8, .ref a9, .int 0, .int 0, .int 0, .int 0, .int 0, .int 0])), (a1, .inr (7, [.ref b1, .int 0]))] sz) := by
  refine Met.ofW (cc := cX8_leading) (maxL := 4) (ret := (some .int)) (by decide) rfl ?_
  intro p e s m args below meth c s₁ B hml hv
  obtain ⟨rfl, hsz, hP, hK, hD0, hN⟩ := hv
  have hx := B.exec
  have hb := B.bytes
  have hr := B.returns
  have hts := atoms_spec (ws := wsX8_leading) B.pre
  have hown : s.vm.findClass RX8 = some m.cls := findClass_of_methodNamed B.named
  have hlocks := B.notSynchronized
  subst hsz
  have hin7 : ∀ w ∈ u_ws RX7 TX7 2, w ∈ wsX8_leading := by decide +kernel
  have hin8 : ∀ w ∈ u_ws RX8 TX8 15, w ∈ wsX8_leading := by decide +kernel
  have hD := hD0.self (sz := s.heap.size)
  generalize hAe : va_A [(h0, .inr (8, [.ref a1, .ref a2, .ref a3, .ref a4, .ref a5, .ref a6, .ref a7, .ref a8, .ref a9, .int 0, .int 0, .int 0, .int 0, .int 0, .int 0])), (a1, .inr (7, [.ref b1, .int 0]))] s.heap.size = A at hD ⊢
  have hA : ∀ q : Nat, s.heap.size ≤ q → A q := fun q h => by rw [← hAe]; exact Or.inr h
  have hS : va_S A s.heap s.heap [] := va_S.rf
  have hP : va_P (dC, dI) vwCl [(h0, .inr (8, [.ref a1, .ref a2, .ref a3, .ref a4, .ref a5, .ref a6, .ref a7, .ref a8, .ref a9, .int 0, .int 0, .int 0, .int 0, .int 0, .int 0])), (a1, .inr (7, [.ref b1, .int 0]))] s.heap := hP
  have hl := lv_entry ([.ref h0]) (n := 4) (Nat.le_of_ble_eq_true rfl)
  rw [lg_entry_eq]
  generalize (lg_sl ([.ref h0]) ++ List.replicate (4 - (lg_sl ([.ref h0])).length) Slot.unset).toArray = ls at hl ⊢
  have hl : lv_has ls 4 [(0, .ref h0)] := hl
  refine lv_aload_n hx hb dX8_leading_0 rfl (lv_at hl 0 rfl) ?_
  refine va_get (D := (dC, dI)) (ci := 8) (v := .ref a1) (C := RX8) (T := TX8) (N := 15) hx hb hts hin8 hown hK hP 0 rfl rfl 0 (by decide) (hts (.fieldLink RX8 10 "YamRiders" "tape" "LYamRiders$Tape;") (by decide +kernel)) (fun _ h9 => h9) rfl dX8_leading_1 ?_
  refine va_getN (D := (dC, dI)) (ci := 7) (v := .int 0) (C := RX7) (T := TX7) (N := 2) hx hb hts hin7 hown hK hP 1 rfl rfl 1 (by decide) (hN.nx (.fieldLinkNest RX8 70 "YamRiders$Tape" "length" "I" "YamRiders") (by decide +kernel)) (fun _ h9 => h9) rfl dX8_leading_4 ?_
  refine lv_bipush (v := 12) hx hb dX8_leading_7 (by decide) ?_
  refine lv_icmp_ne (tgt := 16) hx hb dX8_leading_9 (by decide) (fun _ => ?_) (fun c_1 => by first | exact absurd c_1 (by decide) | exact absurd (by decide) c_1)
  refine lv_iconst (v := 0) hx hb dX8_leading_16 (by decide) ?_
  refine lv_istore_n (lv' := [(1, .int 0), (0, .ref h0)]) hx hb dX8_leading_17 rfl hl (by decide) rfl (fun ls hl => ?_)
  refine lv_iconst (v := 0) hx hb dX8_leading_18 (by decide) ?_
  refine lv_istore_n (lv' := [(2, .int 0), (1, .int 0), (0, .ref h0)]) hx hb dX8_leading_19 rfl hl (by decide) rfl (fun ls hl => ?_)
  refine lv_iload_n hx hb dX8_leading_20 rfl (lv_at hl 0 rfl) ?_
  refine lv_bipush (v := 12) hx hb dX8_leading_21 (by decide) ?_
  refine lv_icmp_ge (tgt := 72) hx hb dX8_leading_23 (by decide) (fun c_2 => by first | exact absurd c_2 (by decide) | exact absurd (by decide) c_2) (fun _ => ?_)
  refine lv_iload_n hx hb dX8_leading_26 rfl (lv_at hl 1 rfl) ?_
  refine lv_if_eq (tgt := 72) hx hb dX8_leading_27 (by decide) (fun _ => ?_) (fun c_3 => by first | exact absurd c_3 (by decide) | exact absurd (by decide) c_3)
  refine lv_aload_n hx hb dX8_leading_72 rfl (lv_at hl 2 rfl) ?_
  refine va_get (D := (dC, dI)) (ci := 8) (v := .ref a1) (C := RX8) (T := TX8) (N := 15) hx hb hts hin8 hown hK hP 0 rfl rfl 0 (by decide) (hts (.fieldLink RX8 10 "YamRiders" "tape" "LYamRiders$Tape;") (by decide +kernel)) (fun _ h9 => h9) rfl dX8_leading_73 ?_
  refine lv_iconst (v := 0) hx hb dX8_leading_76 (by decide) ?_
  refine va_putN (D := (dC, dI)) (ci := 7) (v := .int 0) (ty := (tyX7 1)) (C := RX7) (T := TX7) (N := 2) hx hb hts hin7 tyX7 tyX7_ok nmX7 hown hK hP hD hS 1 rfl rfl 1 (by decide) (hN.nx (.fieldLinkNest RX8 70 "YamRiders$Tape" "length" "I" "YamRiders") (by decide +kernel)) (fun _ h9 => h9) rfl (by decide +kernel) rfl rfl (Nat.le_of_ble_eq_true rfl) dX8_leading_77 (fun H locs hP hD hS => ?_)
  have hP : va_P (dC, dI) vwCl [(h0, .inr (8, [.ref a1, .ref a2, .ref a3, .ref a4, .ref a5, .ref a6, .ref a7, .ref a8, .ref a9, .int 0, .int 0, .int 0, .int 0, .int 0, .int 0])), (a1, .inr (7, [.ref b1, .int 0]))] H := hP
  have hD : va_D A [(h0, .inr (8, [.ref a1, .ref a2, .ref a3, .ref a4, .ref a5, .ref a6, .ref a7, .ref a8, .ref a9, .int 0, .int 0, .int 0, .int 0, .int 0, .int 0])), (a1, .inr (7, [.ref b1, .int 0]))] := hD
  refine lv_iload_n hx hb dX8_leading_80 rfl (lv_at hl 1 rfl) ?_
  refine lv_if_eq (tgt := 98) hx hb dX8_leading_81 (by decide) (fun _ => ?_) (fun c_4 => by first | exact absurd c_4 (by decide) | exact absurd (by decide) c_4)
  refine lv_iconst (v := (-1)) hx hb dX8_leading_98 (by decide) ?_
  have hP9 := hP.sub (ws' := []) [] rfl
  have hD9 := hD.sub (ws' := []) [] (by decide) rfl
  have hK9 := hK.sub (tys' := []) [] rfl
  refine W.widen (k := 0) (n := 0) (Nat.le_of_ble_eq_true rfl) (Nat.le_of_ble_eq_true rfl) ?_
  exact W.iret (v := (-1)) hx hb hr (fun t9 ht hW => ⟨⟨_, (), rfl, rfl, by rw [ht]; exact hP9, va_K.moved hW.alike hK9, hD9⟩, hS.F ht⟩) hS.2.2 dX8_leading_99

set_option maxHeartbeats 4000000 in
set_option maxRecDepth 100000 in
theorem c_X8_fodder (l : Launch) (dC : Nat → ClassId) (dI : Nat → Nat → Nat) (h0 : Nat) (a1 : Nat) (a2 : Nat) (a3 : Nat) (a4 : Nat) (a5 : Nat) (a6 : Nat) (a7 : Nat) (a8 : Nat) (a9 : Nat) (k4 : ClassId) (p0 : Int32) (p1 : Int32) (sz : Nat) : Met l yX8_fodder wsX8_fodder ({ frames := 1, cells := 0, slots := 0, locals := 20 }) (va_Pc [.ref h0, .int p0, .int p1] (cP dC dI [(h0, .inr (8, [.ref a1, .ref a2, .ref a3, .ref a4, .ref a5, .ref a6, .ref a7, .ref a8, .ref a9, .int 0, .int 0, .int 0, .int 0, .int 0, .int 0])), (a4, .inl (k4, 12, .inl (fun _ => 0)))] [(k4, .int)] sz)) (va_Qi (fun (r : Int32) (_ : Unit) => r = (if (sp_st p0) = 0 then (-1) else (if p1 < 1 then (-1) else (if 10000 < p1 then (-1) else (if (0 + p1) ≤ 100000 then 0 + p1 else (-1)))))) (fun (_ : Unit) t9 => cQ dC dI [] [] (va_A [(h0, .inr (8, [.ref a1, .ref a2, .ref a3, .ref a4, .ref a5, .ref a6, .ref a7, .ref a8, .ref a9, .int 0, .int 0, .int 0, .int 0, .int 0, .int 0])), (a4, .inl (k4, 12, .inl (fun _ => 0)))] sz) t9) (va_A [(h0, .inr (8, [.ref a1, .ref a2, .ref a3, .ref a4, .ref a5, .ref a6, .ref a7, .ref a8, .ref a9, .int 0, .int 0, .int 0, .int 0, .int 0, .int 0])), (a4, .inl (k4, 12, .inl (fun _ => 0)))] sz)) 0 0 (va_A [(h0, .inr (8, [.ref a1, .ref a2, .ref a3, .ref a4, .ref a5, .ref a6, .ref a7, .ref a8, .ref a9, .int 0, .int 0, .int 0, .int 0, .int 0, .int 0])), (a4, .inl (k4, 12, .inl (fun _ => 0)))] sz) := by
  refine Met.ofW (cc := cX8_fodder) (maxL := 3) (ret := (some .int)) (by decide) rfl ?_
  intro p e s m args below meth c s₁ B hml hv
  obtain ⟨rfl, hsz, hP, hK, hD0, hN⟩ := hv
  have hx := B.exec
  have hb := B.bytes
  have hr := B.returns
  have hts := atoms_spec (ws := wsX8_fodder) B.pre
  have hown : s.vm.findClass RX8 = some m.cls := findClass_of_methodNamed B.named
  have hlocks := B.notSynchronized
  subst hsz
  have hin8 : ∀ w ∈ u_ws RX8 TX8 15, w ∈ wsX8_fodder := by decide +kernel
  have hD := hD0.self (sz := s.heap.size)
  generalize hAe : va_A [(h0, .inr (8, [.ref a1, .ref a2, .ref a3, .ref a4, .ref a5, .ref a6, .ref a7, .ref a8, .ref a9, .int 0, .int 0, .int 0, .int 0, .int 0, .int 0])), (a4, .inl (k4, 12, .inl (fun _ => 0)))] s.heap.size = A at hD ⊢
  have hA : ∀ q : Nat, s.heap.size ≤ q → A q := fun q h => by rw [← hAe]; exact Or.inr h
  have hS : va_S A s.heap s.heap [] := va_S.rf
  have hP : va_P (dC, dI) vwCl [(h0, .inr (8, [.ref a1, .ref a2, .ref a3, .ref a4, .ref a5, .ref a6, .ref a7, .ref a8, .ref a9, .int 0, .int 0, .int 0, .int 0, .int 0, .int 0])), (a4, .inl (k4, 12, .inl (fun _ => 0)))] s.heap := hP
  have hl := lv_entry ([.ref h0, .int p0, .int p1]) (n := 3) (Nat.le_of_ble_eq_true rfl)
  rw [lg_entry_eq]
  generalize (lg_sl ([.ref h0, .int p0, .int p1]) ++ List.replicate (3 - (lg_sl ([.ref h0, .int p0, .int p1])).length) Slot.unset).toArray = ls at hl ⊢
  have hl : lv_has ls 3 [(0, .ref h0), (1, .int p0), (2, .int p1)] := hl
  refine lv_iload_n hx hb dX8_fodder_0 rfl (lv_at hl 1 rfl) ?_
  have hPc := hP.sub (ws' := []) [] rfl
  have hDc := hD.sub (ws' := []) [] (by decide) rfl
  have hKc := hK.sub (tys' := []) [] rfl
  refine cs_i (va_runS (As := [.int p0]) (rest := []) ⟨hx, hb, hml, hown, hts⟩ (c_X8_isStation l dC dI p0 s.heap.size) (va_cwS 1 hts gX8_fodder_X8_isStation rfl rfl rfl (by decide +kernel) ⟨Nat.le_of_ble_eq_true rfl, Nat.le_of_ble_eq_true rfl⟩) ⟨c_blind, c_pre hPc hKc hDc hN⟩ rfl rfl hl.1 rfl (lv_room (Nat.le_of_ble_eq_true rfl)) dX8_fodder_1 ⟨Nat.le_of_ble_eq_true rfl, Nat.le_of_ble_eq_true rfl⟩) (fun r_1 hr_1 => ?_)
  subst hr_1
  refine lv_if_eq (tgt := 32) hx hb dX8_fodder_4 (by decide) (fun c_2 => ?_) (fun c_2 => ?_)
  · refine lv_iconst (v := (-1)) hx hb dX8_fodder_32 (by decide) ?_
    have hP9 := hP.sub (ws' := []) [] rfl
    have hD9 := hD.sub (ws' := []) [] (by decide) rfl
    have hK9 := hK.sub (tys' := []) [] rfl
    refine W.widen (k := 0) (n := 0) (Nat.le_of_ble_eq_true rfl) (Nat.le_of_ble_eq_true rfl) ?_
    exact W.iret (v := (-1)) hx hb hr (fun t9 ht hW => ⟨⟨_, (), rfl, (by rw [if_pos c_2]), by rw [ht]; exact hP9, va_K.moved hW.alike hK9, hD9⟩, hS.F ht⟩) hS.2.2 dX8_fodder_33
  · refine lv_iload_n hx hb dX8_fodder_7 rfl (lv_at hl 2 rfl) ?_
    refine lv_iconst (v := 1) hx hb dX8_fodder_8 (by decide) ?_
    refine lv_icmp_lt (tgt := 32) hx hb dX8_fodder_9 (by decide) (fun c_3 => ?_) (fun c_3 => ?_)
    · refine lv_iconst (v := (-1)) hx hb dX8_fodder_32 (by decide) ?_
      have hP9 := hP.sub (ws' := []) [] rfl
      have hD9 := hD.sub (ws' := []) [] (by decide) rfl
      have hK9 := hK.sub (tys' := []) [] rfl
      refine W.widen (k := 0) (n := 0) (Nat.le_of_ble_eq_true rfl) (Nat.le_of_ble_eq_true rfl) ?_
      exact W.iret (v := (-1)) hx hb hr (fun t9 ht hW => ⟨⟨_, (), rfl, (by rw [if_neg c_2, if_pos c_3]), by rw [ht]; exact hP9, va_K.moved hW.alike hK9, hD9⟩, hS.F ht⟩) hS.2.2 dX8_fodder_33
    · refine lv_iload_n hx hb dX8_fodder_12 rfl (lv_at hl 2 rfl) ?_
      refine lv_sipush (v := 10000) hx hb dX8_fodder_13 (by decide) ?_
      refine lv_icmp_gt (tgt := 32) hx hb dX8_fodder_16 (by decide) (fun c_4 => ?_) (fun c_4 => ?_)
      · refine lv_iconst (v := (-1)) hx hb dX8_fodder_32 (by decide) ?_
        have hP9 := hP.sub (ws' := []) [] rfl
        have hD9 := hD.sub (ws' := []) [] (by decide) rfl
        have hK9 := hK.sub (tys' := []) [] rfl
        refine W.widen (k := 0) (n := 0) (Nat.le_of_ble_eq_true rfl) (Nat.le_of_ble_eq_true rfl) ?_
        exact W.iret (v := (-1)) hx hb hr (fun t9 ht hW => ⟨⟨_, (), rfl, (by rw [if_neg c_2, if_neg c_3, if_pos c_4]), by rw [ht]; exact hP9, va_K.moved hW.alike hK9, hD9⟩, hS.F ht⟩) hS.2.2 dX8_fodder_33
      · refine lv_aload_n hx hb dX8_fodder_19 rfl (lv_at hl 0 rfl) ?_
        refine va_get (D := (dC, dI)) (ci := 8) (v := .ref a4) (C := RX8) (T := TX8) (N := 15) hx hb hts hin8 hown hK hP 0 rfl rfl 3 (by decide) (hts (.fieldLink RX8 30 "YamRiders" "fodderAt" "[I") (by decide +kernel)) (fun _ h9 => h9) rfl dX8_fodder_20 ?_
        refine lv_iload_n hx hb dX8_fodder_23 rfl (lv_at hl 1 rfl) ?_
        refine va_iald hx hb hK hP 1 0 rfl rfl (st_in c_2) dX8_fodder_24 ?_
        refine lv_topi (fun v_5 ev_5 => ?_)
        obtain rfl : v_5 = 0 := ev_5.trans rfl
        refine lv_iload_n hx hb dX8_fodder_25 rfl (lv_at hl 2 rfl) ?_
        refine lv_iadd hx hb dX8_fodder_26 ?_
        refine lv_ldc (v := 100000) hx hb hown (hts (.constant RX8 109 (100000)) (by decide +kernel)) dX8_fodder_27 ?_
        refine lv_icmp_le (tgt := 34) hx hb dX8_fodder_29 (by decide) (fun c_6 => ?_) (fun c_6 => ?_)
        · refine lv_aload_n hx hb dX8_fodder_34 rfl (lv_at hl 0 rfl) ?_
          refine va_get (D := (dC, dI)) (ci := 8) (v := .ref a4) (C := RX8) (T := TX8) (N := 15) hx hb hts hin8 hown hK hP 0 rfl rfl 3 (by decide) (hts (.fieldLink RX8 30 "YamRiders" "fodderAt" "[I") (by decide +kernel)) (fun _ h9 => h9) rfl dX8_fodder_35 ?_
          refine lv_iload_n hx hb dX8_fodder_38 rfl (lv_at hl 1 rfl) ?_
          refine lv_dup2_11 hx hb dX8_fodder_39 rfl rfl ?_
          refine va_iald hx hb hK hP 1 0 rfl rfl (st_in c_2) dX8_fodder_40 ?_
          refine lv_topi (fun v_7 ev_7 => ?_)
          obtain rfl : v_7 = 0 := ev_7.trans rfl
          refine lv_iload_n hx hb dX8_fodder_41 rfl (lv_at hl 2 rfl) ?_
          refine lv_iadd hx hb dX8_fodder_42 ?_
          refine va_iast hx hb hK hP hD hS 1 0 rfl rfl (st_in c_2) dX8_fodder_43 (fun H locs hP hD hS => ?_)
          have hP : va_P (dC, dI) vwCl [(h0, .inr (8, [.ref a1, .ref a2, .ref a3, .ref a4, .ref a5, .ref a6, .ref a7, .ref a8, .ref a9, .int 0, .int 0, .int 0, .int 0, .int 0, .int 0])), (a4, .inl (k4, 12, .inl (upd (fun _ => 0) p0.toNatClampNeg (0 + p1))))] H := hP
          have hD : va_D A [(h0, .inr (8, [.ref a1, .ref a2, .ref a3, .ref a4, .ref a5, .ref a6, .ref a7, .ref a8, .ref a9, .int 0, .int 0, .int 0, .int 0, .int 0, .int 0])), (a4, .inl (k4, 12, .inl (upd (fun _ => 0) p0.toNatClampNeg (0 + p1))))] := hD
          obtain ⟨f_8, ef_8⟩ : ∃ w9 : Nat → Int32, w9 = upd (fun _ => 0) p0.toNatClampNeg (0 + p1) := ⟨_, rfl⟩
          rw [← ef_8] at hP hD
          refine lv_aload_n hx hb dX8_fodder_44 rfl (lv_at hl 0 rfl) ?_
          refine va_get (D := (dC, dI)) (ci := 8) (v := .ref a4) (C := RX8) (T := TX8) (N := 15) hx hb hts hin8 hown hK hP 0 rfl rfl 3 (by decide) (hts (.fieldLink RX8 30 "YamRiders" "fodderAt" "[I") (by decide +kernel)) (fun _ h9 => h9) rfl dX8_fodder_45 ?_
          refine lv_iload_n hx hb dX8_fodder_48 rfl (lv_at hl 1 rfl) ?_
          refine va_iald hx hb hK hP 1 0 rfl rfl (st_in c_2) dX8_fodder_49 ?_
          refine lv_topi (fun v_9 ev_9 => ?_)
          obtain rfl : v_9 = 0 + p1 := ev_9.trans (by rw [ef_8]; exact pk_us)
          have hP9 := hP.sub (ws' := []) [] rfl
          have hD9 := hD.sub (ws' := []) [] (by decide) rfl
          have hK9 := hK.sub (tys' := []) [] rfl
          refine W.widen (k := 0) (n := 0) (Nat.le_of_ble_eq_true rfl) (Nat.le_of_ble_eq_true rfl) ?_
          exact W.iret (v := 0 + p1) hx hb hr (fun t9 ht hW => ⟨⟨_, (), rfl, (by rw [if_neg c_2, if_neg c_3, if_neg c_4, if_pos c_6]), by rw [ht]; exact hP9, va_K.moved hW.alike hK9, hD9⟩, hS.F ht⟩) hS.2.2 dX8_fodder_50
        · refine lv_iconst (v := (-1)) hx hb dX8_fodder_32 (by decide) ?_
          have hP9 := hP.sub (ws' := []) [] rfl
          have hD9 := hD.sub (ws' := []) [] (by decide) rfl
          have hK9 := hK.sub (tys' := []) [] rfl
          refine W.widen (k := 0) (n := 0) (Nat.le_of_ble_eq_true rfl) (Nat.le_of_ble_eq_true rfl) ?_
          exact W.iret (v := (-1)) hx hb hr (fun t9 ht hW => ⟨⟨_, (), rfl, (by rw [if_neg c_2, if_neg c_3, if_neg c_4, if_neg c_6]), by rw [ht]; exact hP9, va_K.moved hW.alike hK9, hD9⟩, hS.F ht⟩) hS.2.2 dX8_fodder_33
