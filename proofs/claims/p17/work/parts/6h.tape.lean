set_option maxHeartbeats 4000000 in
set_option maxRecDepth 100000 in
theorem g_X7_hasRoomFor (l : Launch) (dC : Nat → ClassId) (dI : Nat → Nat → Nat) (h0 : Nat) (b1 : Nat) (i_len : Int32) (p0 : Int32) (sz : Nat) : Met l yX7_hasRoomFor wsX7_hasRoomFor ({ frames := 0, cells := 0, slots := 0, locals := 0 }) (va_Pc [.ref h0, .int p0] (cP dC dI [(h0, .inr (7, [.ref b1, .int i_len]))] [] sz)) (vp_Si (fun r => r = (if 200 < (i_len + p0) then 0 else 1))) 0 0 (fun _ => False) := by
  refine Met.ofW (cc := cX7_hasRoomFor) (maxL := 2) (ret := (some .boolean)) (by decide) rfl ?_
  intro p e s m args below meth c s₁ B hml hv
  obtain ⟨rfl, hsz, hP, hK, hD0, hN⟩ := hv
  have hx := B.exec
  have hb := B.bytes
  have hr := B.returns
  have hts := atoms_spec (ws := wsX7_hasRoomFor) B.pre
  have hown : s.vm.findClass RX7 = some m.cls := findClass_of_methodNamed B.named
  have hlocks := B.notSynchronized
  subst hsz
  have hin7 : ∀ w ∈ u_ws RX7 TX7 2, w ∈ wsX7_hasRoomFor := by decide +kernel
  have hD := hD0
  have hP : va_P (dC, dI) vwCl [(h0, .inr (7, [.ref b1, .int i_len]))] s.heap := hP
  have hl := lv_entry ([.ref h0, .int p0]) (n := 2) (Nat.le_of_ble_eq_true rfl)
  rw [lg_entry_eq]
  generalize (lg_sl ([.ref h0, .int p0]) ++ List.replicate (2 - (lg_sl ([.ref h0, .int p0])).length) Slot.unset).toArray = ls at hl ⊢
  have hl : lv_has ls 2 [(0, .ref h0), (1, .int p0)] := hl
  refine lv_aload_n hx hb dX7_hasRoomFor_0 rfl (lv_at hl 0 rfl) ?_
  refine va_get (D := (dC, dI)) (ci := 7) (v := .int i_len) (C := RX7) (T := TX7) (N := 2) hx hb hts hin7 hown hK hP 0 rfl rfl 1 (by decide) (hts (.fieldLink RX7 15 "YamRiders$Tape" "length" "I") (by decide +kernel)) (fun _ h9 => h9) rfl dX7_hasRoomFor_1 ?_
  refine lv_iload_n hx hb dX7_hasRoomFor_4 rfl (lv_at hl 1 rfl) ?_
  refine lv_iadd hx hb dX7_hasRoomFor_5 ?_
  refine lv_sipush (v := 200) hx hb dX7_hasRoomFor_6 (by decide) ?_
  refine lv_icmp_gt (tgt := 16) hx hb dX7_hasRoomFor_9 (by decide) (fun c_1 => ?_) (fun c_1 => ?_)
  · refine lv_iconst (v := 0) hx hb dX7_hasRoomFor_16 (by decide) ?_
    exact W.zret (v := 0) hx hb hr rfl (fun t9 ht hW => ⟨_, rfl, (by rw [if_pos c_1]), ht⟩) (fun q h => nomatch h) dX7_hasRoomFor_17
  · refine lv_iconst (v := 1) hx hb dX7_hasRoomFor_12 (by decide) ?_
    refine lv_goto (tgt := 17) hx hb dX7_hasRoomFor_13 (by decide) ?_
    exact W.zret (v := 1) hx hb hr rfl (fun t9 ht hW => ⟨_, rfl, (by rw [if_neg c_1]), ht⟩) (fun q h => nomatch h) dX7_hasRoomFor_17

theorem f20x {n : Nat} (hn : n ≤ 200) (c : ¬ (if 200 < nI n + 20 then (0 : Int32) else 1) = 0) : n + 20 ≤ 200 := by
  by_cases h : (200 : Int32) < nI n + 20
  · rw [if_pos h] at c; exact absurd rfl c
  · exact f20 hn (Int32.not_lt.mp h)
theorem f20y {n : Nat} (c : (if 200 < nI n + 20 then (0 : Int32) else 1) = 0) : 200 < n + 20 := by
  by_cases h : (200 : Int32) < nI n + 20
  · exact Nat.lt_of_not_le (fun q => absurd (f20r q) (Int32.not_le.mpr h))
  · rw [if_neg h] at c; exact absurd c (by decide)

set_option maxHeartbeats 4000000 in
set_option maxRecDepth 100000 in
theorem g_X8_fault (l : Launch) (dC : Nat → ClassId) (dI : Nat → Nat → Nat) (h0 : Nat) (a1 : Nat) (a2 : Nat) (a3 : Nat) (a4 : Nat) (a5 : Nat) (a6 : Nat) (a7 : Nat) (a8 : Nat) (a9 : Nat) (j_faultKind : Int32) (j_horseCount : Int32) (j_tabletCount : Int32) (j_riderCount : Int32) (j_lineLength : Int32) (j_hour : Int32) (sz : Nat) : Met l yX8_fault wsX8_fault ({ frames := 0, cells := 0, slots := 0, locals := 0 }) (va_Pc [.ref h0] (cP dC dI [(h0, .inr (8, [.ref a1, .ref a2, .ref a3, .ref a4, .ref a5, .ref a6, .ref a7, .ref a8, .ref a9, .int j_faultKind, .int j_horseCount, .int j_tabletCount, .int j_riderCount, .int j_lineLength, .int j_hour]))] [] sz)) (vp_Si (fun r => r = j_faultKind)) 0 0 (fun _ => False) := by
  refine Met.ofW (cc := cX8_fault) (maxL := 1) (ret := (some .int)) (by decide) rfl ?_
  intro p e s m args below meth c s₁ B hml hv
  obtain ⟨rfl, hsz, hP, hK, hD0, hN⟩ := hv
  have hx := B.exec
  have hb := B.bytes
  have hr := B.returns
  have hts := atoms_spec (ws := wsX8_fault) B.pre
  have hown : s.vm.findClass RX8 = some m.cls := findClass_of_methodNamed B.named
  have hlocks := B.notSynchronized
  subst hsz
  have hin8 : ∀ w ∈ u_ws RX8 TX8 15, w ∈ wsX8_fault := by decide +kernel
  have hD := hD0
  have hP : va_P (dC, dI) vwCl [(h0, .inr (8, [.ref a1, .ref a2, .ref a3, .ref a4, .ref a5, .ref a6, .ref a7, .ref a8, .ref a9, .int j_faultKind, .int j_horseCount, .int j_tabletCount, .int j_riderCount, .int j_lineLength, .int j_hour]))] s.heap := hP
  have hl := lv_entry ([.ref h0]) (n := 1) (Nat.le_of_ble_eq_true rfl)
  rw [lg_entry_eq]
  generalize (lg_sl ([.ref h0]) ++ List.replicate (1 - (lg_sl ([.ref h0])).length) Slot.unset).toArray = ls at hl ⊢
  have hl : lv_has ls 1 [(0, .ref h0)] := hl
  refine lv_aload_n hx hb dX8_fault_0 rfl (lv_at hl 0 rfl) ?_
  refine va_get (D := (dC, dI)) (ci := 8) (v := .int j_faultKind) (C := RX8) (T := TX8) (N := 15) hx hb hts hin8 hown hK hP 0 rfl rfl 9 (by decide) (hts (.fieldLink RX8 85 "YamRiders" "faultKind" "I") (by decide +kernel)) (fun _ h9 => h9) rfl dX8_fault_1 ?_
  exact W.iret (v := j_faultKind) hx hb hr (fun t9 ht hW => ⟨_, rfl, rfl, ht⟩) (fun q h => nomatch h) dX8_fault_4
