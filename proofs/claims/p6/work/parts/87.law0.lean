set_option maxHeartbeats 4000000 in
set_option maxRecDepth 100000 in
theorem t_X8_end (l : Launch) (dC : Nat → ClassId) (dI : Nat → Nat → Nat) (cs : Nat → ClassId) (L : List Nat) (ka : Nat → Nat) (f : Nat → va_E) (h0 : Nat) (a1 : Nat) (a2 : Nat) (a3 : Nat) (a4 : Nat) (a5 : Nat) (a6 : Nat) (a7 : Nat) (a8 : Nat) (a9 : Nat) (j_faultKind : Int32) (j_horseCount : Int32) (j_tabletCount : Int32) (j_riderCount : Int32) (j_lineLength : Int32) (j_hour : Int32) (b1 : Nat) (ln9 : Nat) (p0 : Int32) (sz : Nat) (hT : tO L ka cs f) (hln : ln9 ≤ 200) : Met l yX8_end wsX8_end ({ frames := 0, cells := 0, slots := 0, locals := 0 }) (va_Pc [.ref h0, .int p0] (cP dC dI ([(h0, .inr (8, [.ref a1, .ref a2, .ref a3, .ref a4, .ref a5, .ref a6, .ref a7, .ref a8, .ref a9, .int j_faultKind, .int j_horseCount, .int j_tabletCount, .int j_riderCount, .int j_lineLength, .int j_hour])), (a1, .inr (7, [.ref b1, .int (nI ln9)]))] ++ va_pl L f) (tyC cs) sz)) (va_Qi (fun (r : Int32) (_ : Unit) => r = 0 ∨ r = 1) (fun (_ : Unit) t9 => ∃ (f2 : Nat → va_E) (l2 : Nat), (tO L ka cs f2) ∧ (l2 ≤ 200) ∧ cQ dC dI ([(h0, .inr (8, [.ref a1, .ref a2, .ref a3, .ref a4, .ref a5, .ref a6, .ref a7, .ref a8, .ref a9, .int j_faultKind, .int j_horseCount, .int j_tabletCount, .int j_riderCount, .int j_lineLength, .int j_hour])), (a1, .inr (7, [.ref b1, .int (nI l2)]))] ++ va_pl L f2) [] (va_A ([(h0, .inr (8, [.ref a1, .ref a2, .ref a3, .ref a4, .ref a5, .ref a6, .ref a7, .ref a8, .ref a9, .int j_faultKind, .int j_horseCount, .int j_tabletCount, .int j_riderCount, .int j_lineLength, .int j_hour])), (a1, .inr (7, [.ref b1, .int (nI ln9)]))] ++ va_pl L f) sz) t9) (va_A ([(h0, .inr (8, [.ref a1, .ref a2, .ref a3, .ref a4, .ref a5, .ref a6, .ref a7, .ref a8, .ref a9, .int j_faultKind, .int j_horseCount, .int j_tabletCount, .int j_riderCount, .int j_lineLength, .int j_hour])), (a1, .inr (7, [.ref b1, .int (nI ln9)]))] ++ va_pl L f) sz)) 0 0 (va_A ([(h0, .inr (8, [.ref a1, .ref a2, .ref a3, .ref a4, .ref a5, .ref a6, .ref a7, .ref a8, .ref a9, .int j_faultKind, .int j_horseCount, .int j_tabletCount, .int j_riderCount, .int j_lineLength, .int j_hour])), (a1, .inr (7, [.ref b1, .int (nI ln9)]))] ++ va_pl L f) sz) := by
  refine Met.ofW (cc := cX8_end) (maxL := 2) (ret := (some .boolean)) (by decide) rfl ?_
  intro p e s m args below meth c s₁ B hml hv
  obtain ⟨rfl, hsz, hP, hK, hD0, hN⟩ := hv
  have hx := B.exec
  have hb := B.bytes
  have hr := B.returns
  have hts := atoms_spec (ws := wsX8_end) B.pre
  have hown : s.vm.findClass RX8 = some m.cls := findClass_of_methodNamed B.named
  have hlocks := B.notSynchronized
  subst hsz
  have hin7 : ∀ w ∈ u_ws RX7 TX7 2, w ∈ wsX8_end := by decide +kernel
  have hin8 : ∀ w ∈ u_ws RX8 TX8 15, w ∈ wsX8_end := by decide +kernel
  have hD := hD0.self (sz := s.heap.size)
  generalize hAe : va_A ([(h0, .inr (8, [.ref a1, .ref a2, .ref a3, .ref a4, .ref a5, .ref a6, .ref a7, .ref a8, .ref a9, .int j_faultKind, .int j_horseCount, .int j_tabletCount, .int j_riderCount, .int j_lineLength, .int j_hour])), (a1, .inr (7, [.ref b1, .int (nI ln9)]))] ++ va_pl L f) s.heap.size = A at hD ⊢
  have hA : ∀ q : Nat, s.heap.size ≤ q → A q := fun q h => by rw [← hAe]; exact Or.inr h
  have hS : va_S A s.heap s.heap [] := va_S.rf
  have hP : va_P (dC, dI) vwCl ([(h0, .inr (8, [.ref a1, .ref a2, .ref a3, .ref a4, .ref a5, .ref a6, .ref a7, .ref a8, .ref a9, .int j_faultKind, .int j_horseCount, .int j_tabletCount, .int j_riderCount, .int j_lineLength, .int j_hour])), (a1, .inr (7, [.ref b1, .int (nI ln9)]))] ++ va_pl L f) s.heap := hP
  have hl := lv_entry ([.ref h0, .int p0]) (n := 2) (Nat.le_of_ble_eq_true rfl)
  rw [lg_entry_eq]
  generalize (lg_sl ([.ref h0, .int p0]) ++ List.replicate (2 - (lg_sl ([.ref h0, .int p0])).length) Slot.unset).toArray = ls at hl ⊢
  have hl : lv_has ls 2 [(0, .ref h0), (1, .int p0)] := hl
  refine lv_iload_n hx hb dX8_end_0 rfl (lv_at hl 1 rfl) ?_
  refine lv_if_lt (tgt := 15) hx hb dX8_end_1 (by decide) (fun c_1 => ?_) (fun c_1 => ?_)
  · refine lv_iconst (v := 0) hx hb dX8_end_15 (by decide) ?_
    have hP9 := hP.part (cx := [(h0, .inr (8, [.ref a1, .ref a2, .ref a3, .ref a4, .ref a5, .ref a6, .ref a7, .ref a8, .ref a9, .int j_faultKind, .int j_horseCount, .int j_tabletCount, .int j_riderCount, .int j_lineLength, .int j_hour])), (a1, .inr (7, [.ref b1, .int (nI ln9)]))]) [0, 1] rfl
    have hD9 := hD.part (cx := [(h0, .inr (8, [.ref a1, .ref a2, .ref a3, .ref a4, .ref a5, .ref a6, .ref a7, .ref a8, .ref a9, .int j_faultKind, .int j_horseCount, .int j_tabletCount, .int j_riderCount, .int j_lineLength, .int j_hour])), (a1, .inr (7, [.ref b1, .int (nI ln9)]))]) [0, 1] (by decide) rfl
    have hK9 := hK.sub (tys' := []) [] rfl
    refine W.widen (k := 0) (n := 0) (Nat.le_of_ble_eq_true rfl) (Nat.le_of_ble_eq_true rfl) ?_
    exact W.zret (v := 0) hx hb hr rfl (fun t9 ht hW => ⟨⟨_, (), rfl, (Or.inl rfl), f, ln9, hT, (by omega), by rw [ht]; exact hP9, va_K.moved hW.alike hK9, hD9⟩, hS.F ht⟩) hS.2.2 dX8_end_16
  · refine lv_iload_n hx hb dX8_end_4 rfl (lv_at hl 1 rfl) ?_
    refine lv_aload_n hx hb dX8_end_5 rfl (lv_at hl 0 rfl) ?_
    refine va_get (D := (dC, dI)) (ci := 8) (v := .ref a1) (C := RX8) (T := TX8) (N := 15) hx hb hts hin8 hown hK hP 0 rfl rfl 0 (by decide) (hts (.fieldLink RX8 10 "YamRiders" "tape" "LYamRiders$Tape;") (by decide +kernel)) (fun _ h9 => h9) rfl dX8_end_6 ?_
    refine va_getN (D := (dC, dI)) (ci := 7) (v := .int (nI ln9)) (C := RX7) (T := TX7) (N := 2) hx hb hts hin7 hown hK hP 1 rfl rfl 1 (by decide) (hN.nx (.fieldLinkNest RX8 70 "YamRiders$Tape" "length" "I" "YamRiders") (by decide +kernel)) (fun _ h9 => h9) rfl dX8_end_9 ?_
    refine lv_icmp_le (tgt := 17) hx hb dX8_end_12 (by decide) (fun c_2 => ?_) (fun c_2 => ?_)
    · refine lv_aload_n hx hb dX8_end_17 rfl (lv_at hl 0 rfl) ?_
      refine va_get (D := (dC, dI)) (ci := 8) (v := .ref a1) (C := RX8) (T := TX8) (N := 15) hx hb hts hin8 hown hK hP 0 rfl rfl 0 (by decide) (hts (.fieldLink RX8 10 "YamRiders" "tape" "LYamRiders$Tape;") (by decide +kernel)) (fun _ h9 => h9) rfl dX8_end_18 ?_
      refine lv_iload_n hx hb dX8_end_21 rfl (lv_at hl 1 rfl) ?_
      refine va_putN (D := (dC, dI)) (ci := 7) (v := .int p0) (ty := (tyX7 1)) (C := RX7) (T := TX7) (N := 2) hx hb hts hin7 tyX7 tyX7_ok nmX7 hown hK hP hD hS 1 rfl rfl 1 (by decide) (hN.nx (.fieldLinkNest RX8 70 "YamRiders$Tape" "length" "I" "YamRiders") (by decide +kernel)) (fun _ h9 => h9) rfl (by decide +kernel) rfl rfl (Nat.le_of_ble_eq_true rfl) dX8_end_22 (fun H locs hP hD hS => ?_)
      have hP : va_P (dC, dI) vwCl ([(h0, .inr (8, [.ref a1, .ref a2, .ref a3, .ref a4, .ref a5, .ref a6, .ref a7, .ref a8, .ref a9, .int j_faultKind, .int j_horseCount, .int j_tabletCount, .int j_riderCount, .int j_lineLength, .int j_hour])), (a1, .inr (7, [.ref b1, .int p0]))] ++ va_pl L f) H := hP
      have hD : va_D A ([(h0, .inr (8, [.ref a1, .ref a2, .ref a3, .ref a4, .ref a5, .ref a6, .ref a7, .ref a8, .ref a9, .int j_faultKind, .int j_horseCount, .int j_tabletCount, .int j_riderCount, .int j_lineLength, .int j_hour])), (a1, .inr (7, [.ref b1, .int p0]))] ++ va_pl L f) := hD
      refine lv_iconst (v := 1) hx hb dX8_end_25 (by decide) ?_
      obtain ⟨l2, hl2, rfl⟩ := e_n hln c_1 (Int32.not_lt.mpr c_2)
      have hP9 := hP.part (cx := [(h0, .inr (8, [.ref a1, .ref a2, .ref a3, .ref a4, .ref a5, .ref a6, .ref a7, .ref a8, .ref a9, .int j_faultKind, .int j_horseCount, .int j_tabletCount, .int j_riderCount, .int j_lineLength, .int j_hour])), (a1, .inr (7, [.ref b1, .int (nI l2)]))]) [0, 1] rfl
      have hD9 := hD.part (cx := [(h0, .inr (8, [.ref a1, .ref a2, .ref a3, .ref a4, .ref a5, .ref a6, .ref a7, .ref a8, .ref a9, .int j_faultKind, .int j_horseCount, .int j_tabletCount, .int j_riderCount, .int j_lineLength, .int j_hour])), (a1, .inr (7, [.ref b1, .int (nI l2)]))]) [0, 1] (by decide) rfl
      have hK9 := hK.sub (tys' := []) [] rfl
      refine W.widen (k := 0) (n := 0) (Nat.le_of_ble_eq_true rfl) (Nat.le_of_ble_eq_true rfl) ?_
      exact W.zret (v := 1) hx hb hr rfl (fun t9 ht hW => ⟨⟨_, (), rfl, (Or.inr rfl), f, l2, hT, (by omega), by rw [ht]; exact hP9, va_K.moved hW.alike hK9, hD9⟩, hS.F ht⟩) hS.2.2 dX8_end_26
    · refine lv_iconst (v := 0) hx hb dX8_end_15 (by decide) ?_
      have hP9 := hP.part (cx := [(h0, .inr (8, [.ref a1, .ref a2, .ref a3, .ref a4, .ref a5, .ref a6, .ref a7, .ref a8, .ref a9, .int j_faultKind, .int j_horseCount, .int j_tabletCount, .int j_riderCount, .int j_lineLength, .int j_hour])), (a1, .inr (7, [.ref b1, .int (nI ln9)]))]) [0, 1] rfl
      have hD9 := hD.part (cx := [(h0, .inr (8, [.ref a1, .ref a2, .ref a3, .ref a4, .ref a5, .ref a6, .ref a7, .ref a8, .ref a9, .int j_faultKind, .int j_horseCount, .int j_tabletCount, .int j_riderCount, .int j_lineLength, .int j_hour])), (a1, .inr (7, [.ref b1, .int (nI ln9)]))]) [0, 1] (by decide) rfl
      have hK9 := hK.sub (tys' := []) [] rfl
      refine W.widen (k := 0) (n := 0) (Nat.le_of_ble_eq_true rfl) (Nat.le_of_ble_eq_true rfl) ?_
      exact W.zret (v := 0) hx hb hr rfl (fun t9 ht hW => ⟨⟨_, (), rfl, (Or.inl rfl), f, ln9, hT, (by omega), by rw [ht]; exact hP9, va_K.moved hW.alike hK9, hD9⟩, hS.F ht⟩) hS.2.2 dX8_end_16

def lawT (cs : Nat → ClassId) (kl : ClassId) (k_tape : ClassId) (k_law : ClassId) (k_fresh : ClassId) (k_isTold : ClassId) (k_hours : ClassId) (k_snow : ClassId) (k_least : ClassId) (k_fodder : ClassId) (k_strength : ClassId) (k_stands : ClassId) (k_rank : ClassId) (k_voidSince : ClassId) (k_newsSince : ClassId) (k_ways : ClassId) (k_wayMany : ClassId) (k_tabletOf : ClassId) (k_state : ClassId) (k_come : ClassId) (k_cameIn : ClassId) (k_horseOf : ClassId) (k_due : ClassId) (k_time : ClassId) (k_brings : ClassId) (k_loose : ClassId) (k_asked : ClassId) (k_led : ClassId) (k_cost : ClassId) (k_left : ClassId) (k_wants : ClassId) (k_toGiver : ClassId) (k_toTaker : ClassId) (k_giverBy : ClassId) (k_takerBy : ClassId) : List (ClassId × FieldType) := [(cs 0, .int), (cs 1, .boolean), (cs 2, .array .int), (cs 3, .object "YamRiders$Horse"), (cs 4, .object "YamRiders$Tablet"), (cs 5, .object "YamRiders$Rider"), (kl, .long), (k_tape, .byte), (k_law, .int), (k_fresh, .int), (k_isTold, .boolean), (k_hours, .int), (k_snow, .int), (k_least, .int), (k_fodder, .int), (k_strength, .int), (k_stands, .int), (k_rank, .int), (k_voidSince, .int), (k_newsSince, .int), (k_ways, .int), (k_wayMany, .int), (k_tabletOf, .int), (k_state, .int), (k_come, .int), (k_cameIn, .int), (k_horseOf, .int), (k_due, .int), (k_time, .int), (k_brings, .int), (k_loose, .boolean), (k_asked, .boolean), (k_led, .int), (k_cost, .int), (k_left, .int), (k_wants, .int), (k_toGiver, .int), (k_toTaker, .int), (k_giverBy, .int), (k_takerBy, .int)]

theorem law_i {L j : Nat} (hL : L ≤ 3072) (hj : j ≤ 3072) (c : ¬ (Int32.ofNat L - 6) < nI j) : j + 6 ≤ L := by
  rw [lt_i] at c
  have e6 : (6 : Int32).toInt = 6 := by decide
  have eL : (Int32.ofNat L).toInt = (L : Int) := nI_toInt (n := L) (by omega)
  rw [s_i (by rw [eL, e6]; omega) (by rw [eL, e6]; omega), eL, e6, nI_toInt (by omega)] at c
  omega
theorem nI_k {j k : Nat} : nI j + nI k = nI (j + k) := nI_add j k
