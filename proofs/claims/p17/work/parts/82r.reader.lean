set_option maxHeartbeats 4000000 in
set_option maxRecDepth 100000 in
theorem s_X7_byteAt (l : Launch) (dC : Nat → ClassId) (dI : Nat → Nat → Nat) (h0 : Nat) (b1 : Nat) (k1 : ClassId) (a_b : Nat → Int32) (ln : Nat) (pl : Nat) (sz : Nat) (hln : ln ≤ 200) (hpl : pl < 2 ^ 31) : Met l yX7_byteAt wsX7_byteAt ({ frames := 0, cells := 0, slots := 0, locals := 0 }) (va_Pc [.ref h0, .int (nI pl)] (cP dC dI [(h0, .inr (7, [.ref b1, .int (nI ln)])), (b1, .inl (k1, 200, .inl a_b))] [(k1, .int)] sz)) (vp_Si (fun r => r = PBy a_b ln pl)) 0 0 (fun _ => False) := by
  refine Met.ofW (cc := cX7_byteAt) (maxL := 2) (ret := (some .int)) (by decide) rfl ?_
  intro p e s m args below meth c s₁ B hml hv
  obtain ⟨rfl, hsz, hP, hK, hD0, hN⟩ := hv
  have hx := B.exec
  have hb := B.bytes
  have hr := B.returns
  have hts := atoms_spec (ws := wsX7_byteAt) B.pre
  have hown : s.vm.findClass RX7 = some m.cls := findClass_of_methodNamed B.named
  have hlocks := B.notSynchronized
  subst hsz
  have hin7 : ∀ w ∈ u_ws RX7 TX7 2, w ∈ wsX7_byteAt := by decide +kernel
  have hD := hD0
  have hP : va_P (dC, dI) vwCl [(h0, .inr (7, [.ref b1, .int (nI ln)])), (b1, .inl (k1, 200, .inl a_b))] s.heap := hP
  have hl := lv_entry ([.ref h0, .int (nI pl)]) (n := 2) (Nat.le_of_ble_eq_true rfl)
  rw [lg_entry_eq]
  generalize (lg_sl ([.ref h0, .int (nI pl)]) ++ List.replicate (2 - (lg_sl ([.ref h0, .int (nI pl)])).length) Slot.unset).toArray = ls at hl ⊢
  have hl : lv_has ls 2 [(0, .ref h0), (1, .int (nI pl))] := hl
  refine lv_iload_n hx hb dX7_byteAt_0 rfl (lv_at hl 1 rfl) ?_
  refine lv_if_lt (tgt := 28) hx hb dX7_byteAt_1 (by decide) (fun c_1 => ?_) (fun c_1 => ?_)
  · refine lv_iconst (v := (-1)) hx hb dX7_byteAt_28 (by decide) ?_
    exact W.iret (v := (-1)) hx hb hr (fun t9 ht hW => ⟨_, rfl, (absurd c_1 (nI_pos (by omega))), ht⟩) (fun q h => nomatch h) dX7_byteAt_29
  · refine lv_iload_n hx hb dX7_byteAt_4 rfl (lv_at hl 1 rfl) ?_
    refine lv_aload_n hx hb dX7_byteAt_5 rfl (lv_at hl 0 rfl) ?_
    refine va_get (D := (dC, dI)) (ci := 7) (v := .int (nI ln)) (C := RX7) (T := TX7) (N := 2) hx hb hts hin7 hown hK hP 0 rfl rfl 1 (by decide) (hts (.fieldLink RX7 15 "YamRiders$Tape" "length" "I") (by decide +kernel)) (fun _ h9 => h9) rfl dX7_byteAt_6 ?_
    refine lv_icmp_ge (tgt := 28) hx hb dX7_byteAt_9 (by decide) (fun c_2 => ?_) (fun c_2 => ?_)
    · refine lv_iconst (v := (-1)) hx hb dX7_byteAt_28 (by decide) ?_
      exact W.iret (v := (-1)) hx hb hr (fun t9 ht hW => ⟨_, rfl, (PB_o ((nI_leI (by omega) (by omega)).mp c_2)).symm, ht⟩) (fun q h => nomatch h) dX7_byteAt_29
    · refine lv_iload_n hx hb dX7_byteAt_12 rfl (lv_at hl 1 rfl) ?_
      refine lv_sipush (v := 200) hx hb dX7_byteAt_13 (by decide) ?_
      refine lv_icmp_ge (tgt := 28) hx hb dX7_byteAt_16 (by decide) (fun c_3 => ?_) (fun c_3 => ?_)
      · refine lv_iconst (v := (-1)) hx hb dX7_byteAt_28 (by decide) ?_
        exact W.iret (v := (-1)) hx hb hr (fun t9 ht hW => ⟨_, rfl, (PB_o (by have h9 := (nI_leI (a := 200) (b := pl) (by decide) (by omega)).mp c_3; omega)).symm, ht⟩) (fun q h => nomatch h) dX7_byteAt_29
      · refine lv_aload_n hx hb dX7_byteAt_19 rfl (lv_at hl 0 rfl) ?_
        refine va_get (D := (dC, dI)) (ci := 7) (v := .ref b1) (C := RX7) (T := TX7) (N := 2) hx hb hts hin7 hown hK hP 0 rfl rfl 0 (by decide) (hts (.fieldLink RX7 9 "YamRiders$Tape" "bytes" "[I") (by decide +kernel)) (fun _ h9 => h9) rfl dX7_byteAt_20 ?_
        refine lv_iload_n hx hb dX7_byteAt_23 rfl (lv_at hl 1 rfl) ?_
        refine va_iald hx hb hK hP 1 0 rfl rfl (vp_in_nI (by have h9 := nI_nleq c_2 (by omega); omega) (by decide)) dX7_byteAt_24 ?_
        refine lv_topi (fun v_4 ev_4 => ?_)
        refine lv_goto (tgt := 29) hx hb dX7_byteAt_25 (by decide) ?_
        exact W.iret (v := v_4) hx hb hr (fun t9 ht hW => ⟨_, rfl, (ev_4.trans (by rw [nI_clamp (by omega)]; exact (PB_i (nI_nleq c_2 (by omega))).symm)), ht⟩) (fun q h => nomatch h) dX7_byteAt_29

set_option maxHeartbeats 4000000 in
set_option maxRecDepth 100000 in
theorem s_X4_isBlank (l : Launch) (dC : Nat → ClassId) (dI : Nat → Nat → Nat) (cs : Nat → ClassId) (L : List Nat) (ka : Nat → Nat) (ix : Nat → Nat) (ad : Nat → Nat → Nat) (n0 : Nat) (n6 : Nat) (n2 : Nat) (S : Nat → Nat → Nat → Int32) (f : Nat → va_E) (p0 : Int32) (sz : Nat) (hT : tB L ka ix ad cs n0 n6 n2 S f) : Met l yX4_isBlank wsX4_isBlank ({ frames := 0, cells := 0, slots := 0, locals := 0 }) (va_Pc [.int p0] (cP dC dI ([] ++ va_pl L f) (tyC cs) sz)) (vp_Si (fun r => r = bl p0)) 0 0 (fun _ => False) := by
  refine Met.ofW (cc := cX4_isBlank) (maxL := 1) (ret := (some .boolean)) (by decide) rfl ?_
  intro p e s m args below meth c s₁ B hml hv
  obtain ⟨rfl, hsz, hP, hK, hD0, hN⟩ := hv
  have hx := B.exec
  have hb := B.bytes
  have hr := B.returns
  have hts := atoms_spec (ws := wsX4_isBlank) B.pre
  have hown : s.vm.findClass RX4 = some m.cls := findClass_of_methodNamed B.named
  have hlocks := B.notSynchronized
  subst hsz
  have hD := hD0
  have hP : va_P (dC, dI) vwCl ([] ++ va_pl L f) s.heap := hP
  have hl := lv_entry ([.int p0]) (n := 1) (Nat.le_of_ble_eq_true rfl)
  rw [lg_entry_eq]
  generalize (lg_sl ([.int p0]) ++ List.replicate (1 - (lg_sl ([.int p0])).length) Slot.unset).toArray = ls at hl ⊢
  have hl : lv_has ls 1 [(0, .int p0)] := hl
  refine lv_iload_n hx hb dX4_isBlank_0 rfl (lv_at hl 0 rfl) ?_
  refine lv_bipush (v := 32) hx hb dX4_isBlank_1 (by decide) ?_
  refine lv_icmp_eq (tgt := 12) hx hb dX4_isBlank_3 (by decide) (fun c_1 => ?_) (fun c_1 => ?_)
  · refine lv_iconst (v := 1) hx hb dX4_isBlank_12 (by decide) ?_
    refine lv_goto (tgt := 17) hx hb dX4_isBlank_13 (by decide) ?_
    exact W.zret (v := 1) hx hb hr rfl (fun t9 ht hW => ⟨_, rfl, (by unfold bl; rw [if_pos c_1]), ht⟩) (fun q h => nomatch h) dX4_isBlank_17
  · refine lv_iload_n hx hb dX4_isBlank_6 rfl (lv_at hl 0 rfl) ?_
    refine lv_bipush (v := 10) hx hb dX4_isBlank_7 (by decide) ?_
    refine lv_icmp_ne (tgt := 16) hx hb dX4_isBlank_9 (by decide) (fun c_2 => ?_) (fun c_2 => ?_)
    · refine lv_iconst (v := 0) hx hb dX4_isBlank_16 (by decide) ?_
      exact W.zret (v := 0) hx hb hr rfl (fun t9 ht hW => ⟨_, rfl, (by unfold bl; rw [if_neg c_1, if_neg c_2]), ht⟩) (fun q h => nomatch h) dX4_isBlank_17
    · refine lv_iconst (v := 1) hx hb dX4_isBlank_12 (by decide) ?_
      refine lv_goto (tgt := 17) hx hb dX4_isBlank_13 (by decide) ?_
      exact W.zret (v := 1) hx hb hr rfl (fun t9 ht hW => ⟨_, rfl, (by unfold bl; rw [if_neg c_1, if_pos c_2]), ht⟩) (fun q h => nomatch h) dX4_isBlank_17

set_option maxHeartbeats 4000000 in
set_option maxRecDepth 100000 in
theorem s_X4_isSmallLetter (l : Launch) (dC : Nat → ClassId) (dI : Nat → Nat → Nat) (cs : Nat → ClassId) (L : List Nat) (ka : Nat → Nat) (ix : Nat → Nat) (ad : Nat → Nat → Nat) (n0 : Nat) (n6 : Nat) (n2 : Nat) (S : Nat → Nat → Nat → Int32) (f : Nat → va_E) (p0 : Int32) (sz : Nat) (hT : tB L ka ix ad cs n0 n6 n2 S f) : Met l yX4_isSmallLetter wsX4_isSmallLetter ({ frames := 0, cells := 0, slots := 0, locals := 0 }) (va_Pc [.int p0] (cP dC dI ([] ++ va_pl L f) (tyC cs) sz)) (vp_Si (fun r => yn (isS p0) r)) 0 0 (fun _ => False) := by
  refine Met.ofW (cc := cX4_isSmallLetter) (maxL := 1) (ret := (some .boolean)) (by decide) rfl ?_
  intro p e s m args below meth c s₁ B hml hv
  obtain ⟨rfl, hsz, hP, hK, hD0, hN⟩ := hv
  have hx := B.exec
  have hb := B.bytes
  have hr := B.returns
  have hts := atoms_spec (ws := wsX4_isSmallLetter) B.pre
  have hown : s.vm.findClass RX4 = some m.cls := findClass_of_methodNamed B.named
  have hlocks := B.notSynchronized
  subst hsz
  have hD := hD0
  have hP : va_P (dC, dI) vwCl ([] ++ va_pl L f) s.heap := hP
  have hl := lv_entry ([.int p0]) (n := 1) (Nat.le_of_ble_eq_true rfl)
  rw [lg_entry_eq]
  generalize (lg_sl ([.int p0]) ++ List.replicate (1 - (lg_sl ([.int p0])).length) Slot.unset).toArray = ls at hl ⊢
  have hl : lv_has ls 1 [(0, .int p0)] := hl
  refine lv_iload_n hx hb dX4_isSmallLetter_0 rfl (lv_at hl 0 rfl) ?_
  refine lv_bipush (v := 97) hx hb dX4_isSmallLetter_1 (by decide) ?_
  refine lv_icmp_lt (tgt := 16) hx hb dX4_isSmallLetter_3 (by decide) (fun c_1 => ?_) (fun c_1 => ?_)
  · refine lv_iconst (v := 0) hx hb dX4_isSmallLetter_16 (by decide) ?_
    exact W.zret (v := 0) hx hb hr rfl (fun t9 ht hW => ⟨_, rfl, (yn_0 (by have h0 := c_1; simp only [lt_i, le_i, c48, c57, c65, c90, c97, c122] at h0; unfold isS; omega)), ht⟩) (fun q h => nomatch h) dX4_isSmallLetter_17
  · refine lv_iload_n hx hb dX4_isSmallLetter_6 rfl (lv_at hl 0 rfl) ?_
    refine lv_bipush (v := 122) hx hb dX4_isSmallLetter_7 (by decide) ?_
    refine lv_icmp_gt (tgt := 16) hx hb dX4_isSmallLetter_9 (by decide) (fun c_2 => ?_) (fun c_2 => ?_)
    · refine lv_iconst (v := 0) hx hb dX4_isSmallLetter_16 (by decide) ?_
      exact W.zret (v := 0) hx hb hr rfl (fun t9 ht hW => ⟨_, rfl, (yn_0 (by have h0 := c_1; have h1 := c_2; simp only [lt_i, le_i, c48, c57, c65, c90, c97, c122] at h0 h1; unfold isS; omega)), ht⟩) (fun q h => nomatch h) dX4_isSmallLetter_17
    · refine lv_iconst (v := 1) hx hb dX4_isSmallLetter_12 (by decide) ?_
      refine lv_goto (tgt := 17) hx hb dX4_isSmallLetter_13 (by decide) ?_
      exact W.zret (v := 1) hx hb hr rfl (fun t9 ht hW => ⟨_, rfl, (yn_1 (by have h0 := c_1; have h1 := c_2; simp only [lt_i, le_i, c48, c57, c65, c90, c97, c122] at h0 h1; unfold isS; omega)), ht⟩) (fun q h => nomatch h) dX4_isSmallLetter_17

set_option maxHeartbeats 4000000 in
set_option maxRecDepth 100000 in
theorem s_X4_isDigit (l : Launch) (dC : Nat → ClassId) (dI : Nat → Nat → Nat) (cs : Nat → ClassId) (L : List Nat) (ka : Nat → Nat) (ix : Nat → Nat) (ad : Nat → Nat → Nat) (n0 : Nat) (n6 : Nat) (n2 : Nat) (S : Nat → Nat → Nat → Int32) (f : Nat → va_E) (p0 : Int32) (sz : Nat) (hT : tB L ka ix ad cs n0 n6 n2 S f) : Met l yX4_isDigit wsX4_isDigit ({ frames := 0, cells := 0, slots := 0, locals := 0 }) (va_Pc [.int p0] (cP dC dI ([] ++ va_pl L f) (tyC cs) sz)) (vp_Si (fun r => yn (isD p0) r)) 0 0 (fun _ => False) := by
  refine Met.ofW (cc := cX4_isDigit) (maxL := 1) (ret := (some .boolean)) (by decide) rfl ?_
  intro p e s m args below meth c s₁ B hml hv
  obtain ⟨rfl, hsz, hP, hK, hD0, hN⟩ := hv
  have hx := B.exec
  have hb := B.bytes
  have hr := B.returns
  have hts := atoms_spec (ws := wsX4_isDigit) B.pre
  have hown : s.vm.findClass RX4 = some m.cls := findClass_of_methodNamed B.named
  have hlocks := B.notSynchronized
  subst hsz
  have hD := hD0
  have hP : va_P (dC, dI) vwCl ([] ++ va_pl L f) s.heap := hP
  have hl := lv_entry ([.int p0]) (n := 1) (Nat.le_of_ble_eq_true rfl)
  rw [lg_entry_eq]
  generalize (lg_sl ([.int p0]) ++ List.replicate (1 - (lg_sl ([.int p0])).length) Slot.unset).toArray = ls at hl ⊢
  have hl : lv_has ls 1 [(0, .int p0)] := hl
  refine lv_iload_n hx hb dX4_isDigit_0 rfl (lv_at hl 0 rfl) ?_
  refine lv_bipush (v := 48) hx hb dX4_isDigit_1 (by decide) ?_
  refine lv_icmp_lt (tgt := 16) hx hb dX4_isDigit_3 (by decide) (fun c_1 => ?_) (fun c_1 => ?_)
  · refine lv_iconst (v := 0) hx hb dX4_isDigit_16 (by decide) ?_
    exact W.zret (v := 0) hx hb hr rfl (fun t9 ht hW => ⟨_, rfl, (yn_0 (by have h0 := c_1; simp only [lt_i, le_i, c48, c57, c65, c90, c97, c122] at h0; unfold isD; omega)), ht⟩) (fun q h => nomatch h) dX4_isDigit_17
  · refine lv_iload_n hx hb dX4_isDigit_6 rfl (lv_at hl 0 rfl) ?_
    refine lv_bipush (v := 57) hx hb dX4_isDigit_7 (by decide) ?_
    refine lv_icmp_gt (tgt := 16) hx hb dX4_isDigit_9 (by decide) (fun c_2 => ?_) (fun c_2 => ?_)
    · refine lv_iconst (v := 0) hx hb dX4_isDigit_16 (by decide) ?_
      exact W.zret (v := 0) hx hb hr rfl (fun t9 ht hW => ⟨_, rfl, (yn_0 (by have h0 := c_1; have h1 := c_2; simp only [lt_i, le_i, c48, c57, c65, c90, c97, c122] at h0 h1; unfold isD; omega)), ht⟩) (fun q h => nomatch h) dX4_isDigit_17
    · refine lv_iconst (v := 1) hx hb dX4_isDigit_12 (by decide) ?_
      refine lv_goto (tgt := 17) hx hb dX4_isDigit_13 (by decide) ?_
      exact W.zret (v := 1) hx hb hr rfl (fun t9 ht hW => ⟨_, rfl, (yn_1 (by have h0 := c_1; have h1 := c_2; simp only [lt_i, le_i, c48, c57, c65, c90, c97, c122] at h0 h1; unfold isD; omega)), ht⟩) (fun q h => nomatch h) dX4_isDigit_17

set_option maxHeartbeats 4000000 in
set_option maxRecDepth 100000 in
theorem s_X4_isLetterOrDigit (l : Launch) (dC : Nat → ClassId) (dI : Nat → Nat → Nat) (cs : Nat → ClassId) (L : List Nat) (ka : Nat → Nat) (ix : Nat → Nat) (ad : Nat → Nat → Nat) (n0 : Nat) (n6 : Nat) (n2 : Nat) (S : Nat → Nat → Nat → Int32) (f : Nat → va_E) (p0 : Int32) (sz : Nat) (hT : tB L ka ix ad cs n0 n6 n2 S f) : Met l yX4_isLetterOrDigit wsX4_isLetterOrDigit ({ frames := 0, cells := 0, slots := 0, locals := 0 }) (va_Pc [.int p0] (cP dC dI ([] ++ va_pl L f) (tyC cs) sz)) (vp_Si (fun r => yn (LOx p0) r)) 0 0 (fun _ => False) := by
  refine Met.ofW (cc := cX4_isLetterOrDigit) (maxL := 1) (ret := (some .boolean)) (by decide) rfl ?_
  intro p e s m args below meth c s₁ B hml hv
  obtain ⟨rfl, hsz, hP, hK, hD0, hN⟩ := hv
  have hx := B.exec
  have hb := B.bytes
  have hr := B.returns
  have hts := atoms_spec (ws := wsX4_isLetterOrDigit) B.pre
  have hown : s.vm.findClass RX4 = some m.cls := findClass_of_methodNamed B.named
  have hlocks := B.notSynchronized
  subst hsz
  have hD := hD0
  have hP : va_P (dC, dI) vwCl ([] ++ va_pl L f) s.heap := hP
  have hl := lv_entry ([.int p0]) (n := 1) (Nat.le_of_ble_eq_true rfl)
  rw [lg_entry_eq]
  generalize (lg_sl ([.int p0]) ++ List.replicate (1 - (lg_sl ([.int p0])).length) Slot.unset).toArray = ls at hl ⊢
  have hl : lv_has ls 1 [(0, .int p0)] := hl
  refine lv_iload_n hx hb dX4_isLetterOrDigit_0 rfl (lv_at hl 0 rfl) ?_
  refine lv_bipush (v := 97) hx hb dX4_isLetterOrDigit_1 (by decide) ?_
  refine lv_icmp_lt (tgt := 12) hx hb dX4_isLetterOrDigit_3 (by decide) (fun c_1 => ?_) (fun c_1 => ?_)
  · refine lv_iload_n hx hb dX4_isLetterOrDigit_12 rfl (lv_at hl 0 rfl) ?_
    refine lv_bipush (v := 65) hx hb dX4_isLetterOrDigit_13 (by decide) ?_
    refine lv_icmp_lt (tgt := 24) hx hb dX4_isLetterOrDigit_15 (by decide) (fun c_2 => ?_) (fun c_2 => ?_)
    · refine lv_iload_n hx hb dX4_isLetterOrDigit_24 rfl (lv_at hl 0 rfl) ?_
      refine lv_bipush (v := 48) hx hb dX4_isLetterOrDigit_25 (by decide) ?_
      refine lv_icmp_lt (tgt := 40) hx hb dX4_isLetterOrDigit_27 (by decide) (fun c_3 => ?_) (fun c_3 => ?_)
      · refine lv_iconst (v := 0) hx hb dX4_isLetterOrDigit_40 (by decide) ?_
        exact W.zret (v := 0) hx hb hr rfl (fun t9 ht hW => ⟨_, rfl, (yn_0 (by have h0 := c_1; have h1 := c_2; have h2 := c_3; simp only [lt_i, le_i, c48, c57, c65, c90, c97, c122] at h0 h1 h2; unfold LOx isS cap isD; omega)), ht⟩) (fun q h => nomatch h) dX4_isLetterOrDigit_41
      · refine lv_iload_n hx hb dX4_isLetterOrDigit_30 rfl (lv_at hl 0 rfl) ?_
        refine lv_bipush (v := 57) hx hb dX4_isLetterOrDigit_31 (by decide) ?_
        refine lv_icmp_gt (tgt := 40) hx hb dX4_isLetterOrDigit_33 (by decide) (fun c_4 => ?_) (fun c_4 => ?_)
        · refine lv_iconst (v := 0) hx hb dX4_isLetterOrDigit_40 (by decide) ?_
          exact W.zret (v := 0) hx hb hr rfl (fun t9 ht hW => ⟨_, rfl, (yn_0 (by have h0 := c_1; have h1 := c_2; have h2 := c_3; have h3 := c_4; simp only [lt_i, le_i, c48, c57, c65, c90, c97, c122] at h0 h1 h2 h3; unfold LOx isS cap isD; omega)), ht⟩) (fun q h => nomatch h) dX4_isLetterOrDigit_41
        · refine lv_iconst (v := 1) hx hb dX4_isLetterOrDigit_36 (by decide) ?_
          refine lv_goto (tgt := 41) hx hb dX4_isLetterOrDigit_37 (by decide) ?_
          exact W.zret (v := 1) hx hb hr rfl (fun t9 ht hW => ⟨_, rfl, (yn_1 (by have h0 := c_1; have h1 := c_2; have h2 := c_3; have h3 := c_4; simp only [lt_i, le_i, c48, c57, c65, c90, c97, c122] at h0 h1 h2 h3; unfold LOx isS cap isD; omega)), ht⟩) (fun q h => nomatch h) dX4_isLetterOrDigit_41
    · refine lv_iload_n hx hb dX4_isLetterOrDigit_18 rfl (lv_at hl 0 rfl) ?_
      refine lv_bipush (v := 90) hx hb dX4_isLetterOrDigit_19 (by decide) ?_
      refine lv_icmp_le (tgt := 36) hx hb dX4_isLetterOrDigit_21 (by decide) (fun c_5 => ?_) (fun c_5 => ?_)
      · refine lv_iconst (v := 1) hx hb dX4_isLetterOrDigit_36 (by decide) ?_
        refine lv_goto (tgt := 41) hx hb dX4_isLetterOrDigit_37 (by decide) ?_
        exact W.zret (v := 1) hx hb hr rfl (fun t9 ht hW => ⟨_, rfl, (yn_1 (by have h0 := c_1; have h1 := c_2; have h2 := c_5; simp only [lt_i, le_i, c48, c57, c65, c90, c97, c122] at h0 h1 h2; unfold LOx isS cap isD; omega)), ht⟩) (fun q h => nomatch h) dX4_isLetterOrDigit_41
      · refine lv_iload_n hx hb dX4_isLetterOrDigit_24 rfl (lv_at hl 0 rfl) ?_
        refine lv_bipush (v := 48) hx hb dX4_isLetterOrDigit_25 (by decide) ?_
        refine lv_icmp_lt (tgt := 40) hx hb dX4_isLetterOrDigit_27 (by decide) (fun c_6 => ?_) (fun c_6 => ?_)
        · refine lv_iconst (v := 0) hx hb dX4_isLetterOrDigit_40 (by decide) ?_
          exact W.zret (v := 0) hx hb hr rfl (fun t9 ht hW => ⟨_, rfl, (yn_0 (by have h0 := c_1; have h1 := c_2; have h2 := c_5; have h3 := c_6; simp only [lt_i, le_i, c48, c57, c65, c90, c97, c122] at h0 h1 h2 h3; unfold LOx isS cap isD; omega)), ht⟩) (fun q h => nomatch h) dX4_isLetterOrDigit_41
        · refine lv_iload_n hx hb dX4_isLetterOrDigit_30 rfl (lv_at hl 0 rfl) ?_
          refine lv_bipush (v := 57) hx hb dX4_isLetterOrDigit_31 (by decide) ?_
          refine lv_icmp_gt (tgt := 40) hx hb dX4_isLetterOrDigit_33 (by decide) (fun c_7 => ?_) (fun c_7 => ?_)
          · refine lv_iconst (v := 0) hx hb dX4_isLetterOrDigit_40 (by decide) ?_
            exact W.zret (v := 0) hx hb hr rfl (fun t9 ht hW => ⟨_, rfl, (yn_0 (by have h0 := c_1; have h1 := c_2; have h2 := c_5; have h3 := c_6; have h4 := c_7; simp only [lt_i, le_i, c48, c57, c65, c90, c97, c122] at h0 h1 h2 h3 h4; unfold LOx isS cap isD; omega)), ht⟩) (fun q h => nomatch h) dX4_isLetterOrDigit_41
          · refine lv_iconst (v := 1) hx hb dX4_isLetterOrDigit_36 (by decide) ?_
            refine lv_goto (tgt := 41) hx hb dX4_isLetterOrDigit_37 (by decide) ?_
            exact W.zret (v := 1) hx hb hr rfl (fun t9 ht hW => ⟨_, rfl, (yn_1 (by have h0 := c_1; have h1 := c_2; have h2 := c_5; have h3 := c_6; have h4 := c_7; simp only [lt_i, le_i, c48, c57, c65, c90, c97, c122] at h0 h1 h2 h3 h4; unfold LOx isS cap isD; omega)), ht⟩) (fun q h => nomatch h) dX4_isLetterOrDigit_41
  · refine lv_iload_n hx hb dX4_isLetterOrDigit_6 rfl (lv_at hl 0 rfl) ?_
    refine lv_bipush (v := 122) hx hb dX4_isLetterOrDigit_7 (by decide) ?_
    refine lv_icmp_le (tgt := 36) hx hb dX4_isLetterOrDigit_9 (by decide) (fun c_8 => ?_) (fun c_8 => ?_)
    · refine lv_iconst (v := 1) hx hb dX4_isLetterOrDigit_36 (by decide) ?_
      refine lv_goto (tgt := 41) hx hb dX4_isLetterOrDigit_37 (by decide) ?_
      exact W.zret (v := 1) hx hb hr rfl (fun t9 ht hW => ⟨_, rfl, (yn_1 (by have h0 := c_1; have h1 := c_8; simp only [lt_i, le_i, c48, c57, c65, c90, c97, c122] at h0 h1; unfold LOx isS cap isD; omega)), ht⟩) (fun q h => nomatch h) dX4_isLetterOrDigit_41
    · refine lv_iload_n hx hb dX4_isLetterOrDigit_12 rfl (lv_at hl 0 rfl) ?_
      refine lv_bipush (v := 65) hx hb dX4_isLetterOrDigit_13 (by decide) ?_
      refine lv_icmp_lt (tgt := 24) hx hb dX4_isLetterOrDigit_15 (by decide) (fun c_9 => ?_) (fun c_9 => ?_)
      · refine lv_iload_n hx hb dX4_isLetterOrDigit_24 rfl (lv_at hl 0 rfl) ?_
        refine lv_bipush (v := 48) hx hb dX4_isLetterOrDigit_25 (by decide) ?_
        refine lv_icmp_lt (tgt := 40) hx hb dX4_isLetterOrDigit_27 (by decide) (fun c_10 => ?_) (fun c_10 => ?_)
        · refine lv_iconst (v := 0) hx hb dX4_isLetterOrDigit_40 (by decide) ?_
          exact W.zret (v := 0) hx hb hr rfl (fun t9 ht hW => ⟨_, rfl, (yn_0 (by have h0 := c_1; have h1 := c_8; have h2 := c_9; have h3 := c_10; simp only [lt_i, le_i, c48, c57, c65, c90, c97, c122] at h0 h1 h2 h3; unfold LOx isS cap isD; omega)), ht⟩) (fun q h => nomatch h) dX4_isLetterOrDigit_41
        · refine lv_iload_n hx hb dX4_isLetterOrDigit_30 rfl (lv_at hl 0 rfl) ?_
          refine lv_bipush (v := 57) hx hb dX4_isLetterOrDigit_31 (by decide) ?_
          refine lv_icmp_gt (tgt := 40) hx hb dX4_isLetterOrDigit_33 (by decide) (fun c_11 => ?_) (fun c_11 => ?_)
          · refine lv_iconst (v := 0) hx hb dX4_isLetterOrDigit_40 (by decide) ?_
            exact W.zret (v := 0) hx hb hr rfl (fun t9 ht hW => ⟨_, rfl, (yn_0 (by have h0 := c_1; have h1 := c_8; have h2 := c_9; have h3 := c_10; have h4 := c_11; simp only [lt_i, le_i, c48, c57, c65, c90, c97, c122] at h0 h1 h2 h3 h4; unfold LOx isS cap isD; omega)), ht⟩) (fun q h => nomatch h) dX4_isLetterOrDigit_41
          · refine lv_iconst (v := 1) hx hb dX4_isLetterOrDigit_36 (by decide) ?_
            refine lv_goto (tgt := 41) hx hb dX4_isLetterOrDigit_37 (by decide) ?_
            exact W.zret (v := 1) hx hb hr rfl (fun t9 ht hW => ⟨_, rfl, (yn_1 (by have h0 := c_1; have h1 := c_8; have h2 := c_9; have h3 := c_10; have h4 := c_11; simp only [lt_i, le_i, c48, c57, c65, c90, c97, c122] at h0 h1 h2 h3 h4; unfold LOx isS cap isD; omega)), ht⟩) (fun q h => nomatch h) dX4_isLetterOrDigit_41
      · refine lv_iload_n hx hb dX4_isLetterOrDigit_18 rfl (lv_at hl 0 rfl) ?_
        refine lv_bipush (v := 90) hx hb dX4_isLetterOrDigit_19 (by decide) ?_
        refine lv_icmp_le (tgt := 36) hx hb dX4_isLetterOrDigit_21 (by decide) (fun c_12 => ?_) (fun c_12 => ?_)
        · refine lv_iconst (v := 1) hx hb dX4_isLetterOrDigit_36 (by decide) ?_
          refine lv_goto (tgt := 41) hx hb dX4_isLetterOrDigit_37 (by decide) ?_
          exact W.zret (v := 1) hx hb hr rfl (fun t9 ht hW => ⟨_, rfl, (yn_1 (by have h0 := c_1; have h1 := c_8; have h2 := c_9; have h3 := c_12; simp only [lt_i, le_i, c48, c57, c65, c90, c97, c122] at h0 h1 h2 h3; unfold LOx isS cap isD; omega)), ht⟩) (fun q h => nomatch h) dX4_isLetterOrDigit_41
        · refine lv_iload_n hx hb dX4_isLetterOrDigit_24 rfl (lv_at hl 0 rfl) ?_
          refine lv_bipush (v := 48) hx hb dX4_isLetterOrDigit_25 (by decide) ?_
          refine lv_icmp_lt (tgt := 40) hx hb dX4_isLetterOrDigit_27 (by decide) (fun c_13 => ?_) (fun c_13 => ?_)
          · refine lv_iconst (v := 0) hx hb dX4_isLetterOrDigit_40 (by decide) ?_
            exact W.zret (v := 0) hx hb hr rfl (fun t9 ht hW => ⟨_, rfl, (yn_0 (by have h0 := c_1; have h1 := c_8; have h2 := c_9; have h3 := c_12; have h4 := c_13; simp only [lt_i, le_i, c48, c57, c65, c90, c97, c122] at h0 h1 h2 h3 h4; unfold LOx isS cap isD; omega)), ht⟩) (fun q h => nomatch h) dX4_isLetterOrDigit_41
          · refine lv_iload_n hx hb dX4_isLetterOrDigit_30 rfl (lv_at hl 0 rfl) ?_
            refine lv_bipush (v := 57) hx hb dX4_isLetterOrDigit_31 (by decide) ?_
            refine lv_icmp_gt (tgt := 40) hx hb dX4_isLetterOrDigit_33 (by decide) (fun c_14 => ?_) (fun c_14 => ?_)
            · refine lv_iconst (v := 0) hx hb dX4_isLetterOrDigit_40 (by decide) ?_
              exact W.zret (v := 0) hx hb hr rfl (fun t9 ht hW => ⟨_, rfl, (yn_0 (by have h0 := c_1; have h1 := c_8; have h2 := c_9; have h3 := c_12; have h4 := c_13; have h5 := c_14; simp only [lt_i, le_i, c48, c57, c65, c90, c97, c122] at h0 h1 h2 h3 h4 h5; unfold LOx isS cap isD; omega)), ht⟩) (fun q h => nomatch h) dX4_isLetterOrDigit_41
            · refine lv_iconst (v := 1) hx hb dX4_isLetterOrDigit_36 (by decide) ?_
              refine lv_goto (tgt := 41) hx hb dX4_isLetterOrDigit_37 (by decide) ?_
              exact W.zret (v := 1) hx hb hr rfl (fun t9 ht hW => ⟨_, rfl, (yn_1 (by have h0 := c_1; have h1 := c_8; have h2 := c_9; have h3 := c_12; have h4 := c_13; have h5 := c_14; simp only [lt_i, le_i, c48, c57, c65, c90, c97, c122] at h0 h1 h2 h3 h4 h5; unfold LOx isS cap isD; omega)), ht⟩) (fun q h => nomatch h) dX4_isLetterOrDigit_41

set_option maxHeartbeats 4000000 in
set_option maxRecDepth 100000 in
theorem s_X5_leastFor (l : Launch) (dC : Nat → ClassId) (dI : Nat → Nat → Nat) (cs : Nat → ClassId) (L : List Nat) (ka : Nat → Nat) (ix : Nat → Nat) (ad : Nat → Nat → Nat) (n0 : Nat) (n6 : Nat) (n2 : Nat) (S : Nat → Nat → Nat → Int32) (f : Nat → va_E) (kk : Nat) (sz : Nat) (hT : tB L ka ix ad cs n0 n6 n2 S f) (hkk : kk < 6) : Met l yX5_leastFor wsX5_leastFor ({ frames := 0, cells := 0, slots := 0, locals := 0 }) (va_Pc [.int (nI kk)] (cP dC dI ([] ++ va_pl L f) (tyC cs) sz)) (vp_Si (fun r => r = lsK kk)) 0 0 (fun _ => False) := by
  refine Met.ofW (cc := cX5_leastFor) (maxL := 1) (ret := (some .int)) (by decide) rfl ?_
  intro p e s m args below meth c s₁ B hml hv
  obtain ⟨rfl, hsz, hP, hK, hD0, hN⟩ := hv
  have hx := B.exec
  have hb := B.bytes
  have hr := B.returns
  have hts := atoms_spec (ws := wsX5_leastFor) B.pre
  have hown : s.vm.findClass RX5 = some m.cls := findClass_of_methodNamed B.named
  have hlocks := B.notSynchronized
  subst hsz
  have hD := hD0
  have hP : va_P (dC, dI) vwCl ([] ++ va_pl L f) s.heap := hP
  have hl := lv_entry ([.int (nI kk)]) (n := 1) (Nat.le_of_ble_eq_true rfl)
  rw [lg_entry_eq]
  generalize (lg_sl ([.int (nI kk)]) ++ List.replicate (1 - (lg_sl ([.int (nI kk)])).length) Slot.unset).toArray = ls at hl ⊢
  have hl : lv_has ls 1 [(0, .int (nI kk))] := hl
  refine lv_iload_n hx hb dX5_leastFor_0 rfl (lv_at hl 0 rfl) ?_
  refine lv_if_ne (tgt := 8) hx hb dX5_leastFor_1 (by decide) (fun c_1 => ?_) (fun c_1 => ?_)
  · refine lv_iconst (v := 0) hx hb dX5_leastFor_8 (by decide) ?_
    exact W.iret (v := 0) hx hb hr (fun t9 ht hW => ⟨_, rfl, (by unfold lsK; rw [if_neg (fun q => c_1 (by rw [q]; rfl))]), ht⟩) (fun q h => nomatch h) dX5_leastFor_9
  · refine lv_iconst (v := 1) hx hb dX5_leastFor_4 (by decide) ?_
    refine lv_goto (tgt := 9) hx hb dX5_leastFor_5 (by decide) ?_
    exact W.iret (v := 1) hx hb hr (fun t9 ht hW => ⟨_, rfl, (by unfold lsK; rw [if_pos (nI_inJ (n := 0) c_1 (by omega) (by decide))]), ht⟩) (fun q h => nomatch h) dX5_leastFor_9

set_option maxHeartbeats 4000000 in
set_option maxRecDepth 100000 in
theorem s_X5_mostFor (l : Launch) (dC : Nat → ClassId) (dI : Nat → Nat → Nat) (cs : Nat → ClassId) (L : List Nat) (ka : Nat → Nat) (ix : Nat → Nat) (ad : Nat → Nat → Nat) (n0 : Nat) (n6 : Nat) (n2 : Nat) (S : Nat → Nat → Nat → Int32) (f : Nat → va_E) (kk : Nat) (sz : Nat) (hT : tB L ka ix ad cs n0 n6 n2 S f) (hkk : kk < 6) : Met l yX5_mostFor wsX5_mostFor ({ frames := 0, cells := 0, slots := 0, locals := 0 }) (va_Pc [.int (nI kk)] (cP dC dI ([] ++ va_pl L f) (tyC cs) sz)) (vp_Si (fun r => r = msK kk)) 0 0 (fun _ => False) := by
  refine Met.ofW (cc := cX5_mostFor) (maxL := 1) (ret := (some .int)) (by decide) rfl ?_
  intro p e s m args below meth c s₁ B hml hv
  obtain ⟨rfl, hsz, hP, hK, hD0, hN⟩ := hv
  have hx := B.exec
  have hb := B.bytes
  have hr := B.returns
  have hts := atoms_spec (ws := wsX5_mostFor) B.pre
  have hown : s.vm.findClass RX5 = some m.cls := findClass_of_methodNamed B.named
  have hlocks := B.notSynchronized
  subst hsz
  have hD := hD0
  have hP : va_P (dC, dI) vwCl ([] ++ va_pl L f) s.heap := hP
  have hl := lv_entry ([.int (nI kk)]) (n := 1) (Nat.le_of_ble_eq_true rfl)
  rw [lg_entry_eq]
  generalize (lg_sl ([.int (nI kk)]) ++ List.replicate (1 - (lg_sl ([.int (nI kk)])).length) Slot.unset).toArray = ls at hl ⊢
  have hl : lv_has ls 1 [(0, .int (nI kk))] := hl
  refine lv_iload_n hx hb dX5_mostFor_0 rfl (lv_at hl 0 rfl) ?_
  refine lv_if_ne (tgt := 7) hx hb dX5_mostFor_1 (by decide) (fun c_1 => ?_) (fun c_1 => ?_)
  · refine lv_iload_n hx hb dX5_mostFor_7 rfl (lv_at hl 0 rfl) ?_
    refine lv_iconst (v := 3) hx hb dX5_mostFor_8 (by decide) ?_
    refine lv_icmp_ge (tgt := 17) hx hb dX5_mostFor_9 (by decide) (fun c_2 => ?_) (fun c_2 => ?_)
    · refine lv_bipush (v := 20) hx hb dX5_mostFor_17 (by decide) ?_
      exact W.iret (v := 20) hx hb hr (fun t9 ht hW => ⟨_, rfl, (by unfold msK; rw [if_neg (fun q => c_1 (by rw [q]; rfl)), if_neg (by have h9 := (nI_leI (a := 3) (b := kk) (by decide) (by omega)).mp c_2; omega)]), ht⟩) (fun q h => nomatch h) dX5_mostFor_19
    · refine lv_bipush (v := 50) hx hb dX5_mostFor_12 (by decide) ?_
      refine lv_goto (tgt := 19) hx hb dX5_mostFor_14 (by decide) ?_
      exact W.iret (v := 50) hx hb hr (fun t9 ht hW => ⟨_, rfl, (by unfold msK; rw [if_neg (fun q => c_1 (by rw [q]; rfl)), if_pos (nI_nleq (n := 3) c_2 (by omega))]), ht⟩) (fun q h => nomatch h) dX5_mostFor_19
  · refine lv_bipush (v := 9) hx hb dX5_mostFor_4 (by decide) ?_
    exact W.iret (v := 9) hx hb hr (fun t9 ht hW => ⟨_, rfl, (by unfold msK; rw [if_pos (nI_inJ (n := 0) c_1 (by omega) (by decide))]), ht⟩) (fun q h => nomatch h) dX5_mostFor_6

set_option maxHeartbeats 4000000 in
set_option maxRecDepth 100000 in
theorem s_X5_tell (l : Launch) (dC : Nat → ClassId) (dI : Nat → Nat → Nat) (cs : Nat → ClassId) (L : List Nat) (ka : Nat → Nat) (ix : Nat → Nat) (ad : Nat → Nat → Nat) (n0 : Nat) (n6 : Nat) (n2 : Nat) (S : Nat → Nat → Nat → Int32) (f : Nat → va_E) (h0 : Nat) (n1 : Nat) (a_n : Nat → Int32) (kk : Nat) (p1 : Int32) (sz : Nat) (hT : tB L ka ix ad cs n0 n6 n2 S f) (hkk : kk < 6) : Met l yX5_tell wsX5_tell ({ frames := 0, cells := 0, slots := 0, locals := 0 }) (va_Pc [.ref h0, .int (nI kk), .int p1] (cP dC dI ([(h0, .inr (5, [.ref n1])), (n1, .inl (cs 0, 6, .inl a_n))] ++ va_pl L f) (tyC cs) sz)) (va_Qv (fun (_ : Unit) => True) (fun (_ : Unit) t9 => ∃ (f_n : Nat → Int32), (f_n = upd a_n kk p1) ∧ cQ dC dI ([(h0, .inr (5, [.ref n1])), (n1, .inl (cs 0, 6, .inl f_n))] ++ va_pl L f) [] (va_A ([(h0, .inr (5, [.ref n1])), (n1, .inl (cs 0, 6, .inl a_n))] ++ va_pl L f) sz) t9) (va_A ([(h0, .inr (5, [.ref n1])), (n1, .inl (cs 0, 6, .inl a_n))] ++ va_pl L f) sz)) 0 0 (va_A ([(h0, .inr (5, [.ref n1])), (n1, .inl (cs 0, 6, .inl a_n))] ++ va_pl L f) sz) := by
  refine Met.ofW (cc := cX5_tell) (maxL := 3) (ret := none) (by decide) rfl ?_
  intro p e s m args below meth c s₁ B hml hv
  obtain ⟨rfl, hsz, hP, hK, hD0, hN⟩ := hv
  have hx := B.exec
  have hb := B.bytes
  have hr := B.returns
  have hts := atoms_spec (ws := wsX5_tell) B.pre
  have hown : s.vm.findClass RX5 = some m.cls := findClass_of_methodNamed B.named
  have hlocks := B.notSynchronized
  subst hsz
  have hin5 : ∀ w ∈ u_ws RX5 TX5 1, w ∈ wsX5_tell := by decide +kernel
  have hD := hD0.self (sz := s.heap.size)
  generalize hAe : va_A ([(h0, .inr (5, [.ref n1])), (n1, .inl (cs 0, 6, .inl a_n))] ++ va_pl L f) s.heap.size = A at hD ⊢
  have hA : ∀ q : Nat, s.heap.size ≤ q → A q := fun q h => by rw [← hAe]; exact Or.inr h
  have hS : va_S A s.heap s.heap [] := va_S.rf
  have hP : va_P (dC, dI) vwCl ([(h0, .inr (5, [.ref n1])), (n1, .inl (cs 0, 6, .inl a_n))] ++ va_pl L f) s.heap := hP
  have hl := lv_entry ([.ref h0, .int (nI kk), .int p1]) (n := 3) (Nat.le_of_ble_eq_true rfl)
  rw [lg_entry_eq]
  generalize (lg_sl ([.ref h0, .int (nI kk), .int p1]) ++ List.replicate (3 - (lg_sl ([.ref h0, .int (nI kk), .int p1])).length) Slot.unset).toArray = ls at hl ⊢
  have hl : lv_has ls 3 [(0, .ref h0), (1, .int (nI kk)), (2, .int p1)] := hl
  refine lv_iload_n hx hb dX5_tell_0 rfl (lv_at hl 1 rfl) ?_
  refine lv_if_lt (tgt := 17) hx hb dX5_tell_1 (by decide) (fun c_1 => by first | exact absurd c_1 (nI_pos (by omega)) | exact absurd (nI_pos (by omega)) c_1) (fun _ => ?_)
  refine lv_iload_n hx hb dX5_tell_4 rfl (lv_at hl 1 rfl) ?_
  refine lv_bipush (v := 6) hx hb dX5_tell_5 (by decide) ?_
  refine lv_icmp_ge (tgt := 17) hx hb dX5_tell_7 (by decide) (fun c_2 => by first | exact absurd c_2 (nI_ge (a := kk) (b := 6) hkk (by decide)) | exact absurd (nI_ge (a := kk) (b := 6) hkk (by decide)) c_2) (fun _ => ?_)
  refine lv_aload_n hx hb dX5_tell_10 rfl (lv_at hl 0 rfl) ?_
  refine va_get (D := (dC, dI)) (ci := 5) (v := .ref n1) (C := RX5) (T := TX5) (N := 1) hx hb hts hin5 hown hK hP 0 rfl rfl 0 (by decide) (hts (.fieldLink RX5 11 "YamRiders$Statutes" "numbers" "[I") (by decide +kernel)) (fun _ h9 => h9) rfl dX5_tell_11 ?_
  refine lv_iload_n hx hb dX5_tell_14 rfl (lv_at hl 1 rfl) ?_
  refine lv_iload_n hx hb dX5_tell_15 rfl (lv_at hl 2 rfl) ?_
  refine va_iast hx hb hK hP hD hS 1 0 rfl rfl (vp_in_nI (by omega) (by omega)) dX5_tell_16 (fun H locs hP hD hS => ?_)
  have hP : va_P (dC, dI) vwCl ([(h0, .inr (5, [.ref n1])), (n1, .inl (cs 0, 6, .inl (upd a_n (nI kk).toNatClampNeg p1)))] ++ va_pl L f) H := hP
  have hD : va_D A ([(h0, .inr (5, [.ref n1])), (n1, .inl (cs 0, 6, .inl (upd a_n (nI kk).toNatClampNeg p1)))] ++ va_pl L f) := hD
  obtain ⟨f_3, ef_3⟩ : ∃ w9 : Nat → Int32, w9 = upd a_n (nI kk).toNatClampNeg p1 := ⟨_, rfl⟩
  rw [← ef_3] at hP hD
  have hP9 := hP.part (cx := [(h0, .inr (5, [.ref n1])), (n1, .inl (cs 0, 6, .inl f_3))]) [0, 1] rfl
  have hD9 := hD.part (cx := [(h0, .inr (5, [.ref n1])), (n1, .inl (cs 0, 6, .inl f_3))]) [0, 1] (by decide) rfl
  have hK9 := hK.sub (tys' := []) [] rfl
  refine W.widen (k := 0) (n := 0) (Nat.le_of_ble_eq_true rfl) (Nat.le_of_ble_eq_true rfl) ?_
  exact W.vret hx hb hr (fun t9 ht hW => ⟨⟨(), rfl, trivial, f_3, (by rw [ef_3, nI_clamp (by omega)]), by rw [ht]; exact hP9, va_K.moved hW.alike hK9, hD9⟩, hS.F ht⟩) hS.2.2 dX5_tell_17

set_option maxHeartbeats 4000000 in
set_option maxRecDepth 100000 in
theorem s_X4_stopAtToken (l : Launch) (dC : Nat → ClassId) (dI : Nat → Nat → Nat) (cs : Nat → ClassId) (L : List Nat) (ka : Nat → Nat) (ix : Nat → Nat) (ad : Nat → Nat → Nat) (n0 : Nat) (n6 : Nat) (n2 : Nat) (S : Nat → Nat → Nat → Int32) (f : Nat → va_E) (h0 : Nat) (t1 : Nat) (t2 : Nat) (t3 : Nat) (i_ruleCount : Int32) (i_faultKind : Int32) (i_faultPlace : Int32) (i_place : Int32) (i_token : Int32) (i_tokenPlace : Int32) (i_value : Int32) (p0 : Int32) (sz : Nat) (hT : tB L ka ix ad cs n0 n6 n2 S f) (hp0 : ¬ p0 = 0) : Met l yX4_stopAtToken wsX4_stopAtToken ({ frames := 0, cells := 0, slots := 0, locals := 0 }) (va_Pc [.ref h0, .int p0] (cP dC dI ([(h0, .inr (4, [.ref t1, .ref t2, .ref t3, .int i_ruleCount, .int i_faultKind, .int i_faultPlace, .int i_place, .int i_token, .int i_tokenPlace, .int i_value]))] ++ va_pl L f) (tyC cs) sz)) (va_Qi (fun (r : Int32) (_ : Unit) => r = 0) (fun (_ : Unit) t9 => ∃ (fk2 : Int32), (¬ fk2 = 0) ∧ cQ dC dI ([(h0, .inr (4, [.ref t1, .ref t2, .ref t3, .int i_ruleCount, .int fk2, .int i_tokenPlace, .int i_place, .int i_token, .int i_tokenPlace, .int i_value]))] ++ va_pl L f) [] (va_A ([(h0, .inr (4, [.ref t1, .ref t2, .ref t3, .int i_ruleCount, .int i_faultKind, .int i_faultPlace, .int i_place, .int i_token, .int i_tokenPlace, .int i_value]))] ++ va_pl L f) sz) t9) (va_A ([(h0, .inr (4, [.ref t1, .ref t2, .ref t3, .int i_ruleCount, .int i_faultKind, .int i_faultPlace, .int i_place, .int i_token, .int i_tokenPlace, .int i_value]))] ++ va_pl L f) sz)) 0 0 (va_A ([(h0, .inr (4, [.ref t1, .ref t2, .ref t3, .int i_ruleCount, .int i_faultKind, .int i_faultPlace, .int i_place, .int i_token, .int i_tokenPlace, .int i_value]))] ++ va_pl L f) sz) := by
  refine Met.ofW (cc := cX4_stopAtToken) (maxL := 2) (ret := (some .boolean)) (by decide) rfl ?_
  intro p e s m args below meth c s₁ B hml hv
  obtain ⟨rfl, hsz, hP, hK, hD0, hN⟩ := hv
  have hx := B.exec
  have hb := B.bytes
  have hr := B.returns
  have hts := atoms_spec (ws := wsX4_stopAtToken) B.pre
  have hown : s.vm.findClass RX4 = some m.cls := findClass_of_methodNamed B.named
  have hlocks := B.notSynchronized
  subst hsz
  have hin4 : ∀ w ∈ u_ws RX4 TX4 10, w ∈ wsX4_stopAtToken := by decide +kernel
  have hD := hD0.self (sz := s.heap.size)
  generalize hAe : va_A ([(h0, .inr (4, [.ref t1, .ref t2, .ref t3, .int i_ruleCount, .int i_faultKind, .int i_faultPlace, .int i_place, .int i_token, .int i_tokenPlace, .int i_value]))] ++ va_pl L f) s.heap.size = A at hD ⊢
  have hA : ∀ q : Nat, s.heap.size ≤ q → A q := fun q h => by rw [← hAe]; exact Or.inr h
  have hS : va_S A s.heap s.heap [] := va_S.rf
  have hP : va_P (dC, dI) vwCl ([(h0, .inr (4, [.ref t1, .ref t2, .ref t3, .int i_ruleCount, .int i_faultKind, .int i_faultPlace, .int i_place, .int i_token, .int i_tokenPlace, .int i_value]))] ++ va_pl L f) s.heap := hP
  have hl := lv_entry ([.ref h0, .int p0]) (n := 2) (Nat.le_of_ble_eq_true rfl)
  rw [lg_entry_eq]
  generalize (lg_sl ([.ref h0, .int p0]) ++ List.replicate (2 - (lg_sl ([.ref h0, .int p0])).length) Slot.unset).toArray = ls at hl ⊢
  have hl : lv_has ls 2 [(0, .ref h0), (1, .int p0)] := hl
  refine lv_aload_n hx hb dX4_stopAtToken_0 rfl (lv_at hl 0 rfl) ?_
  refine lv_aload_n hx hb dX4_stopAtToken_1 rfl (lv_at hl 0 rfl) ?_
  refine va_get (D := (dC, dI)) (ci := 4) (v := .int i_token) (C := RX4) (T := TX4) (N := 10) hx hb hts hin4 hown hK hP 0 rfl rfl 7 (by decide) (hts (.fieldLink RX4 29 "YamRiders$StatuteReader" "token" "I") (by decide +kernel)) (fun _ h9 => h9) rfl dX4_stopAtToken_2 ?_
  refine lv_iconst (v := 4) hx hb dX4_stopAtToken_5 (by decide) ?_
  refine lv_icmp_ne (tgt := 13) hx hb dX4_stopAtToken_6 (by decide) (fun c_1 => ?_) (fun c_1 => ?_)
  · refine lv_iload_n hx hb dX4_stopAtToken_13 rfl (lv_at hl 1 rfl) ?_
    refine va_put (D := (dC, dI)) (ci := 4) (v := .int p0) (ty := (tyX4 4)) (C := RX4) (T := TX4) (N := 10) hx hb hts hin4 tyX4 tyX4_ok nmX4 hown hK hP hD hS 0 rfl rfl 4 (by decide) (hts (.fieldLink RX4 87 "YamRiders$StatuteReader" "faultKind" "I") (by decide +kernel)) (fun _ h9 => h9) rfl (by decide +kernel) rfl rfl (Nat.le_of_ble_eq_true rfl) dX4_stopAtToken_14 (fun H locs hP hD hS => ?_)
    have hP : va_P (dC, dI) vwCl ([(h0, .inr (4, [.ref t1, .ref t2, .ref t3, .int i_ruleCount, .int p0, .int i_faultPlace, .int i_place, .int i_token, .int i_tokenPlace, .int i_value]))] ++ va_pl L f) H := hP
    have hD : va_D A ([(h0, .inr (4, [.ref t1, .ref t2, .ref t3, .int i_ruleCount, .int p0, .int i_faultPlace, .int i_place, .int i_token, .int i_tokenPlace, .int i_value]))] ++ va_pl L f) := hD
    refine lv_aload_n hx hb dX4_stopAtToken_17 rfl (lv_at hl 0 rfl) ?_
    refine lv_aload_n hx hb dX4_stopAtToken_18 rfl (lv_at hl 0 rfl) ?_
    refine va_get (D := (dC, dI)) (ci := 4) (v := .int i_tokenPlace) (C := RX4) (T := TX4) (N := 10) hx hb hts hin4 hown hK hP 0 rfl rfl 8 (by decide) (hts (.fieldLink RX4 90 "YamRiders$StatuteReader" "tokenPlace" "I") (by decide +kernel)) (fun _ h9 => h9) rfl dX4_stopAtToken_19 ?_
    refine va_put (D := (dC, dI)) (ci := 4) (v := .int i_tokenPlace) (ty := (tyX4 5)) (C := RX4) (T := TX4) (N := 10) hx hb hts hin4 tyX4 tyX4_ok nmX4 hown hK hP hD hS 0 rfl rfl 5 (by decide) (hts (.fieldLink RX4 93 "YamRiders$StatuteReader" "faultPlace" "I") (by decide +kernel)) (fun _ h9 => h9) rfl (by decide +kernel) rfl rfl (Nat.le_of_ble_eq_true rfl) dX4_stopAtToken_22 (fun H locs hP hD hS => ?_)
    have hP : va_P (dC, dI) vwCl ([(h0, .inr (4, [.ref t1, .ref t2, .ref t3, .int i_ruleCount, .int p0, .int i_tokenPlace, .int i_place, .int i_token, .int i_tokenPlace, .int i_value]))] ++ va_pl L f) H := hP
    have hD : va_D A ([(h0, .inr (4, [.ref t1, .ref t2, .ref t3, .int i_ruleCount, .int p0, .int i_tokenPlace, .int i_place, .int i_token, .int i_tokenPlace, .int i_value]))] ++ va_pl L f) := hD
    refine lv_iconst (v := 0) hx hb dX4_stopAtToken_25 (by decide) ?_
    have hP9 := hP.part (cx := [(h0, .inr (4, [.ref t1, .ref t2, .ref t3, .int i_ruleCount, .int p0, .int i_tokenPlace, .int i_place, .int i_token, .int i_tokenPlace, .int i_value]))]) [0] rfl
    have hD9 := hD.part (cx := [(h0, .inr (4, [.ref t1, .ref t2, .ref t3, .int i_ruleCount, .int p0, .int i_tokenPlace, .int i_place, .int i_token, .int i_tokenPlace, .int i_value]))]) [0] (by decide) rfl
    have hK9 := hK.sub (tys' := []) [] rfl
    refine W.widen (k := 0) (n := 0) (Nat.le_of_ble_eq_true rfl) (Nat.le_of_ble_eq_true rfl) ?_
    exact W.zret (v := 0) hx hb hr rfl (fun t9 ht hW => ⟨⟨_, (), rfl, rfl, p0, hp0, by rw [ht]; exact hP9, va_K.moved hW.alike hK9, hD9⟩, hS.F ht⟩) hS.2.2 dX4_stopAtToken_26
  · refine lv_iconst (v := 1) hx hb dX4_stopAtToken_9 (by decide) ?_
    refine lv_goto (tgt := 14) hx hb dX4_stopAtToken_10 (by decide) ?_
    refine va_put (D := (dC, dI)) (ci := 4) (v := .int 1) (ty := (tyX4 4)) (C := RX4) (T := TX4) (N := 10) hx hb hts hin4 tyX4 tyX4_ok nmX4 hown hK hP hD hS 0 rfl rfl 4 (by decide) (hts (.fieldLink RX4 87 "YamRiders$StatuteReader" "faultKind" "I") (by decide +kernel)) (fun _ h9 => h9) rfl (by decide +kernel) rfl rfl (Nat.le_of_ble_eq_true rfl) dX4_stopAtToken_14 (fun H locs hP hD hS => ?_)
    have hP : va_P (dC, dI) vwCl ([(h0, .inr (4, [.ref t1, .ref t2, .ref t3, .int i_ruleCount, .int 1, .int i_faultPlace, .int i_place, .int i_token, .int i_tokenPlace, .int i_value]))] ++ va_pl L f) H := hP
    have hD : va_D A ([(h0, .inr (4, [.ref t1, .ref t2, .ref t3, .int i_ruleCount, .int 1, .int i_faultPlace, .int i_place, .int i_token, .int i_tokenPlace, .int i_value]))] ++ va_pl L f) := hD
    refine lv_aload_n hx hb dX4_stopAtToken_17 rfl (lv_at hl 0 rfl) ?_
    refine lv_aload_n hx hb dX4_stopAtToken_18 rfl (lv_at hl 0 rfl) ?_
    refine va_get (D := (dC, dI)) (ci := 4) (v := .int i_tokenPlace) (C := RX4) (T := TX4) (N := 10) hx hb hts hin4 hown hK hP 0 rfl rfl 8 (by decide) (hts (.fieldLink RX4 90 "YamRiders$StatuteReader" "tokenPlace" "I") (by decide +kernel)) (fun _ h9 => h9) rfl dX4_stopAtToken_19 ?_
    refine va_put (D := (dC, dI)) (ci := 4) (v := .int i_tokenPlace) (ty := (tyX4 5)) (C := RX4) (T := TX4) (N := 10) hx hb hts hin4 tyX4 tyX4_ok nmX4 hown hK hP hD hS 0 rfl rfl 5 (by decide) (hts (.fieldLink RX4 93 "YamRiders$StatuteReader" "faultPlace" "I") (by decide +kernel)) (fun _ h9 => h9) rfl (by decide +kernel) rfl rfl (Nat.le_of_ble_eq_true rfl) dX4_stopAtToken_22 (fun H locs hP hD hS => ?_)
    have hP : va_P (dC, dI) vwCl ([(h0, .inr (4, [.ref t1, .ref t2, .ref t3, .int i_ruleCount, .int 1, .int i_tokenPlace, .int i_place, .int i_token, .int i_tokenPlace, .int i_value]))] ++ va_pl L f) H := hP
    have hD : va_D A ([(h0, .inr (4, [.ref t1, .ref t2, .ref t3, .int i_ruleCount, .int 1, .int i_tokenPlace, .int i_place, .int i_token, .int i_tokenPlace, .int i_value]))] ++ va_pl L f) := hD
    refine lv_iconst (v := 0) hx hb dX4_stopAtToken_25 (by decide) ?_
    have hP9 := hP.part (cx := [(h0, .inr (4, [.ref t1, .ref t2, .ref t3, .int i_ruleCount, .int 1, .int i_tokenPlace, .int i_place, .int i_token, .int i_tokenPlace, .int i_value]))]) [0] rfl
    have hD9 := hD.part (cx := [(h0, .inr (4, [.ref t1, .ref t2, .ref t3, .int i_ruleCount, .int 1, .int i_tokenPlace, .int i_place, .int i_token, .int i_tokenPlace, .int i_value]))]) [0] (by decide) rfl
    have hK9 := hK.sub (tys' := []) [] rfl
    refine W.widen (k := 0) (n := 0) (Nat.le_of_ble_eq_true rfl) (Nat.le_of_ble_eq_true rfl) ?_
    exact W.zret (v := 0) hx hb hr rfl (fun t9 ht hW => ⟨⟨_, (), rfl, rfl, 1, (by decide), by rw [ht]; exact hP9, va_K.moved hW.alike hK9, hD9⟩, hS.F ht⟩) hS.2.2 dX4_stopAtToken_26

set_option maxHeartbeats 4000000 in
set_option maxRecDepth 100000 in
theorem s_X4_isNumberWithin (l : Launch) (dC : Nat → ClassId) (dI : Nat → Nat → Nat) (cs : Nat → ClassId) (L : List Nat) (ka : Nat → Nat) (ix : Nat → Nat) (ad : Nat → Nat → Nat) (n0 : Nat) (n6 : Nat) (n2 : Nat) (S : Nat → Nat → Nat → Int32) (f : Nat → va_E) (h0 : Nat) (t1 : Nat) (t2 : Nat) (t3 : Nat) (i_ruleCount : Int32) (i_faultKind : Int32) (i_faultPlace : Int32) (i_place : Int32) (i_token : Int32) (i_tokenPlace : Int32) (i_value : Int32) (p0 : Int32) (p1 : Int32) (sz : Nat) (hT : tB L ka ix ad cs n0 n6 n2 S f) : Met l yX4_isNumberWithin wsX4_isNumberWithin ({ frames := 1, cells := 0, slots := 0, locals := 21 }) (va_Pc [.ref h0, .int p0, .int p1] (cP dC dI ([(h0, .inr (4, [.ref t1, .ref t2, .ref t3, .int i_ruleCount, .int i_faultKind, .int i_faultPlace, .int i_place, .int i_token, .int i_tokenPlace, .int i_value]))] ++ va_pl L f) (tyC cs) sz)) (va_Qi (fun (r rv : Int32) => r = rv) (fun (rv : Int32) t9 => ∃ (fk2 : Int32) (fp2 : Int32), (NWn i_token i_value p0 p1 rv i_faultKind fk2) ∧ cQ dC dI ([(h0, .inr (4, [.ref t1, .ref t2, .ref t3, .int i_ruleCount, .int fk2, .int fp2, .int i_place, .int i_token, .int i_tokenPlace, .int i_value]))] ++ va_pl L f) [] (va_A ([(h0, .inr (4, [.ref t1, .ref t2, .ref t3, .int i_ruleCount, .int i_faultKind, .int i_faultPlace, .int i_place, .int i_token, .int i_tokenPlace, .int i_value]))] ++ va_pl L f) sz) t9) (va_A ([(h0, .inr (4, [.ref t1, .ref t2, .ref t3, .int i_ruleCount, .int i_faultKind, .int i_faultPlace, .int i_place, .int i_token, .int i_tokenPlace, .int i_value]))] ++ va_pl L f) sz)) 0 0 (va_A ([(h0, .inr (4, [.ref t1, .ref t2, .ref t3, .int i_ruleCount, .int i_faultKind, .int i_faultPlace, .int i_place, .int i_token, .int i_tokenPlace, .int i_value]))] ++ va_pl L f) sz) := by
  refine Met.ofW (cc := cX4_isNumberWithin) (maxL := 3) (ret := (some .boolean)) (by decide) rfl ?_
  intro p e s m args below meth c s₁ B hml hv
  obtain ⟨rfl, hsz, hP, hK, hD0, hN⟩ := hv
  have hx := B.exec
  have hb := B.bytes
  have hr := B.returns
  have hts := atoms_spec (ws := wsX4_isNumberWithin) B.pre
  have hown : s.vm.findClass RX4 = some m.cls := findClass_of_methodNamed B.named
  have hlocks := B.notSynchronized
  subst hsz
  have hin4 : ∀ w ∈ u_ws RX4 TX4 10, w ∈ wsX4_isNumberWithin := by decide +kernel
  have hD := hD0.self (sz := s.heap.size)
  generalize hAe : va_A ([(h0, .inr (4, [.ref t1, .ref t2, .ref t3, .int i_ruleCount, .int i_faultKind, .int i_faultPlace, .int i_place, .int i_token, .int i_tokenPlace, .int i_value]))] ++ va_pl L f) s.heap.size = A at hD ⊢
  have hA : ∀ q : Nat, s.heap.size ≤ q → A q := fun q h => by rw [← hAe]; exact Or.inr h
  have hS : va_S A s.heap s.heap [] := va_S.rf
  have hP : va_P (dC, dI) vwCl ([(h0, .inr (4, [.ref t1, .ref t2, .ref t3, .int i_ruleCount, .int i_faultKind, .int i_faultPlace, .int i_place, .int i_token, .int i_tokenPlace, .int i_value]))] ++ va_pl L f) s.heap := hP
  have hl := lv_entry ([.ref h0, .int p0, .int p1]) (n := 3) (Nat.le_of_ble_eq_true rfl)
  rw [lg_entry_eq]
  generalize (lg_sl ([.ref h0, .int p0, .int p1]) ++ List.replicate (3 - (lg_sl ([.ref h0, .int p0, .int p1])).length) Slot.unset).toArray = ls at hl ⊢
  have hl : lv_has ls 3 [(0, .ref h0), (1, .int p0), (2, .int p1)] := hl
  refine lv_aload_n hx hb dX4_isNumberWithin_0 rfl (lv_at hl 0 rfl) ?_
  refine va_get (D := (dC, dI)) (ci := 4) (v := .int i_token) (C := RX4) (T := TX4) (N := 10) hx hb hts hin4 hown hK hP 0 rfl rfl 7 (by decide) (hts (.fieldLink RX4 29 "YamRiders$StatuteReader" "token" "I") (by decide +kernel)) (fun _ h9 => h9) rfl dX4_isNumberWithin_1 ?_
  refine lv_iconst (v := 2) hx hb dX4_isNumberWithin_4 (by decide) ?_
  refine lv_icmp_eq (tgt := 14) hx hb dX4_isNumberWithin_5 (by decide) (fun c_1 => ?_) (fun c_1 => ?_)
  · refine lv_aload_n hx hb dX4_isNumberWithin_14 rfl (lv_at hl 0 rfl) ?_
    refine va_get (D := (dC, dI)) (ci := 4) (v := .int i_value) (C := RX4) (T := TX4) (N := 10) hx hb hts hin4 hown hK hP 0 rfl rfl 9 (by decide) (hts (.fieldLink RX4 52 "YamRiders$StatuteReader" "value" "I") (by decide +kernel)) (fun _ h9 => h9) rfl dX4_isNumberWithin_15 ?_
    refine lv_iload_n hx hb dX4_isNumberWithin_18 rfl (lv_at hl 1 rfl) ?_
    refine lv_icmp_lt (tgt := 30) hx hb dX4_isNumberWithin_19 (by decide) (fun c_2 => ?_) (fun c_2 => ?_)
    · refine lv_aload_n hx hb dX4_isNumberWithin_30 rfl (lv_at hl 0 rfl) ?_
      refine lv_iconst (v := 3) hx hb dX4_isNumberWithin_31 (by decide) ?_
      have hPc := hP.part (cx := [(h0, .inr (4, [.ref t1, .ref t2, .ref t3, .int i_ruleCount, .int i_faultKind, .int i_faultPlace, .int i_place, .int i_token, .int i_tokenPlace, .int i_value]))]) [0] rfl
      have hDc := hD.part (cx := [(h0, .inr (4, [.ref t1, .ref t2, .ref t3, .int i_ruleCount, .int i_faultKind, .int i_faultPlace, .int i_place, .int i_token, .int i_tokenPlace, .int i_value]))]) [0] (by decide) rfl
      have hKc := hK
      have hFc := va_freeP (cx := [(h0, .inr (4, [.ref t1, .ref t2, .ref t3, .int i_ruleCount, .int i_faultKind, .int i_faultPlace, .int i_place, .int i_token, .int i_tokenPlace, .int i_value]))]) hD hS hA [0] rfl
      refine va_calli (va_runV (As := [.int 3]) (rest := []) ⟨hx, hb, hml, hown, hts⟩ (s_X4_stopAtToken l dC dI cs L ka ix ad n0 n6 n2 S f h0 t1 t2 t3 i_ruleCount i_faultKind i_faultPlace i_place i_token i_tokenPlace i_value 3 s.heap.size hT (by decide)) (cwV 1 hts gX4_isNumberWithin_X4_stopAtToken rfl rfl rfl (by decide +kernel) ⟨Nat.le_of_ble_eq_true rfl, Nat.le_of_ble_eq_true rfl⟩) ⟨c_blind, va_recv hKc hPc (ci := 4) (q0 := 0) rfl rfl, c_pre hPc hKc hDc hN⟩ rfl rfl hl.1 rfl (lv_room (Nat.le_of_ble_eq_true rfl)) dX4_isNumberWithin_32 ⟨Nat.le_of_ble_eq_true rfl, Nat.le_of_ble_eq_true rfl⟩) hS (fun q _ h => hFc q h) hFc (fun r_3 u9 t9 H1 locs ht hvm hw hB hz1 hk1 hS => ?_)
      obtain ⟨fk_4, hf_x_5, hP1, hK1, hD1⟩ := hB
      rw [ht] at hP1
      have hK1 := va_K.moved hvm.symm hK1
      obtain ⟨hP, hD⟩ := va_joinP (X := [(h0, .inr (4, [.ref t1, .ref t2, .ref t3, .int i_ruleCount, .int i_faultKind, .int i_faultPlace, .int i_place, .int i_token, .int i_tokenPlace, .int i_value]))]) (cx := [(h0, .inr (4, [.ref t1, .ref t2, .ref t3, .int i_ruleCount, .int i_faultKind, .int i_faultPlace, .int i_place, .int i_token, .int i_tokenPlace, .int i_value]))]) (wr := []) (rx := [(h0, .inr (4, [.ref t1, .ref t2, .ref t3, .int i_ruleCount, .int fk_4, .int i_tokenPlace, .int i_place, .int i_token, .int i_tokenPlace, .int i_value]))]) (pl := va_pl L f) (pl1 := va_pl L f) hP hD [0] [] rfl rfl (by decide) (by decide) hk1 hFc hP1 hD1
      generalize H1 = H at hP hS ⊢
      have hP : va_P (dC, dI) vwCl ([(h0, .inr (4, [.ref t1, .ref t2, .ref t3, .int i_ruleCount, .int fk_4, .int i_tokenPlace, .int i_place, .int i_token, .int i_tokenPlace, .int i_value]))] ++ va_pl L f) H := hP
      have hD : va_D A ([(h0, .inr (4, [.ref t1, .ref t2, .ref t3, .int i_ruleCount, .int fk_4, .int i_tokenPlace, .int i_place, .int i_token, .int i_tokenPlace, .int i_value]))] ++ va_pl L f) := hD
      refine W.widen (k := 0) (n := 0) (Nat.le_of_ble_eq_true rfl) (Nat.le_of_ble_eq_true rfl) ?_
      try dsimp only at hw
      subst hw
      have hP9 := hP.part (cx := [(h0, .inr (4, [.ref t1, .ref t2, .ref t3, .int i_ruleCount, .int fk_4, .int i_tokenPlace, .int i_place, .int i_token, .int i_tokenPlace, .int i_value]))]) [0] rfl
      have hD9 := hD.part (cx := [(h0, .inr (4, [.ref t1, .ref t2, .ref t3, .int i_ruleCount, .int fk_4, .int i_tokenPlace, .int i_place, .int i_token, .int i_tokenPlace, .int i_value]))]) [0] (by decide) rfl
      have hK9 := hK.sub (tys' := []) [] rfl
      refine W.widen (k := 0) (n := 0) (Nat.le_of_ble_eq_true rfl) (Nat.le_of_ble_eq_true rfl) ?_
      exact W.zret (v := 0) hx hb hr rfl (fun t9 ht hW => ⟨⟨_, 0, rfl, rfl, fk_4, i_tokenPlace, (Or.inr ⟨rfl, (fun w => Int32.not_le.mpr c_2 w.2.1), hf_x_5⟩), by rw [ht]; exact hP9, va_K.moved hW.alike hK9, hD9⟩, hS.F ht⟩) hS.2.2 dX4_isNumberWithin_35
    · refine lv_aload_n hx hb dX4_isNumberWithin_22 rfl (lv_at hl 0 rfl) ?_
      refine va_get (D := (dC, dI)) (ci := 4) (v := .int i_value) (C := RX4) (T := TX4) (N := 10) hx hb hts hin4 hown hK hP 0 rfl rfl 9 (by decide) (hts (.fieldLink RX4 52 "YamRiders$StatuteReader" "value" "I") (by decide +kernel)) (fun _ h9 => h9) rfl dX4_isNumberWithin_23 ?_
      refine lv_iload_n hx hb dX4_isNumberWithin_26 rfl (lv_at hl 2 rfl) ?_
      refine lv_icmp_le (tgt := 36) hx hb dX4_isNumberWithin_27 (by decide) (fun c_6 => ?_) (fun c_6 => ?_)
      · refine lv_iconst (v := 1) hx hb dX4_isNumberWithin_36 (by decide) ?_
        have hP9 := hP.part (cx := [(h0, .inr (4, [.ref t1, .ref t2, .ref t3, .int i_ruleCount, .int i_faultKind, .int i_faultPlace, .int i_place, .int i_token, .int i_tokenPlace, .int i_value]))]) [0] rfl
        have hD9 := hD.part (cx := [(h0, .inr (4, [.ref t1, .ref t2, .ref t3, .int i_ruleCount, .int i_faultKind, .int i_faultPlace, .int i_place, .int i_token, .int i_tokenPlace, .int i_value]))]) [0] (by decide) rfl
        have hK9 := hK.sub (tys' := []) [] rfl
        refine W.widen (k := 0) (n := 0) (Nat.le_of_ble_eq_true rfl) (Nat.le_of_ble_eq_true rfl) ?_
        exact W.zret (v := 1) hx hb hr rfl (fun t9 ht hW => ⟨⟨_, 1, rfl, rfl, i_faultKind, i_faultPlace, (Or.inl ⟨rfl, c_1, Int32.not_lt.mp c_2, c_6, rfl⟩), by rw [ht]; exact hP9, va_K.moved hW.alike hK9, hD9⟩, hS.F ht⟩) hS.2.2 dX4_isNumberWithin_37
      · refine lv_aload_n hx hb dX4_isNumberWithin_30 rfl (lv_at hl 0 rfl) ?_
        refine lv_iconst (v := 3) hx hb dX4_isNumberWithin_31 (by decide) ?_
        have hPc := hP.part (cx := [(h0, .inr (4, [.ref t1, .ref t2, .ref t3, .int i_ruleCount, .int i_faultKind, .int i_faultPlace, .int i_place, .int i_token, .int i_tokenPlace, .int i_value]))]) [0] rfl
        have hDc := hD.part (cx := [(h0, .inr (4, [.ref t1, .ref t2, .ref t3, .int i_ruleCount, .int i_faultKind, .int i_faultPlace, .int i_place, .int i_token, .int i_tokenPlace, .int i_value]))]) [0] (by decide) rfl
        have hKc := hK
        have hFc := va_freeP (cx := [(h0, .inr (4, [.ref t1, .ref t2, .ref t3, .int i_ruleCount, .int i_faultKind, .int i_faultPlace, .int i_place, .int i_token, .int i_tokenPlace, .int i_value]))]) hD hS hA [0] rfl
        refine va_calli (va_runV (As := [.int 3]) (rest := []) ⟨hx, hb, hml, hown, hts⟩ (s_X4_stopAtToken l dC dI cs L ka ix ad n0 n6 n2 S f h0 t1 t2 t3 i_ruleCount i_faultKind i_faultPlace i_place i_token i_tokenPlace i_value 3 s.heap.size hT (by decide)) (cwV 1 hts gX4_isNumberWithin_X4_stopAtToken rfl rfl rfl (by decide +kernel) ⟨Nat.le_of_ble_eq_true rfl, Nat.le_of_ble_eq_true rfl⟩) ⟨c_blind, va_recv hKc hPc (ci := 4) (q0 := 0) rfl rfl, c_pre hPc hKc hDc hN⟩ rfl rfl hl.1 rfl (lv_room (Nat.le_of_ble_eq_true rfl)) dX4_isNumberWithin_32 ⟨Nat.le_of_ble_eq_true rfl, Nat.le_of_ble_eq_true rfl⟩) hS (fun q _ h => hFc q h) hFc (fun r_7 u9 t9 H1 locs ht hvm hw hB hz1 hk1 hS => ?_)
        obtain ⟨fk_8, hf_x_9, hP1, hK1, hD1⟩ := hB
        rw [ht] at hP1
        have hK1 := va_K.moved hvm.symm hK1
        obtain ⟨hP, hD⟩ := va_joinP (X := [(h0, .inr (4, [.ref t1, .ref t2, .ref t3, .int i_ruleCount, .int i_faultKind, .int i_faultPlace, .int i_place, .int i_token, .int i_tokenPlace, .int i_value]))]) (cx := [(h0, .inr (4, [.ref t1, .ref t2, .ref t3, .int i_ruleCount, .int i_faultKind, .int i_faultPlace, .int i_place, .int i_token, .int i_tokenPlace, .int i_value]))]) (wr := []) (rx := [(h0, .inr (4, [.ref t1, .ref t2, .ref t3, .int i_ruleCount, .int fk_8, .int i_tokenPlace, .int i_place, .int i_token, .int i_tokenPlace, .int i_value]))]) (pl := va_pl L f) (pl1 := va_pl L f) hP hD [0] [] rfl rfl (by decide) (by decide) hk1 hFc hP1 hD1
        generalize H1 = H at hP hS ⊢
        have hP : va_P (dC, dI) vwCl ([(h0, .inr (4, [.ref t1, .ref t2, .ref t3, .int i_ruleCount, .int fk_8, .int i_tokenPlace, .int i_place, .int i_token, .int i_tokenPlace, .int i_value]))] ++ va_pl L f) H := hP
        have hD : va_D A ([(h0, .inr (4, [.ref t1, .ref t2, .ref t3, .int i_ruleCount, .int fk_8, .int i_tokenPlace, .int i_place, .int i_token, .int i_tokenPlace, .int i_value]))] ++ va_pl L f) := hD
        refine W.widen (k := 0) (n := 0) (Nat.le_of_ble_eq_true rfl) (Nat.le_of_ble_eq_true rfl) ?_
        try dsimp only at hw
        subst hw
        have hP9 := hP.part (cx := [(h0, .inr (4, [.ref t1, .ref t2, .ref t3, .int i_ruleCount, .int fk_8, .int i_tokenPlace, .int i_place, .int i_token, .int i_tokenPlace, .int i_value]))]) [0] rfl
        have hD9 := hD.part (cx := [(h0, .inr (4, [.ref t1, .ref t2, .ref t3, .int i_ruleCount, .int fk_8, .int i_tokenPlace, .int i_place, .int i_token, .int i_tokenPlace, .int i_value]))]) [0] (by decide) rfl
        have hK9 := hK.sub (tys' := []) [] rfl
        refine W.widen (k := 0) (n := 0) (Nat.le_of_ble_eq_true rfl) (Nat.le_of_ble_eq_true rfl) ?_
        exact W.zret (v := 0) hx hb hr rfl (fun t9 ht hW => ⟨⟨_, 0, rfl, rfl, fk_8, i_tokenPlace, (Or.inr ⟨rfl, (fun w => c_6 w.2.2), hf_x_9⟩), by rw [ht]; exact hP9, va_K.moved hW.alike hK9, hD9⟩, hS.F ht⟩) hS.2.2 dX4_isNumberWithin_35
  · refine lv_aload_n hx hb dX4_isNumberWithin_8 rfl (lv_at hl 0 rfl) ?_
    refine lv_iconst (v := 2) hx hb dX4_isNumberWithin_9 (by decide) ?_
    have hPc := hP.part (cx := [(h0, .inr (4, [.ref t1, .ref t2, .ref t3, .int i_ruleCount, .int i_faultKind, .int i_faultPlace, .int i_place, .int i_token, .int i_tokenPlace, .int i_value]))]) [0] rfl
    have hDc := hD.part (cx := [(h0, .inr (4, [.ref t1, .ref t2, .ref t3, .int i_ruleCount, .int i_faultKind, .int i_faultPlace, .int i_place, .int i_token, .int i_tokenPlace, .int i_value]))]) [0] (by decide) rfl
    have hKc := hK
    have hFc := va_freeP (cx := [(h0, .inr (4, [.ref t1, .ref t2, .ref t3, .int i_ruleCount, .int i_faultKind, .int i_faultPlace, .int i_place, .int i_token, .int i_tokenPlace, .int i_value]))]) hD hS hA [0] rfl
    refine va_calli (va_runV (As := [.int 2]) (rest := []) ⟨hx, hb, hml, hown, hts⟩ (s_X4_stopAtToken l dC dI cs L ka ix ad n0 n6 n2 S f h0 t1 t2 t3 i_ruleCount i_faultKind i_faultPlace i_place i_token i_tokenPlace i_value 2 s.heap.size hT (by decide)) (cwV 1 hts gX4_isNumberWithin_X4_stopAtToken rfl rfl rfl (by decide +kernel) ⟨Nat.le_of_ble_eq_true rfl, Nat.le_of_ble_eq_true rfl⟩) ⟨c_blind, va_recv hKc hPc (ci := 4) (q0 := 0) rfl rfl, c_pre hPc hKc hDc hN⟩ rfl rfl hl.1 rfl (lv_room (Nat.le_of_ble_eq_true rfl)) dX4_isNumberWithin_10 ⟨Nat.le_of_ble_eq_true rfl, Nat.le_of_ble_eq_true rfl⟩) hS (fun q _ h => hFc q h) hFc (fun r_10 u9 t9 H1 locs ht hvm hw hB hz1 hk1 hS => ?_)
    obtain ⟨fk_11, hf_x_12, hP1, hK1, hD1⟩ := hB
    rw [ht] at hP1
    have hK1 := va_K.moved hvm.symm hK1
    obtain ⟨hP, hD⟩ := va_joinP (X := [(h0, .inr (4, [.ref t1, .ref t2, .ref t3, .int i_ruleCount, .int i_faultKind, .int i_faultPlace, .int i_place, .int i_token, .int i_tokenPlace, .int i_value]))]) (cx := [(h0, .inr (4, [.ref t1, .ref t2, .ref t3, .int i_ruleCount, .int i_faultKind, .int i_faultPlace, .int i_place, .int i_token, .int i_tokenPlace, .int i_value]))]) (wr := []) (rx := [(h0, .inr (4, [.ref t1, .ref t2, .ref t3, .int i_ruleCount, .int fk_11, .int i_tokenPlace, .int i_place, .int i_token, .int i_tokenPlace, .int i_value]))]) (pl := va_pl L f) (pl1 := va_pl L f) hP hD [0] [] rfl rfl (by decide) (by decide) hk1 hFc hP1 hD1
    generalize H1 = H at hP hS ⊢
    have hP : va_P (dC, dI) vwCl ([(h0, .inr (4, [.ref t1, .ref t2, .ref t3, .int i_ruleCount, .int fk_11, .int i_tokenPlace, .int i_place, .int i_token, .int i_tokenPlace, .int i_value]))] ++ va_pl L f) H := hP
    have hD : va_D A ([(h0, .inr (4, [.ref t1, .ref t2, .ref t3, .int i_ruleCount, .int fk_11, .int i_tokenPlace, .int i_place, .int i_token, .int i_tokenPlace, .int i_value]))] ++ va_pl L f) := hD
    refine W.widen (k := 0) (n := 0) (Nat.le_of_ble_eq_true rfl) (Nat.le_of_ble_eq_true rfl) ?_
    try dsimp only at hw
    subst hw
    have hP9 := hP.part (cx := [(h0, .inr (4, [.ref t1, .ref t2, .ref t3, .int i_ruleCount, .int fk_11, .int i_tokenPlace, .int i_place, .int i_token, .int i_tokenPlace, .int i_value]))]) [0] rfl
    have hD9 := hD.part (cx := [(h0, .inr (4, [.ref t1, .ref t2, .ref t3, .int i_ruleCount, .int fk_11, .int i_tokenPlace, .int i_place, .int i_token, .int i_tokenPlace, .int i_value]))]) [0] (by decide) rfl
    have hK9 := hK.sub (tys' := []) [] rfl
    refine W.widen (k := 0) (n := 0) (Nat.le_of_ble_eq_true rfl) (Nat.le_of_ble_eq_true rfl) ?_
    exact W.zret (v := 0) hx hb hr rfl (fun t9 ht hW => ⟨⟨_, 0, rfl, rfl, fk_11, i_tokenPlace, (Or.inr ⟨rfl, (fun w => c_1 w.1), hf_x_12⟩), by rw [ht]; exact hP9, va_K.moved hW.alike hK9, hD9⟩, hS.F ht⟩) hS.2.2 dX4_isNumberWithin_13

set_option maxHeartbeats 4000000 in
set_option maxRecDepth 100000 in
theorem s_X4_readWordOrNumber (l : Launch) (dC : Nat → ClassId) (dI : Nat → Nat → Nat) (cs : Nat → ClassId) (L : List Nat) (ka : Nat → Nat) (ix : Nat → Nat) (ad : Nat → Nat → Nat) (n0 : Nat) (n6 : Nat) (n2 : Nat) (S : Nat → Nat → Nat → Int32) (f : Nat → va_E) (h0 : Nat) (t1 : Nat) (t2 : Nat) (t3 : Nat) (i_ruleCount : Int32) (i_faultKind : Int32) (i_faultPlace : Int32) (i_token : Int32) (i_value : Int32) (u1 : Nat) (ln : Nat) (a_b : Nat → Int32) (t8 : Nat) (sz : Nat) (hT : tB L ka ix ad cs n0 n6 n2 S f) (hln : ln ≤ 200) (ht8 : t8 ≤ ln) : Met l yX4_readWordOrNumber wsX4_readWordOrNumber ({ frames := 1, cells := 0, slots := 0, locals := 21 }) (va_Pc [.ref h0] (cP dC dI ([(h0, .inr (4, [.ref t1, .ref t2, .ref t3, .int i_ruleCount, .int i_faultKind, .int i_faultPlace, .int (nI t8), .int i_token, .int (nI t8), .int i_value])), (t1, .inr (7, [.ref u1, .int (nI ln)])), (u1, .inl (cs 0, 200, .inl a_b))] ++ va_pl L f) (tyC cs) sz)) (va_Qv (fun (_ : Unit) => True) (fun (_ : Unit) t9 => ∃ (e9 : Nat) (y_token : Int32) (y_value : Int32), (e9 ≤ ln) ∧ (RWf (PBy a_b ln) t8 e9 y_token y_value) ∧ cQ dC dI ([(h0, .inr (4, [.ref t1, .ref t2, .ref t3, .int i_ruleCount, .int i_faultKind, .int i_faultPlace, .int (nI e9), .int y_token, .int (nI t8), .int y_value])), (t1, .inr (7, [.ref u1, .int (nI ln)])), (u1, .inl (cs 0, 200, .inl a_b))] ++ va_pl L f) [] (va_A ([(h0, .inr (4, [.ref t1, .ref t2, .ref t3, .int i_ruleCount, .int i_faultKind, .int i_faultPlace, .int (nI t8), .int i_token, .int (nI t8), .int i_value])), (t1, .inr (7, [.ref u1, .int (nI ln)])), (u1, .inl (cs 0, 200, .inl a_b))] ++ va_pl L f) sz) t9) (va_A ([(h0, .inr (4, [.ref t1, .ref t2, .ref t3, .int i_ruleCount, .int i_faultKind, .int i_faultPlace, .int (nI t8), .int i_token, .int (nI t8), .int i_value])), (t1, .inr (7, [.ref u1, .int (nI ln)])), (u1, .inl (cs 0, 200, .inl a_b))] ++ va_pl L f) sz)) 0 0 (va_A ([(h0, .inr (4, [.ref t1, .ref t2, .ref t3, .int i_ruleCount, .int i_faultKind, .int i_faultPlace, .int (nI t8), .int i_token, .int (nI t8), .int i_value])), (t1, .inr (7, [.ref u1, .int (nI ln)])), (u1, .inl (cs 0, 200, .inl a_b))] ++ va_pl L f) sz) := by
  refine Met.ofW (cc := cX4_readWordOrNumber) (maxL := 4) (ret := none) (by decide) rfl ?_
  intro p e s m args below meth c s₁ B hml hv
  obtain ⟨rfl, hsz, hP, hK, hD0, hN⟩ := hv
  have hx := B.exec
  have hb := B.bytes
  have hr := B.returns
  have hts := atoms_spec (ws := wsX4_readWordOrNumber) B.pre
  have hown : s.vm.findClass RX4 = some m.cls := findClass_of_methodNamed B.named
  have hlocks := B.notSynchronized
  subst hsz
  have hin4 : ∀ w ∈ u_ws RX4 TX4 10, w ∈ wsX4_readWordOrNumber := by decide +kernel
  have hin7 : ∀ w ∈ u_ws RX7 TX7 2, w ∈ wsX4_readWordOrNumber := by decide +kernel
  have hD := hD0.self (sz := s.heap.size)
  generalize hAe : va_A ([(h0, .inr (4, [.ref t1, .ref t2, .ref t3, .int i_ruleCount, .int i_faultKind, .int i_faultPlace, .int (nI t8), .int i_token, .int (nI t8), .int i_value])), (t1, .inr (7, [.ref u1, .int (nI ln)])), (u1, .inl (cs 0, 200, .inl a_b))] ++ va_pl L f) s.heap.size = A at hD ⊢
  have hA : ∀ q : Nat, s.heap.size ≤ q → A q := fun q h => by rw [← hAe]; exact Or.inr h
  have hS : va_S A s.heap s.heap [] := va_S.rf
  have hP : va_P (dC, dI) vwCl ([(h0, .inr (4, [.ref t1, .ref t2, .ref t3, .int i_ruleCount, .int i_faultKind, .int i_faultPlace, .int (nI t8), .int i_token, .int (nI t8), .int i_value])), (t1, .inr (7, [.ref u1, .int (nI ln)])), (u1, .inl (cs 0, 200, .inl a_b))] ++ va_pl L f) s.heap := hP
  have hl := lv_entry ([.ref h0]) (n := 4) (Nat.le_of_ble_eq_true rfl)
  rw [lg_entry_eq]
  generalize (lg_sl ([.ref h0]) ++ List.replicate (4 - (lg_sl ([.ref h0])).length) Slot.unset).toArray = ls at hl ⊢
  have hl : lv_has ls 4 [(0, .ref h0)] := hl
  refine lv_iconst (v := 0) hx hb dX4_readWordOrNumber_0 (by decide) ?_
  refine lv_istore_n (lv' := [(1, .int 0), (0, .ref h0)]) hx hb dX4_readWordOrNumber_1 rfl hl (by decide) rfl (fun ls hl => ?_)
  refine lv_iconst (v := 0) hx hb dX4_readWordOrNumber_2 (by decide) ?_
  refine lv_istore_n (lv' := [(2, .int 0), (1, .int 0), (0, .ref h0)]) hx hb dX4_readWordOrNumber_3 rfl hl (by decide) rfl (fun ls hl => ?_)
  refine lv_aload_n hx hb dX4_readWordOrNumber_4 rfl (lv_at hl 2 rfl) ?_
  refine lv_iconst (v := 0) hx hb dX4_readWordOrNumber_5 (by decide) ?_
  refine va_put (D := (dC, dI)) (ci := 4) (v := .int 0) (ty := (tyX4 9)) (C := RX4) (T := TX4) (N := 10) hx hb hts hin4 tyX4 tyX4_ok nmX4 hown hK hP hD hS 0 rfl rfl 9 (by decide) (hts (.fieldLink RX4 52 "YamRiders$StatuteReader" "value" "I") (by decide +kernel)) (fun _ h9 => h9) rfl (by decide +kernel) rfl rfl (Nat.le_of_ble_eq_true rfl) dX4_readWordOrNumber_6 (fun H locs hP hD hS => ?_)
  have hP : va_P (dC, dI) vwCl ([(h0, .inr (4, [.ref t1, .ref t2, .ref t3, .int i_ruleCount, .int i_faultKind, .int i_faultPlace, .int (nI t8), .int i_token, .int (nI t8), .int 0])), (t1, .inr (7, [.ref u1, .int (nI ln)])), (u1, .inl (cs 0, 200, .inl a_b))] ++ va_pl L f) H := hP
  have hD : va_D A ([(h0, .inr (4, [.ref t1, .ref t2, .ref t3, .int i_ruleCount, .int i_faultKind, .int i_faultPlace, .int (nI t8), .int i_token, .int (nI t8), .int 0])), (t1, .inr (7, [.ref u1, .int (nI ln)])), (u1, .inl (cs 0, 200, .inl a_b))] ++ va_pl L f) := hD
  have HL : ∀ (n k : Nat) (x1 : Int32) (x2 : Int32) (va8 : Int32), k ≤ (ln - t8) → (ln - t8) + 1 ≤ k + n → (RWi (PBy a_b ln) t8 k x1 x2 va8) → ∀ (H : Heap) (locs : List Loc), va_P (dC, dI) vwCl ([(h0, .inr (4, [.ref t1, .ref t2, .ref t3, .int i_ruleCount, .int i_faultKind, .int i_faultPlace, .int (nI (t8 + k)), .int i_token, .int (nI t8), .int va8])), (t1, .inr (7, [.ref u1, .int (nI ln)])), (u1, .inl (cs 0, 200, .inl a_b))] ++ va_pl L f) H → va_D A ([(h0, .inr (4, [.ref t1, .ref t2, .ref t3, .int i_ruleCount, .int i_faultKind, .int i_faultPlace, .int (nI (t8 + k)), .int i_token, .int (nI t8), .int va8])), (t1, .inr (7, [.ref u1, .int (nI ln)])), (u1, .inl (cs 0, 200, .inl a_b))] ++ va_pl L f) → va_S A s.heap H locs → ∀ ls : Array Slot, lv_has ls 4 [(0, .ref h0), (1, .int x1), (2, .int x2)] → W p l e (headSpec wsX4_readWordOrNumber ({ frames := 1, cells := 0, slots := 0, locals := 21 })).room s m ([.ref h0]).toArray below meth c H locs 0 0 (MQ below (va_Qv (fun (_ : Unit) => True) (fun (_ : Unit) t9 => ∃ (e9 : Nat) (y_token : Int32) (y_value : Int32), (e9 ≤ ln) ∧ (RWf (PBy a_b ln) t8 e9 y_token y_value) ∧ cQ dC dI ([(h0, .inr (4, [.ref t1, .ref t2, .ref t3, .int i_ruleCount, .int i_faultKind, .int i_faultPlace, .int (nI e9), .int y_token, .int (nI t8), .int y_value])), (t1, .inr (7, [.ref u1, .int (nI ln)])), (u1, .inl (cs 0, 200, .inl a_b))] ++ va_pl L f) [] A t9) A) ([.ref h0]).toArray s 0 0 A) (F0 m 9 ls []) := by
    intro n
    induction n with
    | zero => intro k x1 x2 va8 h1 h2; exact absurd h2 (by omega)
    | succ n ih =>
      intro k x1 x2 va8 hk hn hRW H locs hP hD hS ls hl
      refine lv_aload_n hx hb dX4_readWordOrNumber_9 rfl (lv_at hl 0 rfl) ?_
      refine va_get (D := (dC, dI)) (ci := 4) (v := .int (nI (t8 + k))) (C := RX4) (T := TX4) (N := 10) hx hb hts hin4 hown hK hP 0 rfl rfl 6 (by decide) (hts (.fieldLink RX4 96 "YamRiders$StatuteReader" "place" "I") (by decide +kernel)) (fun _ h9 => h9) rfl dX4_readWordOrNumber_10 ?_
      refine lv_aload_n hx hb dX4_readWordOrNumber_13 rfl (lv_at hl 0 rfl) ?_
      refine va_get (D := (dC, dI)) (ci := 4) (v := .ref t1) (C := RX4) (T := TX4) (N := 10) hx hb hts hin4 hown hK hP 0 rfl rfl 0 (by decide) (hts (.fieldLink RX4 22 "YamRiders$StatuteReader" "tape" "LYamRiders$Tape;") (by decide +kernel)) (fun _ h9 => h9) rfl dX4_readWordOrNumber_14 ?_
      refine va_getN (D := (dC, dI)) (ci := 7) (v := .int (nI ln)) (C := RX7) (T := TX7) (N := 2) hx hb hts hin7 hown hK hP 1 rfl rfl 1 (by decide) (hN.nx (.fieldLinkNest RX4 99 "YamRiders$Tape" "length" "I" "YamRiders") (by decide +kernel)) (fun _ h9 => h9) rfl dX4_readWordOrNumber_17 ?_
      refine lv_icmp_ge (tgt := 113) hx hb dX4_readWordOrNumber_20 (by decide) (fun c_1 => ?_) (fun c_1 => ?_)
      · refine lv_aload_n hx hb dX4_readWordOrNumber_113 rfl (lv_at hl 0 rfl) ?_
        refine va_get (D := (dC, dI)) (ci := 4) (v := .int (nI (t8 + k))) (C := RX4) (T := TX4) (N := 10) hx hb hts hin4 hown hK hP 0 rfl rfl 6 (by decide) (hts (.fieldLink RX4 96 "YamRiders$StatuteReader" "place" "I") (by decide +kernel)) (fun _ h9 => h9) rfl dX4_readWordOrNumber_114 ?_
        refine lv_aload_n hx hb dX4_readWordOrNumber_117 rfl (lv_at hl 0 rfl) ?_
        refine va_get (D := (dC, dI)) (ci := 4) (v := .int (nI t8)) (C := RX4) (T := TX4) (N := 10) hx hb hts hin4 hown hK hP 0 rfl rfl 8 (by decide) (hts (.fieldLink RX4 90 "YamRiders$StatuteReader" "tokenPlace" "I") (by decide +kernel)) (fun _ h9 => h9) rfl dX4_readWordOrNumber_118 ?_
        refine lv_isub hx hb dX4_readWordOrNumber_121 ?_
        refine lv_topi (fun y_2 ey_2 => ?_)
        obtain rfl : y_2 = nI k := ey_2.trans (nI_sb (by omega))
        refine lv_istore_n (lv' := [(3, .int (nI k)), (0, .ref h0), (1, .int x1), (2, .int x2)]) hx hb dX4_readWordOrNumber_122 rfl hl (by decide) rfl (fun ls hl => ?_)
        refine lv_iload_n hx hb dX4_readWordOrNumber_123 rfl (lv_at hl 0 rfl) ?_
        refine lv_if_le (tgt := 140) hx hb dX4_readWordOrNumber_124 (by decide) (fun c_3 => ?_) (fun c_3 => ?_)
        · refine lv_iload_n hx hb dX4_readWordOrNumber_140 rfl (lv_at hl 0 rfl) ?_
          refine lv_if_le (tgt := 162) hx hb dX4_readWordOrNumber_141 (by decide) (fun _ => ?_) (fun c_4 => by first | exact absurd c_4 c_3 | exact absurd c_3 c_4)
          refine lv_aload_n hx hb dX4_readWordOrNumber_162 rfl (lv_at hl 1 rfl) ?_
          refine lv_iconst (v := 4) hx hb dX4_readWordOrNumber_163 (by decide) ?_
          refine va_put (D := (dC, dI)) (ci := 4) (v := .int 4) (ty := (tyX4 7)) (C := RX4) (T := TX4) (N := 10) hx hb hts hin4 tyX4 tyX4_ok nmX4 hown hK hP hD hS 0 rfl rfl 7 (by decide) (hts (.fieldLink RX4 29 "YamRiders$StatuteReader" "token" "I") (by decide +kernel)) (fun _ h9 => h9) rfl (by decide +kernel) rfl rfl (Nat.le_of_ble_eq_true rfl) dX4_readWordOrNumber_164 (fun H locs hP hD hS => ?_)
          have hP : va_P (dC, dI) vwCl ([(h0, .inr (4, [.ref t1, .ref t2, .ref t3, .int i_ruleCount, .int i_faultKind, .int i_faultPlace, .int (nI (t8 + k)), .int 4, .int (nI t8), .int va8])), (t1, .inr (7, [.ref u1, .int (nI ln)])), (u1, .inl (cs 0, 200, .inl a_b))] ++ va_pl L f) H := hP
          have hD : va_D A ([(h0, .inr (4, [.ref t1, .ref t2, .ref t3, .int i_ruleCount, .int i_faultKind, .int i_faultPlace, .int (nI (t8 + k)), .int 4, .int (nI t8), .int va8])), (t1, .inr (7, [.ref u1, .int (nI ln)])), (u1, .inl (cs 0, 200, .inl a_b))] ++ va_pl L f) := hD
          have hP9 := hP.part (cx := [(h0, .inr (4, [.ref t1, .ref t2, .ref t3, .int i_ruleCount, .int i_faultKind, .int i_faultPlace, .int (nI (t8 + k)), .int 4, .int (nI t8), .int va8])), (t1, .inr (7, [.ref u1, .int (nI ln)])), (u1, .inl (cs 0, 200, .inl a_b))]) [0, 1, 2] rfl
          have hD9 := hD.part (cx := [(h0, .inr (4, [.ref t1, .ref t2, .ref t3, .int i_ruleCount, .int i_faultKind, .int i_faultPlace, .int (nI (t8 + k)), .int 4, .int (nI t8), .int va8])), (t1, .inr (7, [.ref u1, .int (nI ln)])), (u1, .inl (cs 0, 200, .inl a_b))]) [0, 1, 2] (by decide) rfl
          have hK9 := hK.sub (tys' := []) [] rfl
          refine W.widen (k := 0) (n := 0) (Nat.le_of_ble_eq_true rfl) (Nat.le_of_ble_eq_true rfl) ?_
          exact W.vret hx hb hr (fun t9 ht hW => ⟨⟨(), rfl, trivial, (t8 + k), 4, va8, (by omega), (RW_e hRW (by omega) (by rw [PB_o ((nI_leI (by omega) (by omega)).mp c_1)]; exact LO_m1) (Or.inr (Or.inr ⟨rfl, (Or.inl c_3), (Or.inl c_3)⟩))), by rw [ht]; exact hP9, va_K.moved hW.alike hK9, hD9⟩, hS.F ht⟩) hS.2.2 dX4_readWordOrNumber_167
        · refine lv_iload_n hx hb dX4_readWordOrNumber_127 rfl (lv_at hl 2 rfl) ?_
          refine lv_iload_n hx hb dX4_readWordOrNumber_128 rfl (lv_at hl 0 rfl) ?_
          refine lv_icmp_ne (tgt := 140) hx hb dX4_readWordOrNumber_129 (by decide) (fun c_5 => ?_) (fun c_5 => ?_)
          · refine lv_iload_n hx hb dX4_readWordOrNumber_140 rfl (lv_at hl 0 rfl) ?_
            refine lv_if_le (tgt := 162) hx hb dX4_readWordOrNumber_141 (by decide) (fun c_6 => by first | exact absurd c_6 c_3 | exact absurd c_3 c_6) (fun _ => ?_)
            refine lv_iload_n hx hb dX4_readWordOrNumber_144 rfl (lv_at hl 0 rfl) ?_
            refine lv_iconst (v := 3) hx hb dX4_readWordOrNumber_145 (by decide) ?_
            refine lv_icmp_gt (tgt := 162) hx hb dX4_readWordOrNumber_146 (by decide) (fun c_7 => ?_) (fun c_7 => ?_)
            · refine lv_aload_n hx hb dX4_readWordOrNumber_162 rfl (lv_at hl 1 rfl) ?_
              refine lv_iconst (v := 4) hx hb dX4_readWordOrNumber_163 (by decide) ?_
              refine va_put (D := (dC, dI)) (ci := 4) (v := .int 4) (ty := (tyX4 7)) (C := RX4) (T := TX4) (N := 10) hx hb hts hin4 tyX4 tyX4_ok nmX4 hown hK hP hD hS 0 rfl rfl 7 (by decide) (hts (.fieldLink RX4 29 "YamRiders$StatuteReader" "token" "I") (by decide +kernel)) (fun _ h9 => h9) rfl (by decide +kernel) rfl rfl (Nat.le_of_ble_eq_true rfl) dX4_readWordOrNumber_164 (fun H locs hP hD hS => ?_)
              have hP : va_P (dC, dI) vwCl ([(h0, .inr (4, [.ref t1, .ref t2, .ref t3, .int i_ruleCount, .int i_faultKind, .int i_faultPlace, .int (nI (t8 + k)), .int 4, .int (nI t8), .int va8])), (t1, .inr (7, [.ref u1, .int (nI ln)])), (u1, .inl (cs 0, 200, .inl a_b))] ++ va_pl L f) H := hP
              have hD : va_D A ([(h0, .inr (4, [.ref t1, .ref t2, .ref t3, .int i_ruleCount, .int i_faultKind, .int i_faultPlace, .int (nI (t8 + k)), .int 4, .int (nI t8), .int va8])), (t1, .inr (7, [.ref u1, .int (nI ln)])), (u1, .inl (cs 0, 200, .inl a_b))] ++ va_pl L f) := hD
              have hP9 := hP.part (cx := [(h0, .inr (4, [.ref t1, .ref t2, .ref t3, .int i_ruleCount, .int i_faultKind, .int i_faultPlace, .int (nI (t8 + k)), .int 4, .int (nI t8), .int va8])), (t1, .inr (7, [.ref u1, .int (nI ln)])), (u1, .inl (cs 0, 200, .inl a_b))]) [0, 1, 2] rfl
              have hD9 := hD.part (cx := [(h0, .inr (4, [.ref t1, .ref t2, .ref t3, .int i_ruleCount, .int i_faultKind, .int i_faultPlace, .int (nI (t8 + k)), .int 4, .int (nI t8), .int va8])), (t1, .inr (7, [.ref u1, .int (nI ln)])), (u1, .inl (cs 0, 200, .inl a_b))]) [0, 1, 2] (by decide) rfl
              have hK9 := hK.sub (tys' := []) [] rfl
              refine W.widen (k := 0) (n := 0) (Nat.le_of_ble_eq_true rfl) (Nat.le_of_ble_eq_true rfl) ?_
              exact W.vret hx hb hr (fun t9 ht hW => ⟨⟨(), rfl, trivial, (t8 + k), 4, va8, (by omega), (RW_e hRW (by omega) (by rw [PB_o ((nI_leI (by omega) (by omega)).mp c_1)]; exact LO_m1) (Or.inr (Or.inr ⟨rfl, (Or.inr c_5), (Or.inr (Or.inl (Int32.not_le.mpr c_7)))⟩))), by rw [ht]; exact hP9, va_K.moved hW.alike hK9, hD9⟩, hS.F ht⟩) hS.2.2 dX4_readWordOrNumber_167
            · refine lv_iload_n hx hb dX4_readWordOrNumber_149 rfl (lv_at hl 3 rfl) ?_
              refine lv_iload_n hx hb dX4_readWordOrNumber_150 rfl (lv_at hl 0 rfl) ?_
              refine lv_icmp_ne (tgt := 162) hx hb dX4_readWordOrNumber_151 (by decide) (fun c_8 => ?_) (fun c_8 => ?_)
              · refine lv_aload_n hx hb dX4_readWordOrNumber_162 rfl (lv_at hl 1 rfl) ?_
                refine lv_iconst (v := 4) hx hb dX4_readWordOrNumber_163 (by decide) ?_
                refine va_put (D := (dC, dI)) (ci := 4) (v := .int 4) (ty := (tyX4 7)) (C := RX4) (T := TX4) (N := 10) hx hb hts hin4 tyX4 tyX4_ok nmX4 hown hK hP hD hS 0 rfl rfl 7 (by decide) (hts (.fieldLink RX4 29 "YamRiders$StatuteReader" "token" "I") (by decide +kernel)) (fun _ h9 => h9) rfl (by decide +kernel) rfl rfl (Nat.le_of_ble_eq_true rfl) dX4_readWordOrNumber_164 (fun H locs hP hD hS => ?_)
                have hP : va_P (dC, dI) vwCl ([(h0, .inr (4, [.ref t1, .ref t2, .ref t3, .int i_ruleCount, .int i_faultKind, .int i_faultPlace, .int (nI (t8 + k)), .int 4, .int (nI t8), .int va8])), (t1, .inr (7, [.ref u1, .int (nI ln)])), (u1, .inl (cs 0, 200, .inl a_b))] ++ va_pl L f) H := hP
                have hD : va_D A ([(h0, .inr (4, [.ref t1, .ref t2, .ref t3, .int i_ruleCount, .int i_faultKind, .int i_faultPlace, .int (nI (t8 + k)), .int 4, .int (nI t8), .int va8])), (t1, .inr (7, [.ref u1, .int (nI ln)])), (u1, .inl (cs 0, 200, .inl a_b))] ++ va_pl L f) := hD
                have hP9 := hP.part (cx := [(h0, .inr (4, [.ref t1, .ref t2, .ref t3, .int i_ruleCount, .int i_faultKind, .int i_faultPlace, .int (nI (t8 + k)), .int 4, .int (nI t8), .int va8])), (t1, .inr (7, [.ref u1, .int (nI ln)])), (u1, .inl (cs 0, 200, .inl a_b))]) [0, 1, 2] rfl
                have hD9 := hD.part (cx := [(h0, .inr (4, [.ref t1, .ref t2, .ref t3, .int i_ruleCount, .int i_faultKind, .int i_faultPlace, .int (nI (t8 + k)), .int 4, .int (nI t8), .int va8])), (t1, .inr (7, [.ref u1, .int (nI ln)])), (u1, .inl (cs 0, 200, .inl a_b))]) [0, 1, 2] (by decide) rfl
                have hK9 := hK.sub (tys' := []) [] rfl
                refine W.widen (k := 0) (n := 0) (Nat.le_of_ble_eq_true rfl) (Nat.le_of_ble_eq_true rfl) ?_
                exact W.vret hx hb hr (fun t9 ht hW => ⟨⟨(), rfl, trivial, (t8 + k), 4, va8, (by omega), (RW_e hRW (by omega) (by rw [PB_o ((nI_leI (by omega) (by omega)).mp c_1)]; exact LO_m1) (Or.inr (Or.inr ⟨rfl, (Or.inr c_5), (Or.inr (Or.inr c_8))⟩))), by rw [ht]; exact hP9, va_K.moved hW.alike hK9, hD9⟩, hS.F ht⟩) hS.2.2 dX4_readWordOrNumber_167
              · refine lv_aload_n hx hb dX4_readWordOrNumber_154 rfl (lv_at hl 1 rfl) ?_
                refine lv_iconst (v := 2) hx hb dX4_readWordOrNumber_155 (by decide) ?_
                refine va_put (D := (dC, dI)) (ci := 4) (v := .int 2) (ty := (tyX4 7)) (C := RX4) (T := TX4) (N := 10) hx hb hts hin4 tyX4 tyX4_ok nmX4 hown hK hP hD hS 0 rfl rfl 7 (by decide) (hts (.fieldLink RX4 29 "YamRiders$StatuteReader" "token" "I") (by decide +kernel)) (fun _ h9 => h9) rfl (by decide +kernel) rfl rfl (Nat.le_of_ble_eq_true rfl) dX4_readWordOrNumber_156 (fun H locs hP hD hS => ?_)
                have hP : va_P (dC, dI) vwCl ([(h0, .inr (4, [.ref t1, .ref t2, .ref t3, .int i_ruleCount, .int i_faultKind, .int i_faultPlace, .int (nI (t8 + k)), .int 2, .int (nI t8), .int va8])), (t1, .inr (7, [.ref u1, .int (nI ln)])), (u1, .inl (cs 0, 200, .inl a_b))] ++ va_pl L f) H := hP
                have hD : va_D A ([(h0, .inr (4, [.ref t1, .ref t2, .ref t3, .int i_ruleCount, .int i_faultKind, .int i_faultPlace, .int (nI (t8 + k)), .int 2, .int (nI t8), .int va8])), (t1, .inr (7, [.ref u1, .int (nI ln)])), (u1, .inl (cs 0, 200, .inl a_b))] ++ va_pl L f) := hD
                refine lv_goto (tgt := 167) hx hb dX4_readWordOrNumber_159 (by decide) ?_
                have hP9 := hP.part (cx := [(h0, .inr (4, [.ref t1, .ref t2, .ref t3, .int i_ruleCount, .int i_faultKind, .int i_faultPlace, .int (nI (t8 + k)), .int 2, .int (nI t8), .int va8])), (t1, .inr (7, [.ref u1, .int (nI ln)])), (u1, .inl (cs 0, 200, .inl a_b))]) [0, 1, 2] rfl
                have hD9 := hD.part (cx := [(h0, .inr (4, [.ref t1, .ref t2, .ref t3, .int i_ruleCount, .int i_faultKind, .int i_faultPlace, .int (nI (t8 + k)), .int 2, .int (nI t8), .int va8])), (t1, .inr (7, [.ref u1, .int (nI ln)])), (u1, .inl (cs 0, 200, .inl a_b))]) [0, 1, 2] (by decide) rfl
                have hK9 := hK.sub (tys' := []) [] rfl
                refine W.widen (k := 0) (n := 0) (Nat.le_of_ble_eq_true rfl) (Nat.le_of_ble_eq_true rfl) ?_
                exact W.vret hx hb hr (fun t9 ht hW => ⟨⟨(), rfl, trivial, (t8 + k), 2, va8, (by omega), (RW_e hRW (by omega) (by rw [PB_o ((nI_leI (by omega) (by omega)).mp c_1)]; exact LO_m1) (Or.inr (Or.inl ⟨rfl, c_3, (Int32.not_lt.mp c_7), c_8⟩))), by rw [ht]; exact hP9, va_K.moved hW.alike hK9, hD9⟩, hS.F ht⟩) hS.2.2 dX4_readWordOrNumber_167
          · refine lv_aload_n hx hb dX4_readWordOrNumber_132 rfl (lv_at hl 1 rfl) ?_
            refine lv_iconst (v := 1) hx hb dX4_readWordOrNumber_133 (by decide) ?_
            refine va_put (D := (dC, dI)) (ci := 4) (v := .int 1) (ty := (tyX4 7)) (C := RX4) (T := TX4) (N := 10) hx hb hts hin4 tyX4 tyX4_ok nmX4 hown hK hP hD hS 0 rfl rfl 7 (by decide) (hts (.fieldLink RX4 29 "YamRiders$StatuteReader" "token" "I") (by decide +kernel)) (fun _ h9 => h9) rfl (by decide +kernel) rfl rfl (Nat.le_of_ble_eq_true rfl) dX4_readWordOrNumber_134 (fun H locs hP hD hS => ?_)
            have hP : va_P (dC, dI) vwCl ([(h0, .inr (4, [.ref t1, .ref t2, .ref t3, .int i_ruleCount, .int i_faultKind, .int i_faultPlace, .int (nI (t8 + k)), .int 1, .int (nI t8), .int va8])), (t1, .inr (7, [.ref u1, .int (nI ln)])), (u1, .inl (cs 0, 200, .inl a_b))] ++ va_pl L f) H := hP
            have hD : va_D A ([(h0, .inr (4, [.ref t1, .ref t2, .ref t3, .int i_ruleCount, .int i_faultKind, .int i_faultPlace, .int (nI (t8 + k)), .int 1, .int (nI t8), .int va8])), (t1, .inr (7, [.ref u1, .int (nI ln)])), (u1, .inl (cs 0, 200, .inl a_b))] ++ va_pl L f) := hD
            refine lv_goto (tgt := 167) hx hb dX4_readWordOrNumber_137 (by decide) ?_
            have hP9 := hP.part (cx := [(h0, .inr (4, [.ref t1, .ref t2, .ref t3, .int i_ruleCount, .int i_faultKind, .int i_faultPlace, .int (nI (t8 + k)), .int 1, .int (nI t8), .int va8])), (t1, .inr (7, [.ref u1, .int (nI ln)])), (u1, .inl (cs 0, 200, .inl a_b))]) [0, 1, 2] rfl
            have hD9 := hD.part (cx := [(h0, .inr (4, [.ref t1, .ref t2, .ref t3, .int i_ruleCount, .int i_faultKind, .int i_faultPlace, .int (nI (t8 + k)), .int 1, .int (nI t8), .int va8])), (t1, .inr (7, [.ref u1, .int (nI ln)])), (u1, .inl (cs 0, 200, .inl a_b))]) [0, 1, 2] (by decide) rfl
            have hK9 := hK.sub (tys' := []) [] rfl
            refine W.widen (k := 0) (n := 0) (Nat.le_of_ble_eq_true rfl) (Nat.le_of_ble_eq_true rfl) ?_
            exact W.vret hx hb hr (fun t9 ht hW => ⟨⟨(), rfl, trivial, (t8 + k), 1, va8, (by omega), (RW_e hRW (by omega) (by rw [PB_o ((nI_leI (by omega) (by omega)).mp c_1)]; exact LO_m1) (Or.inl ⟨rfl, c_3, c_5⟩)), by rw [ht]; exact hP9, va_K.moved hW.alike hK9, hD9⟩, hS.F ht⟩) hS.2.2 dX4_readWordOrNumber_167
      · refine lv_aload_n hx hb dX4_readWordOrNumber_23 rfl (lv_at hl 0 rfl) ?_
        refine va_get (D := (dC, dI)) (ci := 4) (v := .ref t1) (C := RX4) (T := TX4) (N := 10) hx hb hts hin4 hown hK hP 0 rfl rfl 0 (by decide) (hts (.fieldLink RX4 22 "YamRiders$StatuteReader" "tape" "LYamRiders$Tape;") (by decide +kernel)) (fun _ h9 => h9) rfl dX4_readWordOrNumber_24 ?_
        refine lv_aload_n hx hb dX4_readWordOrNumber_27 rfl (lv_at hl 0 rfl) ?_
        refine va_get (D := (dC, dI)) (ci := 4) (v := .int (nI (t8 + k))) (C := RX4) (T := TX4) (N := 10) hx hb hts hin4 hown hK hP 0 rfl rfl 6 (by decide) (hts (.fieldLink RX4 96 "YamRiders$StatuteReader" "place" "I") (by decide +kernel)) (fun _ h9 => h9) rfl dX4_readWordOrNumber_28 ?_
        have hPc := hP.sub (ws' := [(t1, .inr (7, [.ref u1, .int (nI ln)])), (u1, .inl (cs 0, 200, .inl a_b))]) [1, 2] rfl
        have hDc := hD.sub (ws' := [(t1, .inr (7, [.ref u1, .int (nI ln)])), (u1, .inl (cs 0, 200, .inl a_b))]) [1, 2] (by decide) rfl
        have hKc := hK.sub (tys' := [(cs 0, .int)]) [0] rfl
        refine cs_i (va_runV (As := [.int (nI (t8 + k))]) (rest := []) ⟨hx, hb, hml, hown, hts⟩ (s_X7_byteAt l dC dI t1 u1 (cs 0) a_b ln (t8 + k) H.size (by omega) (by omega)) (cwV 1 hts gX4_readWordOrNumber_X7_byteAt rfl rfl rfl (by decide +kernel) ⟨Nat.le_of_ble_eq_true rfl, Nat.le_of_ble_eq_true rfl⟩) ⟨c_blind, va_recv hKc hPc (ci := 7) (q0 := 0) rfl rfl, c_pre hPc hKc hDc hN⟩ rfl rfl hl.1 rfl (lv_room (Nat.le_of_ble_eq_true rfl)) dX4_readWordOrNumber_31 ⟨Nat.le_of_ble_eq_true rfl, Nat.le_of_ble_eq_true rfl⟩) (fun r_9 hr_9 => ?_)
        subst hr_9
        have hPc := hP.part (cx := []) [] rfl
        have hDc := hD.part (cx := []) [] (by decide) rfl
        have hKc := hK
        refine cs_i (va_runS (As := [.int (PBy a_b ln (t8 + k))]) (rest := []) ⟨hx, hb, hml, hown, hts⟩ (s_X4_isLetterOrDigit l dC dI cs L ka ix ad n0 n6 n2 S f (PBy a_b ln (t8 + k)) H.size hT) (va_cwS 1 hts gX4_readWordOrNumber_X4_isLetterOrDigit rfl rfl rfl (by decide +kernel) ⟨Nat.le_of_ble_eq_true rfl, Nat.le_of_ble_eq_true rfl⟩) ⟨c_blind, c_pre hPc hKc hDc hN⟩ rfl rfl hl.1 rfl (lv_room (Nat.le_of_ble_eq_true rfl)) dX4_readWordOrNumber_34 ⟨Nat.le_of_ble_eq_true rfl, Nat.le_of_ble_eq_true rfl⟩) (fun r_10 hr_10 => ?_)
        refine lv_if_eq (tgt := 113) hx hb dX4_readWordOrNumber_37 (by decide) (fun c_11 => ?_) (fun c_11 => ?_)
        · refine lv_aload_n hx hb dX4_readWordOrNumber_113 rfl (lv_at hl 0 rfl) ?_
          refine va_get (D := (dC, dI)) (ci := 4) (v := .int (nI (t8 + k))) (C := RX4) (T := TX4) (N := 10) hx hb hts hin4 hown hK hP 0 rfl rfl 6 (by decide) (hts (.fieldLink RX4 96 "YamRiders$StatuteReader" "place" "I") (by decide +kernel)) (fun _ h9 => h9) rfl dX4_readWordOrNumber_114 ?_
          refine lv_aload_n hx hb dX4_readWordOrNumber_117 rfl (lv_at hl 0 rfl) ?_
          refine va_get (D := (dC, dI)) (ci := 4) (v := .int (nI t8)) (C := RX4) (T := TX4) (N := 10) hx hb hts hin4 hown hK hP 0 rfl rfl 8 (by decide) (hts (.fieldLink RX4 90 "YamRiders$StatuteReader" "tokenPlace" "I") (by decide +kernel)) (fun _ h9 => h9) rfl dX4_readWordOrNumber_118 ?_
          refine lv_isub hx hb dX4_readWordOrNumber_121 ?_
          refine lv_topi (fun y_12 ey_12 => ?_)
          obtain rfl : y_12 = nI k := ey_12.trans (nI_sb (by omega))
          refine lv_istore_n (lv' := [(3, .int (nI k)), (0, .ref h0), (1, .int x1), (2, .int x2)]) hx hb dX4_readWordOrNumber_122 rfl hl (by decide) rfl (fun ls hl => ?_)
          refine lv_iload_n hx hb dX4_readWordOrNumber_123 rfl (lv_at hl 0 rfl) ?_
          refine lv_if_le (tgt := 140) hx hb dX4_readWordOrNumber_124 (by decide) (fun c_13 => ?_) (fun c_13 => ?_)
          · refine lv_iload_n hx hb dX4_readWordOrNumber_140 rfl (lv_at hl 0 rfl) ?_
            refine lv_if_le (tgt := 162) hx hb dX4_readWordOrNumber_141 (by decide) (fun _ => ?_) (fun c_14 => by first | exact absurd c_14 c_13 | exact absurd c_13 c_14)
            refine lv_aload_n hx hb dX4_readWordOrNumber_162 rfl (lv_at hl 1 rfl) ?_
            refine lv_iconst (v := 4) hx hb dX4_readWordOrNumber_163 (by decide) ?_
            refine va_put (D := (dC, dI)) (ci := 4) (v := .int 4) (ty := (tyX4 7)) (C := RX4) (T := TX4) (N := 10) hx hb hts hin4 tyX4 tyX4_ok nmX4 hown hK hP hD hS 0 rfl rfl 7 (by decide) (hts (.fieldLink RX4 29 "YamRiders$StatuteReader" "token" "I") (by decide +kernel)) (fun _ h9 => h9) rfl (by decide +kernel) rfl rfl (Nat.le_of_ble_eq_true rfl) dX4_readWordOrNumber_164 (fun H locs hP hD hS => ?_)
            have hP : va_P (dC, dI) vwCl ([(h0, .inr (4, [.ref t1, .ref t2, .ref t3, .int i_ruleCount, .int i_faultKind, .int i_faultPlace, .int (nI (t8 + k)), .int 4, .int (nI t8), .int va8])), (t1, .inr (7, [.ref u1, .int (nI ln)])), (u1, .inl (cs 0, 200, .inl a_b))] ++ va_pl L f) H := hP
            have hD : va_D A ([(h0, .inr (4, [.ref t1, .ref t2, .ref t3, .int i_ruleCount, .int i_faultKind, .int i_faultPlace, .int (nI (t8 + k)), .int 4, .int (nI t8), .int va8])), (t1, .inr (7, [.ref u1, .int (nI ln)])), (u1, .inl (cs 0, 200, .inl a_b))] ++ va_pl L f) := hD
            have hP9 := hP.part (cx := [(h0, .inr (4, [.ref t1, .ref t2, .ref t3, .int i_ruleCount, .int i_faultKind, .int i_faultPlace, .int (nI (t8 + k)), .int 4, .int (nI t8), .int va8])), (t1, .inr (7, [.ref u1, .int (nI ln)])), (u1, .inl (cs 0, 200, .inl a_b))]) [0, 1, 2] rfl
            have hD9 := hD.part (cx := [(h0, .inr (4, [.ref t1, .ref t2, .ref t3, .int i_ruleCount, .int i_faultKind, .int i_faultPlace, .int (nI (t8 + k)), .int 4, .int (nI t8), .int va8])), (t1, .inr (7, [.ref u1, .int (nI ln)])), (u1, .inl (cs 0, 200, .inl a_b))]) [0, 1, 2] (by decide) rfl
            have hK9 := hK.sub (tys' := []) [] rfl
            refine W.widen (k := 0) (n := 0) (Nat.le_of_ble_eq_true rfl) (Nat.le_of_ble_eq_true rfl) ?_
            exact W.vret hx hb hr (fun t9 ht hW => ⟨⟨(), rfl, trivial, (t8 + k), 4, va8, (by omega), (RW_e hRW (by omega) (yn_n hr_10 c_11) (Or.inr (Or.inr ⟨rfl, (Or.inl c_13), (Or.inl c_13)⟩))), by rw [ht]; exact hP9, va_K.moved hW.alike hK9, hD9⟩, hS.F ht⟩) hS.2.2 dX4_readWordOrNumber_167
          · refine lv_iload_n hx hb dX4_readWordOrNumber_127 rfl (lv_at hl 2 rfl) ?_
            refine lv_iload_n hx hb dX4_readWordOrNumber_128 rfl (lv_at hl 0 rfl) ?_
            refine lv_icmp_ne (tgt := 140) hx hb dX4_readWordOrNumber_129 (by decide) (fun c_15 => ?_) (fun c_15 => ?_)
            · refine lv_iload_n hx hb dX4_readWordOrNumber_140 rfl (lv_at hl 0 rfl) ?_
              refine lv_if_le (tgt := 162) hx hb dX4_readWordOrNumber_141 (by decide) (fun c_16 => by first | exact absurd c_16 c_13 | exact absurd c_13 c_16) (fun _ => ?_)
              refine lv_iload_n hx hb dX4_readWordOrNumber_144 rfl (lv_at hl 0 rfl) ?_
              refine lv_iconst (v := 3) hx hb dX4_readWordOrNumber_145 (by decide) ?_
              refine lv_icmp_gt (tgt := 162) hx hb dX4_readWordOrNumber_146 (by decide) (fun c_17 => ?_) (fun c_17 => ?_)
              · refine lv_aload_n hx hb dX4_readWordOrNumber_162 rfl (lv_at hl 1 rfl) ?_
                refine lv_iconst (v := 4) hx hb dX4_readWordOrNumber_163 (by decide) ?_
                refine va_put (D := (dC, dI)) (ci := 4) (v := .int 4) (ty := (tyX4 7)) (C := RX4) (T := TX4) (N := 10) hx hb hts hin4 tyX4 tyX4_ok nmX4 hown hK hP hD hS 0 rfl rfl 7 (by decide) (hts (.fieldLink RX4 29 "YamRiders$StatuteReader" "token" "I") (by decide +kernel)) (fun _ h9 => h9) rfl (by decide +kernel) rfl rfl (Nat.le_of_ble_eq_true rfl) dX4_readWordOrNumber_164 (fun H locs hP hD hS => ?_)
                have hP : va_P (dC, dI) vwCl ([(h0, .inr (4, [.ref t1, .ref t2, .ref t3, .int i_ruleCount, .int i_faultKind, .int i_faultPlace, .int (nI (t8 + k)), .int 4, .int (nI t8), .int va8])), (t1, .inr (7, [.ref u1, .int (nI ln)])), (u1, .inl (cs 0, 200, .inl a_b))] ++ va_pl L f) H := hP
                have hD : va_D A ([(h0, .inr (4, [.ref t1, .ref t2, .ref t3, .int i_ruleCount, .int i_faultKind, .int i_faultPlace, .int (nI (t8 + k)), .int 4, .int (nI t8), .int va8])), (t1, .inr (7, [.ref u1, .int (nI ln)])), (u1, .inl (cs 0, 200, .inl a_b))] ++ va_pl L f) := hD
                have hP9 := hP.part (cx := [(h0, .inr (4, [.ref t1, .ref t2, .ref t3, .int i_ruleCount, .int i_faultKind, .int i_faultPlace, .int (nI (t8 + k)), .int 4, .int (nI t8), .int va8])), (t1, .inr (7, [.ref u1, .int (nI ln)])), (u1, .inl (cs 0, 200, .inl a_b))]) [0, 1, 2] rfl
                have hD9 := hD.part (cx := [(h0, .inr (4, [.ref t1, .ref t2, .ref t3, .int i_ruleCount, .int i_faultKind, .int i_faultPlace, .int (nI (t8 + k)), .int 4, .int (nI t8), .int va8])), (t1, .inr (7, [.ref u1, .int (nI ln)])), (u1, .inl (cs 0, 200, .inl a_b))]) [0, 1, 2] (by decide) rfl
                have hK9 := hK.sub (tys' := []) [] rfl
                refine W.widen (k := 0) (n := 0) (Nat.le_of_ble_eq_true rfl) (Nat.le_of_ble_eq_true rfl) ?_
                exact W.vret hx hb hr (fun t9 ht hW => ⟨⟨(), rfl, trivial, (t8 + k), 4, va8, (by omega), (RW_e hRW (by omega) (yn_n hr_10 c_11) (Or.inr (Or.inr ⟨rfl, (Or.inr c_15), (Or.inr (Or.inl (Int32.not_le.mpr c_17)))⟩))), by rw [ht]; exact hP9, va_K.moved hW.alike hK9, hD9⟩, hS.F ht⟩) hS.2.2 dX4_readWordOrNumber_167
              · refine lv_iload_n hx hb dX4_readWordOrNumber_149 rfl (lv_at hl 3 rfl) ?_
                refine lv_iload_n hx hb dX4_readWordOrNumber_150 rfl (lv_at hl 0 rfl) ?_
                refine lv_icmp_ne (tgt := 162) hx hb dX4_readWordOrNumber_151 (by decide) (fun c_18 => ?_) (fun c_18 => ?_)
                · refine lv_aload_n hx hb dX4_readWordOrNumber_162 rfl (lv_at hl 1 rfl) ?_
                  refine lv_iconst (v := 4) hx hb dX4_readWordOrNumber_163 (by decide) ?_
                  refine va_put (D := (dC, dI)) (ci := 4) (v := .int 4) (ty := (tyX4 7)) (C := RX4) (T := TX4) (N := 10) hx hb hts hin4 tyX4 tyX4_ok nmX4 hown hK hP hD hS 0 rfl rfl 7 (by decide) (hts (.fieldLink RX4 29 "YamRiders$StatuteReader" "token" "I") (by decide +kernel)) (fun _ h9 => h9) rfl (by decide +kernel) rfl rfl (Nat.le_of_ble_eq_true rfl) dX4_readWordOrNumber_164 (fun H locs hP hD hS => ?_)
                  have hP : va_P (dC, dI) vwCl ([(h0, .inr (4, [.ref t1, .ref t2, .ref t3, .int i_ruleCount, .int i_faultKind, .int i_faultPlace, .int (nI (t8 + k)), .int 4, .int (nI t8), .int va8])), (t1, .inr (7, [.ref u1, .int (nI ln)])), (u1, .inl (cs 0, 200, .inl a_b))] ++ va_pl L f) H := hP
                  have hD : va_D A ([(h0, .inr (4, [.ref t1, .ref t2, .ref t3, .int i_ruleCount, .int i_faultKind, .int i_faultPlace, .int (nI (t8 + k)), .int 4, .int (nI t8), .int va8])), (t1, .inr (7, [.ref u1, .int (nI ln)])), (u1, .inl (cs 0, 200, .inl a_b))] ++ va_pl L f) := hD
                  have hP9 := hP.part (cx := [(h0, .inr (4, [.ref t1, .ref t2, .ref t3, .int i_ruleCount, .int i_faultKind, .int i_faultPlace, .int (nI (t8 + k)), .int 4, .int (nI t8), .int va8])), (t1, .inr (7, [.ref u1, .int (nI ln)])), (u1, .inl (cs 0, 200, .inl a_b))]) [0, 1, 2] rfl
                  have hD9 := hD.part (cx := [(h0, .inr (4, [.ref t1, .ref t2, .ref t3, .int i_ruleCount, .int i_faultKind, .int i_faultPlace, .int (nI (t8 + k)), .int 4, .int (nI t8), .int va8])), (t1, .inr (7, [.ref u1, .int (nI ln)])), (u1, .inl (cs 0, 200, .inl a_b))]) [0, 1, 2] (by decide) rfl
                  have hK9 := hK.sub (tys' := []) [] rfl
                  refine W.widen (k := 0) (n := 0) (Nat.le_of_ble_eq_true rfl) (Nat.le_of_ble_eq_true rfl) ?_
                  exact W.vret hx hb hr (fun t9 ht hW => ⟨⟨(), rfl, trivial, (t8 + k), 4, va8, (by omega), (RW_e hRW (by omega) (yn_n hr_10 c_11) (Or.inr (Or.inr ⟨rfl, (Or.inr c_15), (Or.inr (Or.inr c_18))⟩))), by rw [ht]; exact hP9, va_K.moved hW.alike hK9, hD9⟩, hS.F ht⟩) hS.2.2 dX4_readWordOrNumber_167
                · refine lv_aload_n hx hb dX4_readWordOrNumber_154 rfl (lv_at hl 1 rfl) ?_
                  refine lv_iconst (v := 2) hx hb dX4_readWordOrNumber_155 (by decide) ?_
                  refine va_put (D := (dC, dI)) (ci := 4) (v := .int 2) (ty := (tyX4 7)) (C := RX4) (T := TX4) (N := 10) hx hb hts hin4 tyX4 tyX4_ok nmX4 hown hK hP hD hS 0 rfl rfl 7 (by decide) (hts (.fieldLink RX4 29 "YamRiders$StatuteReader" "token" "I") (by decide +kernel)) (fun _ h9 => h9) rfl (by decide +kernel) rfl rfl (Nat.le_of_ble_eq_true rfl) dX4_readWordOrNumber_156 (fun H locs hP hD hS => ?_)
                  have hP : va_P (dC, dI) vwCl ([(h0, .inr (4, [.ref t1, .ref t2, .ref t3, .int i_ruleCount, .int i_faultKind, .int i_faultPlace, .int (nI (t8 + k)), .int 2, .int (nI t8), .int va8])), (t1, .inr (7, [.ref u1, .int (nI ln)])), (u1, .inl (cs 0, 200, .inl a_b))] ++ va_pl L f) H := hP
                  have hD : va_D A ([(h0, .inr (4, [.ref t1, .ref t2, .ref t3, .int i_ruleCount, .int i_faultKind, .int i_faultPlace, .int (nI (t8 + k)), .int 2, .int (nI t8), .int va8])), (t1, .inr (7, [.ref u1, .int (nI ln)])), (u1, .inl (cs 0, 200, .inl a_b))] ++ va_pl L f) := hD
                  refine lv_goto (tgt := 167) hx hb dX4_readWordOrNumber_159 (by decide) ?_
                  have hP9 := hP.part (cx := [(h0, .inr (4, [.ref t1, .ref t2, .ref t3, .int i_ruleCount, .int i_faultKind, .int i_faultPlace, .int (nI (t8 + k)), .int 2, .int (nI t8), .int va8])), (t1, .inr (7, [.ref u1, .int (nI ln)])), (u1, .inl (cs 0, 200, .inl a_b))]) [0, 1, 2] rfl
                  have hD9 := hD.part (cx := [(h0, .inr (4, [.ref t1, .ref t2, .ref t3, .int i_ruleCount, .int i_faultKind, .int i_faultPlace, .int (nI (t8 + k)), .int 2, .int (nI t8), .int va8])), (t1, .inr (7, [.ref u1, .int (nI ln)])), (u1, .inl (cs 0, 200, .inl a_b))]) [0, 1, 2] (by decide) rfl
                  have hK9 := hK.sub (tys' := []) [] rfl
                  refine W.widen (k := 0) (n := 0) (Nat.le_of_ble_eq_true rfl) (Nat.le_of_ble_eq_true rfl) ?_
                  exact W.vret hx hb hr (fun t9 ht hW => ⟨⟨(), rfl, trivial, (t8 + k), 2, va8, (by omega), (RW_e hRW (by omega) (yn_n hr_10 c_11) (Or.inr (Or.inl ⟨rfl, c_13, (Int32.not_lt.mp c_17), c_18⟩))), by rw [ht]; exact hP9, va_K.moved hW.alike hK9, hD9⟩, hS.F ht⟩) hS.2.2 dX4_readWordOrNumber_167
            · refine lv_aload_n hx hb dX4_readWordOrNumber_132 rfl (lv_at hl 1 rfl) ?_
              refine lv_iconst (v := 1) hx hb dX4_readWordOrNumber_133 (by decide) ?_
              refine va_put (D := (dC, dI)) (ci := 4) (v := .int 1) (ty := (tyX4 7)) (C := RX4) (T := TX4) (N := 10) hx hb hts hin4 tyX4 tyX4_ok nmX4 hown hK hP hD hS 0 rfl rfl 7 (by decide) (hts (.fieldLink RX4 29 "YamRiders$StatuteReader" "token" "I") (by decide +kernel)) (fun _ h9 => h9) rfl (by decide +kernel) rfl rfl (Nat.le_of_ble_eq_true rfl) dX4_readWordOrNumber_134 (fun H locs hP hD hS => ?_)
              have hP : va_P (dC, dI) vwCl ([(h0, .inr (4, [.ref t1, .ref t2, .ref t3, .int i_ruleCount, .int i_faultKind, .int i_faultPlace, .int (nI (t8 + k)), .int 1, .int (nI t8), .int va8])), (t1, .inr (7, [.ref u1, .int (nI ln)])), (u1, .inl (cs 0, 200, .inl a_b))] ++ va_pl L f) H := hP
              have hD : va_D A ([(h0, .inr (4, [.ref t1, .ref t2, .ref t3, .int i_ruleCount, .int i_faultKind, .int i_faultPlace, .int (nI (t8 + k)), .int 1, .int (nI t8), .int va8])), (t1, .inr (7, [.ref u1, .int (nI ln)])), (u1, .inl (cs 0, 200, .inl a_b))] ++ va_pl L f) := hD
              refine lv_goto (tgt := 167) hx hb dX4_readWordOrNumber_137 (by decide) ?_
              have hP9 := hP.part (cx := [(h0, .inr (4, [.ref t1, .ref t2, .ref t3, .int i_ruleCount, .int i_faultKind, .int i_faultPlace, .int (nI (t8 + k)), .int 1, .int (nI t8), .int va8])), (t1, .inr (7, [.ref u1, .int (nI ln)])), (u1, .inl (cs 0, 200, .inl a_b))]) [0, 1, 2] rfl
              have hD9 := hD.part (cx := [(h0, .inr (4, [.ref t1, .ref t2, .ref t3, .int i_ruleCount, .int i_faultKind, .int i_faultPlace, .int (nI (t8 + k)), .int 1, .int (nI t8), .int va8])), (t1, .inr (7, [.ref u1, .int (nI ln)])), (u1, .inl (cs 0, 200, .inl a_b))]) [0, 1, 2] (by decide) rfl
              have hK9 := hK.sub (tys' := []) [] rfl
              refine W.widen (k := 0) (n := 0) (Nat.le_of_ble_eq_true rfl) (Nat.le_of_ble_eq_true rfl) ?_
              exact W.vret hx hb hr (fun t9 ht hW => ⟨⟨(), rfl, trivial, (t8 + k), 1, va8, (by omega), (RW_e hRW (by omega) (yn_n hr_10 c_11) (Or.inl ⟨rfl, c_13, c_15⟩)), by rw [ht]; exact hP9, va_K.moved hW.alike hK9, hD9⟩, hS.F ht⟩) hS.2.2 dX4_readWordOrNumber_167
        · refine lv_aload_n hx hb dX4_readWordOrNumber_40 rfl (lv_at hl 0 rfl) ?_
          refine va_get (D := (dC, dI)) (ci := 4) (v := .ref t1) (C := RX4) (T := TX4) (N := 10) hx hb hts hin4 hown hK hP 0 rfl rfl 0 (by decide) (hts (.fieldLink RX4 22 "YamRiders$StatuteReader" "tape" "LYamRiders$Tape;") (by decide +kernel)) (fun _ h9 => h9) rfl dX4_readWordOrNumber_41 ?_
          refine lv_aload_n hx hb dX4_readWordOrNumber_44 rfl (lv_at hl 0 rfl) ?_
          refine va_get (D := (dC, dI)) (ci := 4) (v := .int (nI (t8 + k))) (C := RX4) (T := TX4) (N := 10) hx hb hts hin4 hown hK hP 0 rfl rfl 6 (by decide) (hts (.fieldLink RX4 96 "YamRiders$StatuteReader" "place" "I") (by decide +kernel)) (fun _ h9 => h9) rfl dX4_readWordOrNumber_45 ?_
          have hPc := hP.sub (ws' := [(t1, .inr (7, [.ref u1, .int (nI ln)])), (u1, .inl (cs 0, 200, .inl a_b))]) [1, 2] rfl
          have hDc := hD.sub (ws' := [(t1, .inr (7, [.ref u1, .int (nI ln)])), (u1, .inl (cs 0, 200, .inl a_b))]) [1, 2] (by decide) rfl
          have hKc := hK.sub (tys' := [(cs 0, .int)]) [0] rfl
          refine cs_i (va_runV (As := [.int (nI (t8 + k))]) (rest := []) ⟨hx, hb, hml, hown, hts⟩ (s_X7_byteAt l dC dI t1 u1 (cs 0) a_b ln (t8 + k) H.size (by omega) (by omega)) (cwV 1 hts gX4_readWordOrNumber_X7_byteAt rfl rfl rfl (by decide +kernel) ⟨Nat.le_of_ble_eq_true rfl, Nat.le_of_ble_eq_true rfl⟩) ⟨c_blind, va_recv hKc hPc (ci := 7) (q0 := 0) rfl rfl, c_pre hPc hKc hDc hN⟩ rfl rfl hl.1 rfl (lv_room (Nat.le_of_ble_eq_true rfl)) dX4_readWordOrNumber_48 ⟨Nat.le_of_ble_eq_true rfl, Nat.le_of_ble_eq_true rfl⟩) (fun r_19 hr_19 => ?_)
          subst hr_19
          refine lv_istore_n (lv' := [(3, .int (PBy a_b ln (t8 + k))), (0, .ref h0), (1, .int x1), (2, .int x2)]) hx hb dX4_readWordOrNumber_51 rfl hl (by decide) rfl (fun ls hl => ?_)
          refine lv_iload_n hx hb dX4_readWordOrNumber_52 rfl (lv_at hl 0 rfl) ?_
          have hPc := hP.part (cx := []) [] rfl
          have hDc := hD.part (cx := []) [] (by decide) rfl
          have hKc := hK
          refine cs_i (va_runS (As := [.int (PBy a_b ln (t8 + k))]) (rest := []) ⟨hx, hb, hml, hown, hts⟩ (s_X4_isSmallLetter l dC dI cs L ka ix ad n0 n6 n2 S f (PBy a_b ln (t8 + k)) H.size hT) (va_cwS 1 hts gX4_readWordOrNumber_X4_isSmallLetter rfl rfl rfl (by decide +kernel) ⟨Nat.le_of_ble_eq_true rfl, Nat.le_of_ble_eq_true rfl⟩) ⟨c_blind, c_pre hPc hKc hDc hN⟩ rfl rfl hl.1 rfl (lv_room (Nat.le_of_ble_eq_true rfl)) dX4_readWordOrNumber_53 ⟨Nat.le_of_ble_eq_true rfl, Nat.le_of_ble_eq_true rfl⟩) (fun r_20 hr_20 => ?_)
          refine lv_if_eq (tgt := 65) hx hb dX4_readWordOrNumber_56 (by decide) (fun c_21 => ?_) (fun c_21 => ?_)
          · refine lv_iload_n hx hb dX4_readWordOrNumber_65 rfl (lv_at hl 0 rfl) ?_
            have hPc := hP.part (cx := []) [] rfl
            have hDc := hD.part (cx := []) [] (by decide) rfl
            have hKc := hK
            refine cs_i (va_runS (As := [.int (PBy a_b ln (t8 + k))]) (rest := []) ⟨hx, hb, hml, hown, hts⟩ (s_X4_isDigit l dC dI cs L ka ix ad n0 n6 n2 S f (PBy a_b ln (t8 + k)) H.size hT) (va_cwS 1 hts gX4_readWordOrNumber_X4_isDigit rfl rfl rfl (by decide +kernel) ⟨Nat.le_of_ble_eq_true rfl, Nat.le_of_ble_eq_true rfl⟩) ⟨c_blind, c_pre hPc hKc hDc hN⟩ rfl rfl hl.1 rfl (lv_room (Nat.le_of_ble_eq_true rfl)) dX4_readWordOrNumber_66 ⟨Nat.le_of_ble_eq_true rfl, Nat.le_of_ble_eq_true rfl⟩) (fun r_22 hr_22 => ?_)
            refine lv_if_eq (tgt := 100) hx hb dX4_readWordOrNumber_69 (by decide) (fun c_23 => ?_) (fun c_23 => ?_)
            · refine lv_aload_n hx hb dX4_readWordOrNumber_100 rfl (lv_at hl 1 rfl) ?_
              refine lv_dup hx hb dX4_readWordOrNumber_101 rfl ?_
              refine va_get (D := (dC, dI)) (ci := 4) (v := .int (nI (t8 + k))) (C := RX4) (T := TX4) (N := 10) hx hb hts hin4 hown hK hP 0 rfl rfl 6 (by decide) (hts (.fieldLink RX4 96 "YamRiders$StatuteReader" "place" "I") (by decide +kernel)) (fun _ h9 => h9) rfl dX4_readWordOrNumber_102 ?_
              refine lv_iconst (v := 1) hx hb dX4_readWordOrNumber_105 (by decide) ?_
              refine lv_iadd hx hb dX4_readWordOrNumber_106 ?_
              refine lv_topi (fun y_24 ey_24 => ?_)
              obtain rfl : y_24 = nI ((t8 + k) + 1) := ey_24.trans (nI_1 (t8 + k))
              refine va_put (D := (dC, dI)) (ci := 4) (v := .int (nI ((t8 + k) + 1))) (ty := (tyX4 6)) (C := RX4) (T := TX4) (N := 10) hx hb hts hin4 tyX4 tyX4_ok nmX4 hown hK hP hD hS 0 rfl rfl 6 (by decide) (hts (.fieldLink RX4 96 "YamRiders$StatuteReader" "place" "I") (by decide +kernel)) (fun _ h9 => h9) rfl (by decide +kernel) rfl rfl (Nat.le_of_ble_eq_true rfl) dX4_readWordOrNumber_107 (fun H locs hP hD hS => ?_)
              have hP : va_P (dC, dI) vwCl ([(h0, .inr (4, [.ref t1, .ref t2, .ref t3, .int i_ruleCount, .int i_faultKind, .int i_faultPlace, .int (nI ((t8 + k) + 1)), .int i_token, .int (nI t8), .int va8])), (t1, .inr (7, [.ref u1, .int (nI ln)])), (u1, .inl (cs 0, 200, .inl a_b))] ++ va_pl L f) H := hP
              have hD : va_D A ([(h0, .inr (4, [.ref t1, .ref t2, .ref t3, .int i_ruleCount, .int i_faultKind, .int i_faultPlace, .int (nI ((t8 + k) + 1)), .int i_token, .int (nI t8), .int va8])), (t1, .inr (7, [.ref u1, .int (nI ln)])), (u1, .inl (cs 0, 200, .inl a_b))] ++ va_pl L f) := hD
              refine lv_goto (tgt := 9) hx hb dX4_readWordOrNumber_110 (by decide) ?_
              have hk9 : t8 + k < ln := nI_nleq c_1 (by omega)
              exact ih (k + 1) x1 x2 va8 (by omega) (by omega) (RW_o hRW (yn_y hr_10 c_11) (yn_n hr_20 c_21) (yn_n hr_22 c_23)) _ _ (hP.part (cx := _) [0, 1, 2] rfl) (hD.part (cx := _) [0, 1, 2] (by decide) rfl) hS ls (lv_sub hl [1, 2, 3] rfl)
            · refine lv_iinc (v := x2 + 1) (lv' := [(2, .int (x2 + 1)), (3, .int (PBy a_b ln (t8 + k))), (0, .ref h0), (1, .int x1)]) hx hb dX4_readWordOrNumber_72 hl (k := 3) rfl rfl (by decide) rfl (fun ls hl => ?_)
              refine lv_aload_n hx hb dX4_readWordOrNumber_75 rfl (lv_at hl 2 rfl) ?_
              refine lv_iload_n hx hb dX4_readWordOrNumber_76 rfl (lv_at hl 0 rfl) ?_
              refine lv_iconst (v := 3) hx hb dX4_readWordOrNumber_77 (by decide) ?_
              refine lv_icmp_gt (tgt := 96) hx hb dX4_readWordOrNumber_78 (by decide) (fun c_25 => ?_) (fun c_25 => ?_)
              · refine lv_iconst (v := 0) hx hb dX4_readWordOrNumber_96 (by decide) ?_
                refine va_put (D := (dC, dI)) (ci := 4) (v := .int 0) (ty := (tyX4 9)) (C := RX4) (T := TX4) (N := 10) hx hb hts hin4 tyX4 tyX4_ok nmX4 hown hK hP hD hS 0 rfl rfl 9 (by decide) (hts (.fieldLink RX4 52 "YamRiders$StatuteReader" "value" "I") (by decide +kernel)) (fun _ h9 => h9) rfl (by decide +kernel) rfl rfl (Nat.le_of_ble_eq_true rfl) dX4_readWordOrNumber_97 (fun H locs hP hD hS => ?_)
                have hP : va_P (dC, dI) vwCl ([(h0, .inr (4, [.ref t1, .ref t2, .ref t3, .int i_ruleCount, .int i_faultKind, .int i_faultPlace, .int (nI (t8 + k)), .int i_token, .int (nI t8), .int 0])), (t1, .inr (7, [.ref u1, .int (nI ln)])), (u1, .inl (cs 0, 200, .inl a_b))] ++ va_pl L f) H := hP
                have hD : va_D A ([(h0, .inr (4, [.ref t1, .ref t2, .ref t3, .int i_ruleCount, .int i_faultKind, .int i_faultPlace, .int (nI (t8 + k)), .int i_token, .int (nI t8), .int 0])), (t1, .inr (7, [.ref u1, .int (nI ln)])), (u1, .inl (cs 0, 200, .inl a_b))] ++ va_pl L f) := hD
                refine lv_aload_n hx hb dX4_readWordOrNumber_100 rfl (lv_at hl 2 rfl) ?_
                refine lv_dup hx hb dX4_readWordOrNumber_101 rfl ?_
                refine va_get (D := (dC, dI)) (ci := 4) (v := .int (nI (t8 + k))) (C := RX4) (T := TX4) (N := 10) hx hb hts hin4 hown hK hP 0 rfl rfl 6 (by decide) (hts (.fieldLink RX4 96 "YamRiders$StatuteReader" "place" "I") (by decide +kernel)) (fun _ h9 => h9) rfl dX4_readWordOrNumber_102 ?_
                refine lv_iconst (v := 1) hx hb dX4_readWordOrNumber_105 (by decide) ?_
                refine lv_iadd hx hb dX4_readWordOrNumber_106 ?_
                refine lv_topi (fun y_26 ey_26 => ?_)
                obtain rfl : y_26 = nI ((t8 + k) + 1) := ey_26.trans (nI_1 (t8 + k))
                refine va_put (D := (dC, dI)) (ci := 4) (v := .int (nI ((t8 + k) + 1))) (ty := (tyX4 6)) (C := RX4) (T := TX4) (N := 10) hx hb hts hin4 tyX4 tyX4_ok nmX4 hown hK hP hD hS 0 rfl rfl 6 (by decide) (hts (.fieldLink RX4 96 "YamRiders$StatuteReader" "place" "I") (by decide +kernel)) (fun _ h9 => h9) rfl (by decide +kernel) rfl rfl (Nat.le_of_ble_eq_true rfl) dX4_readWordOrNumber_107 (fun H locs hP hD hS => ?_)
                have hP : va_P (dC, dI) vwCl ([(h0, .inr (4, [.ref t1, .ref t2, .ref t3, .int i_ruleCount, .int i_faultKind, .int i_faultPlace, .int (nI ((t8 + k) + 1)), .int i_token, .int (nI t8), .int 0])), (t1, .inr (7, [.ref u1, .int (nI ln)])), (u1, .inl (cs 0, 200, .inl a_b))] ++ va_pl L f) H := hP
                have hD : va_D A ([(h0, .inr (4, [.ref t1, .ref t2, .ref t3, .int i_ruleCount, .int i_faultKind, .int i_faultPlace, .int (nI ((t8 + k) + 1)), .int i_token, .int (nI t8), .int 0])), (t1, .inr (7, [.ref u1, .int (nI ln)])), (u1, .inl (cs 0, 200, .inl a_b))] ++ va_pl L f) := hD
                refine lv_goto (tgt := 9) hx hb dX4_readWordOrNumber_110 (by decide) ?_
                have hk9 : t8 + k < ln := nI_nleq c_1 (by omega)
                exact ih (k + 1) x1 (x2 + 1) 0 (by omega) (by omega) (RW_D hRW (by omega) (yn_y hr_22 c_23) (Or.inr (Int32.not_le.mpr c_25))) _ _ (hP.part (cx := _) [0, 1, 2] rfl) (hD.part (cx := _) [0, 1, 2] (by decide) rfl) hS ls (lv_sub hl [2, 3, 0] rfl)
              · refine lv_aload_n hx hb dX4_readWordOrNumber_81 rfl (lv_at hl 2 rfl) ?_
                refine va_get (D := (dC, dI)) (ci := 4) (v := .int va8) (C := RX4) (T := TX4) (N := 10) hx hb hts hin4 hown hK hP 0 rfl rfl 9 (by decide) (hts (.fieldLink RX4 52 "YamRiders$StatuteReader" "value" "I") (by decide +kernel)) (fun _ h9 => h9) rfl dX4_readWordOrNumber_82 ?_
                refine lv_bipush (v := 10) hx hb dX4_readWordOrNumber_85 (by decide) ?_
                refine lv_imul hx hb dX4_readWordOrNumber_87 ?_
                refine lv_iload_n hx hb dX4_readWordOrNumber_88 rfl (lv_at hl 1 rfl) ?_
                refine lv_iadd hx hb dX4_readWordOrNumber_89 ?_
                refine lv_bipush (v := 48) hx hb dX4_readWordOrNumber_90 (by decide) ?_
                refine lv_isub hx hb dX4_readWordOrNumber_92 ?_
                refine lv_goto (tgt := 97) hx hb dX4_readWordOrNumber_93 (by decide) ?_
                refine va_put (D := (dC, dI)) (ci := 4) (v := .int (((va8 * 10) + (PBy a_b ln (t8 + k))) - 48)) (ty := (tyX4 9)) (C := RX4) (T := TX4) (N := 10) hx hb hts hin4 tyX4 tyX4_ok nmX4 hown hK hP hD hS 0 rfl rfl 9 (by decide) (hts (.fieldLink RX4 52 "YamRiders$StatuteReader" "value" "I") (by decide +kernel)) (fun _ h9 => h9) rfl (by decide +kernel) rfl rfl (Nat.le_of_ble_eq_true rfl) dX4_readWordOrNumber_97 (fun H locs hP hD hS => ?_)
                have hP : va_P (dC, dI) vwCl ([(h0, .inr (4, [.ref t1, .ref t2, .ref t3, .int i_ruleCount, .int i_faultKind, .int i_faultPlace, .int (nI (t8 + k)), .int i_token, .int (nI t8), .int (((va8 * 10) + (PBy a_b ln (t8 + k))) - 48)])), (t1, .inr (7, [.ref u1, .int (nI ln)])), (u1, .inl (cs 0, 200, .inl a_b))] ++ va_pl L f) H := hP
                have hD : va_D A ([(h0, .inr (4, [.ref t1, .ref t2, .ref t3, .int i_ruleCount, .int i_faultKind, .int i_faultPlace, .int (nI (t8 + k)), .int i_token, .int (nI t8), .int (((va8 * 10) + (PBy a_b ln (t8 + k))) - 48)])), (t1, .inr (7, [.ref u1, .int (nI ln)])), (u1, .inl (cs 0, 200, .inl a_b))] ++ va_pl L f) := hD
                refine lv_aload_n hx hb dX4_readWordOrNumber_100 rfl (lv_at hl 2 rfl) ?_
                refine lv_dup hx hb dX4_readWordOrNumber_101 rfl ?_
                refine va_get (D := (dC, dI)) (ci := 4) (v := .int (nI (t8 + k))) (C := RX4) (T := TX4) (N := 10) hx hb hts hin4 hown hK hP 0 rfl rfl 6 (by decide) (hts (.fieldLink RX4 96 "YamRiders$StatuteReader" "place" "I") (by decide +kernel)) (fun _ h9 => h9) rfl dX4_readWordOrNumber_102 ?_
                refine lv_iconst (v := 1) hx hb dX4_readWordOrNumber_105 (by decide) ?_
                refine lv_iadd hx hb dX4_readWordOrNumber_106 ?_
                refine lv_topi (fun y_27 ey_27 => ?_)
                obtain rfl : y_27 = nI ((t8 + k) + 1) := ey_27.trans (nI_1 (t8 + k))
                refine va_put (D := (dC, dI)) (ci := 4) (v := .int (nI ((t8 + k) + 1))) (ty := (tyX4 6)) (C := RX4) (T := TX4) (N := 10) hx hb hts hin4 tyX4 tyX4_ok nmX4 hown hK hP hD hS 0 rfl rfl 6 (by decide) (hts (.fieldLink RX4 96 "YamRiders$StatuteReader" "place" "I") (by decide +kernel)) (fun _ h9 => h9) rfl (by decide +kernel) rfl rfl (Nat.le_of_ble_eq_true rfl) dX4_readWordOrNumber_107 (fun H locs hP hD hS => ?_)
                have hP : va_P (dC, dI) vwCl ([(h0, .inr (4, [.ref t1, .ref t2, .ref t3, .int i_ruleCount, .int i_faultKind, .int i_faultPlace, .int (nI ((t8 + k) + 1)), .int i_token, .int (nI t8), .int (((va8 * 10) + (PBy a_b ln (t8 + k))) - 48)])), (t1, .inr (7, [.ref u1, .int (nI ln)])), (u1, .inl (cs 0, 200, .inl a_b))] ++ va_pl L f) H := hP
                have hD : va_D A ([(h0, .inr (4, [.ref t1, .ref t2, .ref t3, .int i_ruleCount, .int i_faultKind, .int i_faultPlace, .int (nI ((t8 + k) + 1)), .int i_token, .int (nI t8), .int (((va8 * 10) + (PBy a_b ln (t8 + k))) - 48)])), (t1, .inr (7, [.ref u1, .int (nI ln)])), (u1, .inl (cs 0, 200, .inl a_b))] ++ va_pl L f) := hD
                refine lv_goto (tgt := 9) hx hb dX4_readWordOrNumber_110 (by decide) ?_
                have hk9 : t8 + k < ln := nI_nleq c_1 (by omega)
                exact ih (k + 1) x1 (x2 + 1) (((va8 * 10) + (PBy a_b ln (t8 + k))) - 48) (by omega) (by omega) (RW_D hRW (by omega) (yn_y hr_22 c_23) (Or.inl ⟨(Int32.not_lt.mp c_25), rfl⟩)) _ _ (hP.part (cx := _) [0, 1, 2] rfl) (hD.part (cx := _) [0, 1, 2] (by decide) rfl) hS ls (lv_sub hl [2, 3, 0] rfl)
          · refine lv_iinc (v := x1 + 1) (lv' := [(1, .int (x1 + 1)), (3, .int (PBy a_b ln (t8 + k))), (0, .ref h0), (2, .int x2)]) hx hb dX4_readWordOrNumber_59 hl (k := 2) rfl rfl (by decide) rfl (fun ls hl => ?_)
            refine lv_goto (tgt := 100) hx hb dX4_readWordOrNumber_62 (by decide) ?_
            refine lv_aload_n hx hb dX4_readWordOrNumber_100 rfl (lv_at hl 2 rfl) ?_
            refine lv_dup hx hb dX4_readWordOrNumber_101 rfl ?_
            refine va_get (D := (dC, dI)) (ci := 4) (v := .int (nI (t8 + k))) (C := RX4) (T := TX4) (N := 10) hx hb hts hin4 hown hK hP 0 rfl rfl 6 (by decide) (hts (.fieldLink RX4 96 "YamRiders$StatuteReader" "place" "I") (by decide +kernel)) (fun _ h9 => h9) rfl dX4_readWordOrNumber_102 ?_
            refine lv_iconst (v := 1) hx hb dX4_readWordOrNumber_105 (by decide) ?_
            refine lv_iadd hx hb dX4_readWordOrNumber_106 ?_
            refine lv_topi (fun y_28 ey_28 => ?_)
            obtain rfl : y_28 = nI ((t8 + k) + 1) := ey_28.trans (nI_1 (t8 + k))
            refine va_put (D := (dC, dI)) (ci := 4) (v := .int (nI ((t8 + k) + 1))) (ty := (tyX4 6)) (C := RX4) (T := TX4) (N := 10) hx hb hts hin4 tyX4 tyX4_ok nmX4 hown hK hP hD hS 0 rfl rfl 6 (by decide) (hts (.fieldLink RX4 96 "YamRiders$StatuteReader" "place" "I") (by decide +kernel)) (fun _ h9 => h9) rfl (by decide +kernel) rfl rfl (Nat.le_of_ble_eq_true rfl) dX4_readWordOrNumber_107 (fun H locs hP hD hS => ?_)
            have hP : va_P (dC, dI) vwCl ([(h0, .inr (4, [.ref t1, .ref t2, .ref t3, .int i_ruleCount, .int i_faultKind, .int i_faultPlace, .int (nI ((t8 + k) + 1)), .int i_token, .int (nI t8), .int va8])), (t1, .inr (7, [.ref u1, .int (nI ln)])), (u1, .inl (cs 0, 200, .inl a_b))] ++ va_pl L f) H := hP
            have hD : va_D A ([(h0, .inr (4, [.ref t1, .ref t2, .ref t3, .int i_ruleCount, .int i_faultKind, .int i_faultPlace, .int (nI ((t8 + k) + 1)), .int i_token, .int (nI t8), .int va8])), (t1, .inr (7, [.ref u1, .int (nI ln)])), (u1, .inl (cs 0, 200, .inl a_b))] ++ va_pl L f) := hD
            refine lv_goto (tgt := 9) hx hb dX4_readWordOrNumber_110 (by decide) ?_
            have hk9 : t8 + k < ln := nI_nleq c_1 (by omega)
            exact ih (k + 1) (x1 + 1) x2 va8 (by omega) (by omega) (RW_S hRW (yn_y hr_20 c_21)) _ _ (hP.part (cx := _) [0, 1, 2] rfl) (hD.part (cx := _) [0, 1, 2] (by decide) rfl) hS ls (lv_sub hl [2, 0, 3] rfl)
  exact HL ((ln - t8) + 1) 0 0 0 0 (by omega) (by omega) RW_0 _ _ (hP.part (cx := _) [0, 1, 2] rfl) (hD.part (cx := _) [0, 1, 2] (by decide) rfl) hS ls (lv_sub hl [2, 1, 0] rfl)

set_option maxHeartbeats 4000000 in
set_option maxRecDepth 100000 in
theorem s_X4_readToken (l : Launch) (dC : Nat → ClassId) (dI : Nat → Nat → Nat) (cs : Nat → ClassId) (L : List Nat) (ka : Nat → Nat) (ix : Nat → Nat) (ad : Nat → Nat → Nat) (n0 : Nat) (n6 : Nat) (n2 : Nat) (S : Nat → Nat → Nat → Int32) (f : Nat → va_E) (h0 : Nat) (t1 : Nat) (t2 : Nat) (t3 : Nat) (i_ruleCount : Int32) (i_faultKind : Int32) (i_faultPlace : Int32) (i_token : Int32) (i_tokenPlace : Int32) (i_value : Int32) (u1 : Nat) (ln : Nat) (a_b : Nat → Int32) (i8 : Nat) (sz : Nat) (hT : tB L ka ix ad cs n0 n6 n2 S f) (hln : ln ≤ 200) (hi8 : i8 ≤ ln) (hBt : Byt (PBy a_b ln) ln) : Met l yX4_readToken wsX4_readToken ({ frames := 2, cells := 0, slots := 0, locals := 44 }) (va_Pc [.ref h0] (cP dC dI ([(h0, .inr (4, [.ref t1, .ref t2, .ref t3, .int i_ruleCount, .int i_faultKind, .int i_faultPlace, .int (nI i8), .int i_token, .int i_tokenPlace, .int i_value])), (t1, .inr (7, [.ref u1, .int (nI ln)])), (u1, .inl (cs 0, 200, .inl a_b))] ++ va_pl L f) (tyC cs) sz)) (va_Qv (fun (_ : Unit) => True) (fun (_ : Unit) t9 => ∃ (e9 : Nat) (t9x : Nat) (y_token : Int32) (y_value : Int32), (e9 ≤ ln ∧ t9x ≤ e9) ∧ (TC (PBy a_b ln) i8 y_token t9x e9 y_value) ∧ cQ dC dI ([(h0, .inr (4, [.ref t1, .ref t2, .ref t3, .int i_ruleCount, .int i_faultKind, .int i_faultPlace, .int (nI e9), .int y_token, .int (nI t9x), .int y_value])), (t1, .inr (7, [.ref u1, .int (nI ln)])), (u1, .inl (cs 0, 200, .inl a_b))] ++ va_pl L f) [] (va_A ([(h0, .inr (4, [.ref t1, .ref t2, .ref t3, .int i_ruleCount, .int i_faultKind, .int i_faultPlace, .int (nI i8), .int i_token, .int i_tokenPlace, .int i_value])), (t1, .inr (7, [.ref u1, .int (nI ln)])), (u1, .inl (cs 0, 200, .inl a_b))] ++ va_pl L f) sz) t9) (va_A ([(h0, .inr (4, [.ref t1, .ref t2, .ref t3, .int i_ruleCount, .int i_faultKind, .int i_faultPlace, .int (nI i8), .int i_token, .int i_tokenPlace, .int i_value])), (t1, .inr (7, [.ref u1, .int (nI ln)])), (u1, .inl (cs 0, 200, .inl a_b))] ++ va_pl L f) sz)) 0 0 (va_A ([(h0, .inr (4, [.ref t1, .ref t2, .ref t3, .int i_ruleCount, .int i_faultKind, .int i_faultPlace, .int (nI i8), .int i_token, .int i_tokenPlace, .int i_value])), (t1, .inr (7, [.ref u1, .int (nI ln)])), (u1, .inl (cs 0, 200, .inl a_b))] ++ va_pl L f) sz) := by
  refine Met.ofW (cc := cX4_readToken) (maxL := 1) (ret := none) (by decide) rfl ?_
  intro p e s m args below meth c s₁ B hml hv
  obtain ⟨rfl, hsz, hP, hK, hD0, hN⟩ := hv
  have hx := B.exec
  have hb := B.bytes
  have hr := B.returns
  have hts := atoms_spec (ws := wsX4_readToken) B.pre
  have hown : s.vm.findClass RX4 = some m.cls := findClass_of_methodNamed B.named
  have hlocks := B.notSynchronized
  subst hsz
  have hin4 : ∀ w ∈ u_ws RX4 TX4 10, w ∈ wsX4_readToken := by decide +kernel
  have hin7 : ∀ w ∈ u_ws RX7 TX7 2, w ∈ wsX4_readToken := by decide +kernel
  have hD := hD0.self (sz := s.heap.size)
  generalize hAe : va_A ([(h0, .inr (4, [.ref t1, .ref t2, .ref t3, .int i_ruleCount, .int i_faultKind, .int i_faultPlace, .int (nI i8), .int i_token, .int i_tokenPlace, .int i_value])), (t1, .inr (7, [.ref u1, .int (nI ln)])), (u1, .inl (cs 0, 200, .inl a_b))] ++ va_pl L f) s.heap.size = A at hD ⊢
  have hA : ∀ q : Nat, s.heap.size ≤ q → A q := fun q h => by rw [← hAe]; exact Or.inr h
  have hS : va_S A s.heap s.heap [] := va_S.rf
  have hP : va_P (dC, dI) vwCl ([(h0, .inr (4, [.ref t1, .ref t2, .ref t3, .int i_ruleCount, .int i_faultKind, .int i_faultPlace, .int (nI i8), .int i_token, .int i_tokenPlace, .int i_value])), (t1, .inr (7, [.ref u1, .int (nI ln)])), (u1, .inl (cs 0, 200, .inl a_b))] ++ va_pl L f) s.heap := hP
  have hl := lv_entry ([.ref h0]) (n := 1) (Nat.le_of_ble_eq_true rfl)
  rw [lg_entry_eq]
  generalize (lg_sl ([.ref h0]) ++ List.replicate (1 - (lg_sl ([.ref h0])).length) Slot.unset).toArray = ls at hl ⊢
  have hl : lv_has ls 1 [(0, .ref h0)] := hl
  have HL : ∀ (n k : Nat), k ≤ (ln - i8) → (ln - i8) + 1 ≤ k + n → (∀ j, j < k → ¬ bl (PBy a_b ln (i8 + j)) = 0) → ∀ (H : Heap) (locs : List Loc), va_P (dC, dI) vwCl ([(h0, .inr (4, [.ref t1, .ref t2, .ref t3, .int i_ruleCount, .int i_faultKind, .int i_faultPlace, .int (nI (i8 + k)), .int i_token, .int i_tokenPlace, .int i_value])), (t1, .inr (7, [.ref u1, .int (nI ln)])), (u1, .inl (cs 0, 200, .inl a_b))] ++ va_pl L f) H → va_D A ([(h0, .inr (4, [.ref t1, .ref t2, .ref t3, .int i_ruleCount, .int i_faultKind, .int i_faultPlace, .int (nI (i8 + k)), .int i_token, .int i_tokenPlace, .int i_value])), (t1, .inr (7, [.ref u1, .int (nI ln)])), (u1, .inl (cs 0, 200, .inl a_b))] ++ va_pl L f) → va_S A s.heap H locs → ∀ ls : Array Slot, lv_has ls 1 [(0, .ref h0)] → W p l e (headSpec wsX4_readToken ({ frames := 2, cells := 0, slots := 0, locals := 44 })).room s m ([.ref h0]).toArray below meth c H locs 0 0 (MQ below (va_Qv (fun (_ : Unit) => True) (fun (_ : Unit) t9 => ∃ (e9 : Nat) (t9x : Nat) (y_token : Int32) (y_value : Int32), (e9 ≤ ln ∧ t9x ≤ e9) ∧ (TC (PBy a_b ln) i8 y_token t9x e9 y_value) ∧ cQ dC dI ([(h0, .inr (4, [.ref t1, .ref t2, .ref t3, .int i_ruleCount, .int i_faultKind, .int i_faultPlace, .int (nI e9), .int y_token, .int (nI t9x), .int y_value])), (t1, .inr (7, [.ref u1, .int (nI ln)])), (u1, .inl (cs 0, 200, .inl a_b))] ++ va_pl L f) [] A t9) A) ([.ref h0]).toArray s 0 0 A) (F0 m 0 ls []) := by
    intro n
    induction n with
    | zero => intro k h1 h2; exact absurd h2 (by omega)
    | succ n ih =>
      intro k hk hn hBL H locs hP hD hS ls hl
      refine lv_aload_n hx hb dX4_readToken_0 rfl (lv_at hl 0 rfl) ?_
      refine va_get (D := (dC, dI)) (ci := 4) (v := .int (nI (i8 + k))) (C := RX4) (T := TX4) (N := 10) hx hb hts hin4 hown hK hP 0 rfl rfl 6 (by decide) (hts (.fieldLink RX4 96 "YamRiders$StatuteReader" "place" "I") (by decide +kernel)) (fun _ h9 => h9) rfl dX4_readToken_1 ?_
      refine lv_aload_n hx hb dX4_readToken_4 rfl (lv_at hl 0 rfl) ?_
      refine va_get (D := (dC, dI)) (ci := 4) (v := .ref t1) (C := RX4) (T := TX4) (N := 10) hx hb hts hin4 hown hK hP 0 rfl rfl 0 (by decide) (hts (.fieldLink RX4 22 "YamRiders$StatuteReader" "tape" "LYamRiders$Tape;") (by decide +kernel)) (fun _ h9 => h9) rfl dX4_readToken_5 ?_
      refine va_getN (D := (dC, dI)) (ci := 7) (v := .int (nI ln)) (C := RX7) (T := TX7) (N := 2) hx hb hts hin7 hown hK hP 1 rfl rfl 1 (by decide) (hN.nx (.fieldLinkNest RX4 99 "YamRiders$Tape" "length" "I" "YamRiders") (by decide +kernel)) (fun _ h9 => h9) rfl dX4_readToken_8 ?_
      refine lv_icmp_ge (tgt := 44) hx hb dX4_readToken_11 (by decide) (fun c_1 => ?_) (fun c_1 => ?_)
      · refine lv_aload_n hx hb dX4_readToken_44 rfl (lv_at hl 0 rfl) ?_
        refine lv_aload_n hx hb dX4_readToken_45 rfl (lv_at hl 0 rfl) ?_
        refine va_get (D := (dC, dI)) (ci := 4) (v := .int (nI (i8 + k))) (C := RX4) (T := TX4) (N := 10) hx hb hts hin4 hown hK hP 0 rfl rfl 6 (by decide) (hts (.fieldLink RX4 96 "YamRiders$StatuteReader" "place" "I") (by decide +kernel)) (fun _ h9 => h9) rfl dX4_readToken_46 ?_
        refine va_put (D := (dC, dI)) (ci := 4) (v := .int (nI (i8 + k))) (ty := (tyX4 8)) (C := RX4) (T := TX4) (N := 10) hx hb hts hin4 tyX4 tyX4_ok nmX4 hown hK hP hD hS 0 rfl rfl 8 (by decide) (hts (.fieldLink RX4 90 "YamRiders$StatuteReader" "tokenPlace" "I") (by decide +kernel)) (fun _ h9 => h9) rfl (by decide +kernel) rfl rfl (Nat.le_of_ble_eq_true rfl) dX4_readToken_49 (fun H locs hP hD hS => ?_)
        have hP : va_P (dC, dI) vwCl ([(h0, .inr (4, [.ref t1, .ref t2, .ref t3, .int i_ruleCount, .int i_faultKind, .int i_faultPlace, .int (nI (i8 + k)), .int i_token, .int (nI (i8 + k)), .int i_value])), (t1, .inr (7, [.ref u1, .int (nI ln)])), (u1, .inl (cs 0, 200, .inl a_b))] ++ va_pl L f) H := hP
        have hD : va_D A ([(h0, .inr (4, [.ref t1, .ref t2, .ref t3, .int i_ruleCount, .int i_faultKind, .int i_faultPlace, .int (nI (i8 + k)), .int i_token, .int (nI (i8 + k)), .int i_value])), (t1, .inr (7, [.ref u1, .int (nI ln)])), (u1, .inl (cs 0, 200, .inl a_b))] ++ va_pl L f) := hD
        refine lv_aload_n hx hb dX4_readToken_52 rfl (lv_at hl 0 rfl) ?_
        refine va_get (D := (dC, dI)) (ci := 4) (v := .int (nI (i8 + k))) (C := RX4) (T := TX4) (N := 10) hx hb hts hin4 hown hK hP 0 rfl rfl 6 (by decide) (hts (.fieldLink RX4 96 "YamRiders$StatuteReader" "place" "I") (by decide +kernel)) (fun _ h9 => h9) rfl dX4_readToken_53 ?_
        refine lv_aload_n hx hb dX4_readToken_56 rfl (lv_at hl 0 rfl) ?_
        refine va_get (D := (dC, dI)) (ci := 4) (v := .ref t1) (C := RX4) (T := TX4) (N := 10) hx hb hts hin4 hown hK hP 0 rfl rfl 0 (by decide) (hts (.fieldLink RX4 22 "YamRiders$StatuteReader" "tape" "LYamRiders$Tape;") (by decide +kernel)) (fun _ h9 => h9) rfl dX4_readToken_57 ?_
        refine va_getN (D := (dC, dI)) (ci := 7) (v := .int (nI ln)) (C := RX7) (T := TX7) (N := 2) hx hb hts hin7 hown hK hP 1 rfl rfl 1 (by decide) (hN.nx (.fieldLinkNest RX4 99 "YamRiders$Tape" "length" "I" "YamRiders") (by decide +kernel)) (fun _ h9 => h9) rfl dX4_readToken_60 ?_
        refine lv_icmp_lt (tgt := 74) hx hb dX4_readToken_63 (by decide) (fun c_2 => by first | exact absurd c_2 (Int32.not_lt.mpr c_1) | exact absurd (Int32.not_lt.mpr c_1) c_2) (fun _ => ?_)
        refine lv_aload_n hx hb dX4_readToken_66 rfl (lv_at hl 0 rfl) ?_
        refine lv_iconst (v := 0) hx hb dX4_readToken_67 (by decide) ?_
        refine va_put (D := (dC, dI)) (ci := 4) (v := .int 0) (ty := (tyX4 7)) (C := RX4) (T := TX4) (N := 10) hx hb hts hin4 tyX4 tyX4_ok nmX4 hown hK hP hD hS 0 rfl rfl 7 (by decide) (hts (.fieldLink RX4 29 "YamRiders$StatuteReader" "token" "I") (by decide +kernel)) (fun _ h9 => h9) rfl (by decide +kernel) rfl rfl (Nat.le_of_ble_eq_true rfl) dX4_readToken_68 (fun H locs hP hD hS => ?_)
        have hP : va_P (dC, dI) vwCl ([(h0, .inr (4, [.ref t1, .ref t2, .ref t3, .int i_ruleCount, .int i_faultKind, .int i_faultPlace, .int (nI (i8 + k)), .int 0, .int (nI (i8 + k)), .int i_value])), (t1, .inr (7, [.ref u1, .int (nI ln)])), (u1, .inl (cs 0, 200, .inl a_b))] ++ va_pl L f) H := hP
        have hD : va_D A ([(h0, .inr (4, [.ref t1, .ref t2, .ref t3, .int i_ruleCount, .int i_faultKind, .int i_faultPlace, .int (nI (i8 + k)), .int 0, .int (nI (i8 + k)), .int i_value])), (t1, .inr (7, [.ref u1, .int (nI ln)])), (u1, .inl (cs 0, 200, .inl a_b))] ++ va_pl L f) := hD
        refine lv_goto (tgt := 112) hx hb dX4_readToken_71 (by decide) ?_
        have hP9 := hP.part (cx := [(h0, .inr (4, [.ref t1, .ref t2, .ref t3, .int i_ruleCount, .int i_faultKind, .int i_faultPlace, .int (nI (i8 + k)), .int 0, .int (nI (i8 + k)), .int i_value])), (t1, .inr (7, [.ref u1, .int (nI ln)])), (u1, .inl (cs 0, 200, .inl a_b))]) [0, 1, 2] rfl
        have hD9 := hD.part (cx := [(h0, .inr (4, [.ref t1, .ref t2, .ref t3, .int i_ruleCount, .int i_faultKind, .int i_faultPlace, .int (nI (i8 + k)), .int 0, .int (nI (i8 + k)), .int i_value])), (t1, .inr (7, [.ref u1, .int (nI ln)])), (u1, .inl (cs 0, 200, .inl a_b))]) [0, 1, 2] (by decide) rfl
        have hK9 := hK.sub (tys' := []) [] rfl
        refine W.widen (k := 0) (n := 0) (Nat.le_of_ble_eq_true rfl) (Nat.le_of_ble_eq_true rfl) ?_
        exact W.vret hx hb hr (fun t9 ht hW => ⟨⟨(), rfl, trivial, (i8 + k), (i8 + k), 0, i_value, ⟨by omega, by omega⟩, ⟨⟨by omega, fun j h1 h2 => by have h9 := hBL (j - i8) (by omega); rw [show i8 + (j - i8) = j from by omega] at h9; exact h9, by rw [PB_o ((nI_leI (by omega) (by omega)).mp c_1)]; decide⟩, Or.inl ⟨PB_o ((nI_leI (by omega) (by omega)).mp c_1), rfl, rfl⟩⟩, by rw [ht]; exact hP9, va_K.moved hW.alike hK9, hD9⟩, hS.F ht⟩) hS.2.2 dX4_readToken_112
      · refine lv_aload_n hx hb dX4_readToken_14 rfl (lv_at hl 0 rfl) ?_
        refine va_get (D := (dC, dI)) (ci := 4) (v := .ref t1) (C := RX4) (T := TX4) (N := 10) hx hb hts hin4 hown hK hP 0 rfl rfl 0 (by decide) (hts (.fieldLink RX4 22 "YamRiders$StatuteReader" "tape" "LYamRiders$Tape;") (by decide +kernel)) (fun _ h9 => h9) rfl dX4_readToken_15 ?_
        refine lv_aload_n hx hb dX4_readToken_18 rfl (lv_at hl 0 rfl) ?_
        refine va_get (D := (dC, dI)) (ci := 4) (v := .int (nI (i8 + k))) (C := RX4) (T := TX4) (N := 10) hx hb hts hin4 hown hK hP 0 rfl rfl 6 (by decide) (hts (.fieldLink RX4 96 "YamRiders$StatuteReader" "place" "I") (by decide +kernel)) (fun _ h9 => h9) rfl dX4_readToken_19 ?_
        have hPc := hP.sub (ws' := [(t1, .inr (7, [.ref u1, .int (nI ln)])), (u1, .inl (cs 0, 200, .inl a_b))]) [1, 2] rfl
        have hDc := hD.sub (ws' := [(t1, .inr (7, [.ref u1, .int (nI ln)])), (u1, .inl (cs 0, 200, .inl a_b))]) [1, 2] (by decide) rfl
        have hKc := hK.sub (tys' := [(cs 0, .int)]) [0] rfl
        refine cs_i (va_runV (As := [.int (nI (i8 + k))]) (rest := []) ⟨hx, hb, hml, hown, hts⟩ (s_X7_byteAt l dC dI t1 u1 (cs 0) a_b ln (i8 + k) H.size (by omega) (by omega)) (cwV 1 hts gX4_readToken_X7_byteAt rfl rfl rfl (by decide +kernel) ⟨Nat.le_of_ble_eq_true rfl, Nat.le_of_ble_eq_true rfl⟩) ⟨c_blind, va_recv hKc hPc (ci := 7) (q0 := 0) rfl rfl, c_pre hPc hKc hDc hN⟩ rfl rfl hl.1 rfl (lv_room (Nat.le_of_ble_eq_true rfl)) dX4_readToken_22 ⟨Nat.le_of_ble_eq_true rfl, Nat.le_of_ble_eq_true rfl⟩) (fun r_3 hr_3 => ?_)
        subst hr_3
        have hPc := hP.part (cx := []) [] rfl
        have hDc := hD.part (cx := []) [] (by decide) rfl
        have hKc := hK
        refine cs_i (va_runS (As := [.int (PBy a_b ln (i8 + k))]) (rest := []) ⟨hx, hb, hml, hown, hts⟩ (s_X4_isBlank l dC dI cs L ka ix ad n0 n6 n2 S f (PBy a_b ln (i8 + k)) H.size hT) (va_cwS 1 hts gX4_readToken_X4_isBlank rfl rfl rfl (by decide +kernel) ⟨Nat.le_of_ble_eq_true rfl, Nat.le_of_ble_eq_true rfl⟩) ⟨c_blind, c_pre hPc hKc hDc hN⟩ rfl rfl hl.1 rfl (lv_room (Nat.le_of_ble_eq_true rfl)) dX4_readToken_25 ⟨Nat.le_of_ble_eq_true rfl, Nat.le_of_ble_eq_true rfl⟩) (fun r_4 hr_4 => ?_)
        subst hr_4
        refine lv_if_eq (tgt := 44) hx hb dX4_readToken_28 (by decide) (fun c_5 => ?_) (fun c_5 => ?_)
        · refine lv_aload_n hx hb dX4_readToken_44 rfl (lv_at hl 0 rfl) ?_
          refine lv_aload_n hx hb dX4_readToken_45 rfl (lv_at hl 0 rfl) ?_
          refine va_get (D := (dC, dI)) (ci := 4) (v := .int (nI (i8 + k))) (C := RX4) (T := TX4) (N := 10) hx hb hts hin4 hown hK hP 0 rfl rfl 6 (by decide) (hts (.fieldLink RX4 96 "YamRiders$StatuteReader" "place" "I") (by decide +kernel)) (fun _ h9 => h9) rfl dX4_readToken_46 ?_
          refine va_put (D := (dC, dI)) (ci := 4) (v := .int (nI (i8 + k))) (ty := (tyX4 8)) (C := RX4) (T := TX4) (N := 10) hx hb hts hin4 tyX4 tyX4_ok nmX4 hown hK hP hD hS 0 rfl rfl 8 (by decide) (hts (.fieldLink RX4 90 "YamRiders$StatuteReader" "tokenPlace" "I") (by decide +kernel)) (fun _ h9 => h9) rfl (by decide +kernel) rfl rfl (Nat.le_of_ble_eq_true rfl) dX4_readToken_49 (fun H locs hP hD hS => ?_)
          have hP : va_P (dC, dI) vwCl ([(h0, .inr (4, [.ref t1, .ref t2, .ref t3, .int i_ruleCount, .int i_faultKind, .int i_faultPlace, .int (nI (i8 + k)), .int i_token, .int (nI (i8 + k)), .int i_value])), (t1, .inr (7, [.ref u1, .int (nI ln)])), (u1, .inl (cs 0, 200, .inl a_b))] ++ va_pl L f) H := hP
          have hD : va_D A ([(h0, .inr (4, [.ref t1, .ref t2, .ref t3, .int i_ruleCount, .int i_faultKind, .int i_faultPlace, .int (nI (i8 + k)), .int i_token, .int (nI (i8 + k)), .int i_value])), (t1, .inr (7, [.ref u1, .int (nI ln)])), (u1, .inl (cs 0, 200, .inl a_b))] ++ va_pl L f) := hD
          refine lv_aload_n hx hb dX4_readToken_52 rfl (lv_at hl 0 rfl) ?_
          refine va_get (D := (dC, dI)) (ci := 4) (v := .int (nI (i8 + k))) (C := RX4) (T := TX4) (N := 10) hx hb hts hin4 hown hK hP 0 rfl rfl 6 (by decide) (hts (.fieldLink RX4 96 "YamRiders$StatuteReader" "place" "I") (by decide +kernel)) (fun _ h9 => h9) rfl dX4_readToken_53 ?_
          refine lv_aload_n hx hb dX4_readToken_56 rfl (lv_at hl 0 rfl) ?_
          refine va_get (D := (dC, dI)) (ci := 4) (v := .ref t1) (C := RX4) (T := TX4) (N := 10) hx hb hts hin4 hown hK hP 0 rfl rfl 0 (by decide) (hts (.fieldLink RX4 22 "YamRiders$StatuteReader" "tape" "LYamRiders$Tape;") (by decide +kernel)) (fun _ h9 => h9) rfl dX4_readToken_57 ?_
          refine va_getN (D := (dC, dI)) (ci := 7) (v := .int (nI ln)) (C := RX7) (T := TX7) (N := 2) hx hb hts hin7 hown hK hP 1 rfl rfl 1 (by decide) (hN.nx (.fieldLinkNest RX4 99 "YamRiders$Tape" "length" "I" "YamRiders") (by decide +kernel)) (fun _ h9 => h9) rfl dX4_readToken_60 ?_
          refine lv_icmp_lt (tgt := 74) hx hb dX4_readToken_63 (by decide) (fun _ => ?_) (fun c_6 => by first | exact absurd c_6 (Int32.not_le.mp c_1) | exact absurd (Int32.not_le.mp c_1) c_6)
          have hk9 : i8 + k < ln := nI_nleq c_1 (by omega)
          refine lv_aload_n hx hb dX4_readToken_74 rfl (lv_at hl 0 rfl) ?_
          refine va_get (D := (dC, dI)) (ci := 4) (v := .ref t1) (C := RX4) (T := TX4) (N := 10) hx hb hts hin4 hown hK hP 0 rfl rfl 0 (by decide) (hts (.fieldLink RX4 22 "YamRiders$StatuteReader" "tape" "LYamRiders$Tape;") (by decide +kernel)) (fun _ h9 => h9) rfl dX4_readToken_75 ?_
          refine lv_aload_n hx hb dX4_readToken_78 rfl (lv_at hl 0 rfl) ?_
          refine va_get (D := (dC, dI)) (ci := 4) (v := .int (nI (i8 + k))) (C := RX4) (T := TX4) (N := 10) hx hb hts hin4 hown hK hP 0 rfl rfl 6 (by decide) (hts (.fieldLink RX4 96 "YamRiders$StatuteReader" "place" "I") (by decide +kernel)) (fun _ h9 => h9) rfl dX4_readToken_79 ?_
          have hPc := hP.sub (ws' := [(t1, .inr (7, [.ref u1, .int (nI ln)])), (u1, .inl (cs 0, 200, .inl a_b))]) [1, 2] rfl
          have hDc := hD.sub (ws' := [(t1, .inr (7, [.ref u1, .int (nI ln)])), (u1, .inl (cs 0, 200, .inl a_b))]) [1, 2] (by decide) rfl
          have hKc := hK.sub (tys' := [(cs 0, .int)]) [0] rfl
          refine cs_i (va_runV (As := [.int (nI (i8 + k))]) (rest := []) ⟨hx, hb, hml, hown, hts⟩ (s_X7_byteAt l dC dI t1 u1 (cs 0) a_b ln (i8 + k) H.size (by omega) (by omega)) (cwV 1 hts gX4_readToken_X7_byteAt rfl rfl rfl (by decide +kernel) ⟨Nat.le_of_ble_eq_true rfl, Nat.le_of_ble_eq_true rfl⟩) ⟨c_blind, va_recv hKc hPc (ci := 7) (q0 := 0) rfl rfl, c_pre hPc hKc hDc hN⟩ rfl rfl hl.1 rfl (lv_room (Nat.le_of_ble_eq_true rfl)) dX4_readToken_82 ⟨Nat.le_of_ble_eq_true rfl, Nat.le_of_ble_eq_true rfl⟩) (fun r_7 hr_7 => ?_)
          subst hr_7
          refine lv_bipush (v := 59) hx hb dX4_readToken_85 (by decide) ?_
          refine lv_icmp_ne (tgt := 108) hx hb dX4_readToken_87 (by decide) (fun c_8 => ?_) (fun c_8 => ?_)
          · refine lv_aload_n hx hb dX4_readToken_108 rfl (lv_at hl 0 rfl) ?_
            have hPc := hP.part (cx := [(h0, .inr (4, [.ref t1, .ref t2, .ref t3, .int i_ruleCount, .int i_faultKind, .int i_faultPlace, .int (nI (i8 + k)), .int i_token, .int (nI (i8 + k)), .int i_value])), (t1, .inr (7, [.ref u1, .int (nI ln)])), (u1, .inl (cs 0, 200, .inl a_b))]) [0, 1, 2] rfl
            have hDc := hD.part (cx := [(h0, .inr (4, [.ref t1, .ref t2, .ref t3, .int i_ruleCount, .int i_faultKind, .int i_faultPlace, .int (nI (i8 + k)), .int i_token, .int (nI (i8 + k)), .int i_value])), (t1, .inr (7, [.ref u1, .int (nI ln)])), (u1, .inl (cs 0, 200, .inl a_b))]) [0, 1, 2] (by decide) rfl
            have hKc := hK
            have hFc := va_freeP (cx := [(h0, .inr (4, [.ref t1, .ref t2, .ref t3, .int i_ruleCount, .int i_faultKind, .int i_faultPlace, .int (nI (i8 + k)), .int i_token, .int (nI (i8 + k)), .int i_value])), (t1, .inr (7, [.ref u1, .int (nI ln)])), (u1, .inl (cs 0, 200, .inl a_b))]) hD hS hA [0, 1, 2] rfl
            refine va_callv (va_runV (As := []) (rest := []) ⟨hx, hb, hml, hown, hts⟩ (s_X4_readWordOrNumber l dC dI cs L ka ix ad n0 n6 n2 S f h0 t1 t2 t3 i_ruleCount i_faultKind i_faultPlace i_token i_value u1 ln a_b (i8 + k) H.size hT (by omega) (by omega)) (cwV 0 hts gX4_readToken_X4_readWordOrNumber rfl rfl rfl (by decide +kernel) ⟨Nat.le_of_ble_eq_true rfl, Nat.le_of_ble_eq_true rfl⟩) ⟨c_blind, va_recv hKc hPc (ci := 4) (q0 := 0) rfl rfl, c_pre hPc hKc hDc hN⟩ rfl rfl hl.1 rfl (lv_room (Nat.le_of_ble_eq_true rfl)) dX4_readToken_109 ⟨Nat.le_of_ble_eq_true rfl, Nat.le_of_ble_eq_true rfl⟩) hS (fun q _ h => hFc q h) hFc (fun u9 t9 H1 locs ht hvm hw hB hz1 hk1 hS => ?_)
            obtain ⟨e_10, y_token_11, y_value_12, hf_x_13, hf_x_14, hP1, hK1, hD1⟩ := hB
            rw [ht] at hP1
            have hK1 := va_K.moved hvm.symm hK1
            obtain ⟨hP, hD⟩ := va_joinP (X := [(h0, .inr (4, [.ref t1, .ref t2, .ref t3, .int i_ruleCount, .int i_faultKind, .int i_faultPlace, .int (nI (i8 + k)), .int i_token, .int (nI (i8 + k)), .int i_value])), (t1, .inr (7, [.ref u1, .int (nI ln)])), (u1, .inl (cs 0, 200, .inl a_b))]) (cx := [(h0, .inr (4, [.ref t1, .ref t2, .ref t3, .int i_ruleCount, .int i_faultKind, .int i_faultPlace, .int (nI (i8 + k)), .int i_token, .int (nI (i8 + k)), .int i_value])), (t1, .inr (7, [.ref u1, .int (nI ln)])), (u1, .inl (cs 0, 200, .inl a_b))]) (wr := []) (rx := [(h0, .inr (4, [.ref t1, .ref t2, .ref t3, .int i_ruleCount, .int i_faultKind, .int i_faultPlace, .int (nI e_10), .int y_token_11, .int (nI (i8 + k)), .int y_value_12])), (t1, .inr (7, [.ref u1, .int (nI ln)])), (u1, .inl (cs 0, 200, .inl a_b))]) (pl := va_pl L f) (pl1 := va_pl L f) hP hD [0, 1, 2] [] rfl rfl (by decide) (by decide) hk1 hFc hP1 hD1
            generalize H1 = H at hP hS ⊢
            have hP : va_P (dC, dI) vwCl ([(h0, .inr (4, [.ref t1, .ref t2, .ref t3, .int i_ruleCount, .int i_faultKind, .int i_faultPlace, .int (nI e_10), .int y_token_11, .int (nI (i8 + k)), .int y_value_12])), (t1, .inr (7, [.ref u1, .int (nI ln)])), (u1, .inl (cs 0, 200, .inl a_b))] ++ va_pl L f) H := hP
            have hD : va_D A ([(h0, .inr (4, [.ref t1, .ref t2, .ref t3, .int i_ruleCount, .int i_faultKind, .int i_faultPlace, .int (nI e_10), .int y_token_11, .int (nI (i8 + k)), .int y_value_12])), (t1, .inr (7, [.ref u1, .int (nI ln)])), (u1, .inl (cs 0, 200, .inl a_b))] ++ va_pl L f) := hD
            refine W.widen (k := 0) (n := 0) (Nat.le_of_ble_eq_true rfl) (Nat.le_of_ble_eq_true rfl) ?_
            have hP9 := hP.part (cx := [(h0, .inr (4, [.ref t1, .ref t2, .ref t3, .int i_ruleCount, .int i_faultKind, .int i_faultPlace, .int (nI e_10), .int y_token_11, .int (nI (i8 + k)), .int y_value_12])), (t1, .inr (7, [.ref u1, .int (nI ln)])), (u1, .inl (cs 0, 200, .inl a_b))]) [0, 1, 2] rfl
            have hD9 := hD.part (cx := [(h0, .inr (4, [.ref t1, .ref t2, .ref t3, .int i_ruleCount, .int i_faultKind, .int i_faultPlace, .int (nI e_10), .int y_token_11, .int (nI (i8 + k)), .int y_value_12])), (t1, .inr (7, [.ref u1, .int (nI ln)])), (u1, .inl (cs 0, 200, .inl a_b))]) [0, 1, 2] (by decide) rfl
            have hK9 := hK.sub (tys' := []) [] rfl
            refine W.widen (k := 0) (n := 0) (Nat.le_of_ble_eq_true rfl) (Nat.le_of_ble_eq_true rfl) ?_
            exact W.vret hx hb hr (fun t9 ht hW => ⟨⟨(), rfl, trivial, e_10, (i8 + k), y_token_11, y_value_12, ⟨by omega, by have h9 := hf_x_14; obtain ⟨m9, h9, _⟩ := h9; omega⟩, (TC_w ⟨by omega, fun j h1 h2 => by have h9 := hBL (j - i8) (by omega); rw [show i8 + (j - i8) = j from by omega] at h9; exact h9, c_5⟩ (PB_m hBt (by omega)) c_8 hf_x_14), by rw [ht]; exact hP9, va_K.moved hW.alike hK9, hD9⟩, hS.F ht⟩) hS.2.2 dX4_readToken_112
          · refine lv_aload_n hx hb dX4_readToken_90 rfl (lv_at hl 0 rfl) ?_
            refine lv_iconst (v := 3) hx hb dX4_readToken_91 (by decide) ?_
            refine va_put (D := (dC, dI)) (ci := 4) (v := .int 3) (ty := (tyX4 7)) (C := RX4) (T := TX4) (N := 10) hx hb hts hin4 tyX4 tyX4_ok nmX4 hown hK hP hD hS 0 rfl rfl 7 (by decide) (hts (.fieldLink RX4 29 "YamRiders$StatuteReader" "token" "I") (by decide +kernel)) (fun _ h9 => h9) rfl (by decide +kernel) rfl rfl (Nat.le_of_ble_eq_true rfl) dX4_readToken_92 (fun H locs hP hD hS => ?_)
            have hP : va_P (dC, dI) vwCl ([(h0, .inr (4, [.ref t1, .ref t2, .ref t3, .int i_ruleCount, .int i_faultKind, .int i_faultPlace, .int (nI (i8 + k)), .int 3, .int (nI (i8 + k)), .int i_value])), (t1, .inr (7, [.ref u1, .int (nI ln)])), (u1, .inl (cs 0, 200, .inl a_b))] ++ va_pl L f) H := hP
            have hD : va_D A ([(h0, .inr (4, [.ref t1, .ref t2, .ref t3, .int i_ruleCount, .int i_faultKind, .int i_faultPlace, .int (nI (i8 + k)), .int 3, .int (nI (i8 + k)), .int i_value])), (t1, .inr (7, [.ref u1, .int (nI ln)])), (u1, .inl (cs 0, 200, .inl a_b))] ++ va_pl L f) := hD
            refine lv_aload_n hx hb dX4_readToken_95 rfl (lv_at hl 0 rfl) ?_
            refine lv_dup hx hb dX4_readToken_96 rfl ?_
            refine va_get (D := (dC, dI)) (ci := 4) (v := .int (nI (i8 + k))) (C := RX4) (T := TX4) (N := 10) hx hb hts hin4 hown hK hP 0 rfl rfl 6 (by decide) (hts (.fieldLink RX4 96 "YamRiders$StatuteReader" "place" "I") (by decide +kernel)) (fun _ h9 => h9) rfl dX4_readToken_97 ?_
            refine lv_iconst (v := 1) hx hb dX4_readToken_100 (by decide) ?_
            refine lv_iadd hx hb dX4_readToken_101 ?_
            refine lv_topi (fun y_15 ey_15 => ?_)
            obtain rfl : y_15 = nI ((i8 + k) + 1) := ey_15.trans (nI_1 (i8 + k))
            refine va_put (D := (dC, dI)) (ci := 4) (v := .int (nI ((i8 + k) + 1))) (ty := (tyX4 6)) (C := RX4) (T := TX4) (N := 10) hx hb hts hin4 tyX4 tyX4_ok nmX4 hown hK hP hD hS 0 rfl rfl 6 (by decide) (hts (.fieldLink RX4 96 "YamRiders$StatuteReader" "place" "I") (by decide +kernel)) (fun _ h9 => h9) rfl (by decide +kernel) rfl rfl (Nat.le_of_ble_eq_true rfl) dX4_readToken_102 (fun H locs hP hD hS => ?_)
            have hP : va_P (dC, dI) vwCl ([(h0, .inr (4, [.ref t1, .ref t2, .ref t3, .int i_ruleCount, .int i_faultKind, .int i_faultPlace, .int (nI ((i8 + k) + 1)), .int 3, .int (nI (i8 + k)), .int i_value])), (t1, .inr (7, [.ref u1, .int (nI ln)])), (u1, .inl (cs 0, 200, .inl a_b))] ++ va_pl L f) H := hP
            have hD : va_D A ([(h0, .inr (4, [.ref t1, .ref t2, .ref t3, .int i_ruleCount, .int i_faultKind, .int i_faultPlace, .int (nI ((i8 + k) + 1)), .int 3, .int (nI (i8 + k)), .int i_value])), (t1, .inr (7, [.ref u1, .int (nI ln)])), (u1, .inl (cs 0, 200, .inl a_b))] ++ va_pl L f) := hD
            refine lv_goto (tgt := 112) hx hb dX4_readToken_105 (by decide) ?_
            have hP9 := hP.part (cx := [(h0, .inr (4, [.ref t1, .ref t2, .ref t3, .int i_ruleCount, .int i_faultKind, .int i_faultPlace, .int (nI ((i8 + k) + 1)), .int 3, .int (nI (i8 + k)), .int i_value])), (t1, .inr (7, [.ref u1, .int (nI ln)])), (u1, .inl (cs 0, 200, .inl a_b))]) [0, 1, 2] rfl
            have hD9 := hD.part (cx := [(h0, .inr (4, [.ref t1, .ref t2, .ref t3, .int i_ruleCount, .int i_faultKind, .int i_faultPlace, .int (nI ((i8 + k) + 1)), .int 3, .int (nI (i8 + k)), .int i_value])), (t1, .inr (7, [.ref u1, .int (nI ln)])), (u1, .inl (cs 0, 200, .inl a_b))]) [0, 1, 2] (by decide) rfl
            have hK9 := hK.sub (tys' := []) [] rfl
            refine W.widen (k := 0) (n := 0) (Nat.le_of_ble_eq_true rfl) (Nat.le_of_ble_eq_true rfl) ?_
            exact W.vret hx hb hr (fun t9 ht hW => ⟨⟨(), rfl, trivial, ((i8 + k) + 1), (i8 + k), 3, i_value, ⟨by omega, by omega⟩, ⟨⟨by omega, fun j h1 h2 => by have h9 := hBL (j - i8) (by omega); rw [show i8 + (j - i8) = j from by omega] at h9; exact h9, c_5⟩, Or.inr (Or.inl ⟨c_8, rfl, rfl⟩)⟩, by rw [ht]; exact hP9, va_K.moved hW.alike hK9, hD9⟩, hS.F ht⟩) hS.2.2 dX4_readToken_112
        · refine lv_aload_n hx hb dX4_readToken_31 rfl (lv_at hl 0 rfl) ?_
          refine lv_dup hx hb dX4_readToken_32 rfl ?_
          refine va_get (D := (dC, dI)) (ci := 4) (v := .int (nI (i8 + k))) (C := RX4) (T := TX4) (N := 10) hx hb hts hin4 hown hK hP 0 rfl rfl 6 (by decide) (hts (.fieldLink RX4 96 "YamRiders$StatuteReader" "place" "I") (by decide +kernel)) (fun _ h9 => h9) rfl dX4_readToken_33 ?_
          refine lv_iconst (v := 1) hx hb dX4_readToken_36 (by decide) ?_
          refine lv_iadd hx hb dX4_readToken_37 ?_
          refine lv_topi (fun y_16 ey_16 => ?_)
          obtain rfl : y_16 = nI ((i8 + k) + 1) := ey_16.trans (nI_1 (i8 + k))
          refine va_put (D := (dC, dI)) (ci := 4) (v := .int (nI ((i8 + k) + 1))) (ty := (tyX4 6)) (C := RX4) (T := TX4) (N := 10) hx hb hts hin4 tyX4 tyX4_ok nmX4 hown hK hP hD hS 0 rfl rfl 6 (by decide) (hts (.fieldLink RX4 96 "YamRiders$StatuteReader" "place" "I") (by decide +kernel)) (fun _ h9 => h9) rfl (by decide +kernel) rfl rfl (Nat.le_of_ble_eq_true rfl) dX4_readToken_38 (fun H locs hP hD hS => ?_)
          have hP : va_P (dC, dI) vwCl ([(h0, .inr (4, [.ref t1, .ref t2, .ref t3, .int i_ruleCount, .int i_faultKind, .int i_faultPlace, .int (nI ((i8 + k) + 1)), .int i_token, .int i_tokenPlace, .int i_value])), (t1, .inr (7, [.ref u1, .int (nI ln)])), (u1, .inl (cs 0, 200, .inl a_b))] ++ va_pl L f) H := hP
          have hD : va_D A ([(h0, .inr (4, [.ref t1, .ref t2, .ref t3, .int i_ruleCount, .int i_faultKind, .int i_faultPlace, .int (nI ((i8 + k) + 1)), .int i_token, .int i_tokenPlace, .int i_value])), (t1, .inr (7, [.ref u1, .int (nI ln)])), (u1, .inl (cs 0, 200, .inl a_b))] ++ va_pl L f) := hD
          refine lv_goto (tgt := 0) hx hb dX4_readToken_41 (by decide) ?_
          have hk9 : i8 + k < ln := nI_nleq c_1 (by omega)
          exact ih (k + 1) (by omega) (by omega) (fun j hj => if z : j = k then (by rw [z]; exact c_5) else hBL j (by omega)) _ _ (hP.part (cx := _) [0, 1, 2] rfl) (hD.part (cx := _) [0, 1, 2] (by decide) rfl) hS ls (lv_sub hl [0] rfl)
  exact HL ((ln - i8) + 1) 0 (by omega) (by omega) (fun _ w => absurd w (Nat.not_lt_zero _)) _ _ (hP.part (cx := _) [0, 1, 2] rfl) (hD.part (cx := _) [0, 1, 2] (by decide) rfl) hS ls (lv_sub hl [0] rfl)

def RSf (P : Nat → Int32) (i : Nat) (rv tk : Int32) (t e : Nat) (va fk fk2 : Int32) : Prop := (rv = 1 ∧ fk2 = fk ∧ ∃ (t3 i4 : Nat) (va3 : Int32), TC P i 3 t3 i4 va3 ∧ TC P i4 tk t e va) ∨ (rv = 0 ∧ ¬ fk2 = 0 ∧ ∃ (tk3 : Int32) (t3 e3 : Nat) (va3 : Int32), TC P i tk3 t3 e3 va3 ∧ ¬ tk3 = 3)
theorem TC_3 {P : Nat → Int32} {i t e : Nat} {tk va : Int32} (h : TC P i tk t e va) (c : tk = 3) : TC P i 3 t e va := c ▸ h
def FOf (g g2 : Nat → Int32) (kk : Nat) (rv fk fk2 : Int32) : Prop := (rv = 1 ∧ fk2 = fk ∧ g kk = 0 ∧ g2 = upd g kk 1) ∨ (rv = 0 ∧ ¬ fk2 = 0 ∧ ¬ g kk = 0)
def RNf (P : Nat → Int32) (i kk : Nat) (rv : Int32) (e : Nat) (va fk fk2 : Int32) (a f : Nat → Int32) : Prop := (rv = 1 ∧ fk2 = fk ∧ ∃ (tk : Int32) (t : Nat), TC P i tk t e va ∧ tk = 2 ∧ rngK kk va ∧ f = upd a kk va) ∨ (rv = 0 ∧ ¬ fk2 = 0 ∧ ∃ (tk : Int32) (t e' : Nat) (va' : Int32), TC P i tk t e' va' ∧ ¬ (tk = 2 ∧ rngK kk va'))
def WRf (P : Nat → Int32) (t e : Nat) (tk r : Int32) : Prop := (∃ w, w < 4 ∧ r = nI w ∧ WDc P t e tk w) ∨ (r = -1 ∧ ∀ k, ¬ WDc P t e tk k)
def RRf (P : Nat → Int32) (i0 : Nat) (g v : Nat → Int32) (fk rv tk : Int32) (t e : Nat) (va fk2 : Int32) (v2 g2 : Nat → Int32) : Prop := (rv = 1 ∧ fk2 = fk ∧ ∃ (kk : Nat) (x : Int32) (i4 : Nat), SCo (TC P) P g i0 kk x i4 ∧ g2 = upd g kk 1 ∧ v2 = upd v kk x ∧ TC P i4 tk t e va) ∨ (rv = 0 ∧ ¬ fk2 = 0 ∧ NoS (TC P) P g i0)
theorem RR_b {P g v v2 g2 : Nat → Int32} {i0 kk i2 t e : Nat} {fk tk va fk2 : Int32} {n : Nat} (hB : Byt P n) (h : HD (TC P) P i0 kk i2) (hf : ¬ fk2 = 0) (hg : ¬ g kk = 0) : RRf P i0 g v fk 0 tk t e va fk2 v2 g2 := Or.inr ⟨rfl, hf, SN_b (Uq_C hB) h hg⟩
theorem RR_c {P g v v2 g2 a f : Nat → Int32} {i0 kk i2 t e e2 : Nat} {fk tk va fk2 rv va2 fk1 : Int32} {n : Nat} (hB : Byt P n) (h : HD (TC P) P i0 kk i2) (r : RNf P i2 kk rv e2 va2 fk1 fk2 a f) (c : rv = 0) : RRf P i0 g v fk 0 tk t e va fk2 v2 g2 := by
  rcases r with ⟨z, _⟩ | ⟨_, hf, tk', t', e', va', h2, hn⟩
  · rw [c] at z; exact absurd z (by decide)
  · exact Or.inr ⟨rfl, hf, SN_c (Uq_C hB) h h2 hn⟩
theorem RR_d {P g v v2 g2 a f : Nat → Int32} {i0 kk i2 t e e2 t4 e4 : Nat} {fk tk va fk2 rv rv2 va2 fk1 fk0 tk4 va4 : Int32} {n : Nat} (hB : Byt P n) (h : HD (TC P) P i0 kk i2) (r : RNf P i2 kk rv e2 va2 fk0 fk1 a f) (c : ¬ rv = 0) (q : RSf P e2 rv2 tk4 t4 e4 va4 fk1 fk2) (c2 : rv2 = 0) : RRf P i0 g v fk 0 tk t e va fk2 v2 g2 := by
  rcases r with ⟨_, _, tk', t', h2, h3, _⟩ | ⟨z, _⟩
  · rcases q with ⟨z, _⟩ | ⟨_, hf, tk3, t3, e3, va3, h4, hn⟩
    · rw [c2] at z; exact absurd z (by decide)
    · exact Or.inr ⟨rfl, hf, SN_d (Uq_C hB) h h2 h4 hn⟩
  · exact absurd z c
theorem RR_y {P g v v2 g2 : Nat → Int32} {i0 kk i2 t e e2 : Nat} {fk tk va fk2 rv rv1 rv2 va2 fk1 fk0 : Int32} {n : Nat} (hB : Byt P n) (h : HD (TC P) P i0 kk i2) (f : FOf g g2 kk rv1 fk fk0) (c1 : ¬ rv1 = 0) (r : RNf P i2 kk rv e2 va2 fk0 fk1 v v2) (c : ¬ rv = 0) (q : RSf P e2 rv2 tk t e va fk1 fk2) (c2 : ¬ rv2 = 0) : RRf P i0 g v fk 1 tk t e va fk2 v2 g2 := by
  rcases f with ⟨_, f2, f3, f4⟩ | ⟨z, _⟩
  · rcases r with ⟨_, r2, tk', t', h2, h3, h4, h5⟩ | ⟨z, _⟩
    · rcases q with ⟨_, q2, t3, i4, va3, h6, h7⟩ | ⟨z, _⟩
      · exact Or.inl ⟨rfl, q2.trans (r2.trans f2), kk, va2, i4, SC_y h f3 h2 h3 h4 h6 rfl, f4, h5, h7⟩
      · exact absurd z c2
    · exact absurd z c
  · exact absurd z c1
theorem RR_h {P g v v2 g2 : Nat → Int32} {i0 t e : Nat} {fk tk va fk2 : Int32} (hf : ¬ fk2 = 0) (h : ∀ kk i2, ¬ HD (TC P) P i0 kk i2) : RRf P i0 g v fk 0 tk t e va fk2 v2 g2 := Or.inr ⟨rfl, hf, SN_a h⟩
theorem FO_n {g g2 : Nat → Int32} {kk : Nat} {rv fk fk2 : Int32} (h : FOf g g2 kk rv fk fk2) (c : rv = 0) : ¬ fk2 = 0 ∧ ¬ g kk = 0 := by
  rcases h with ⟨z, _⟩ | ⟨_, a, b⟩
  · rw [c] at z; exact absurd z (by decide)
  · exact ⟨a, b⟩
theorem NW_n {tk va p0 p1 rv fk fk2 : Int32} (h : NWn tk va p0 p1 rv fk fk2) (c : rv = 0) : ¬ (tk = 2 ∧ p0 ≤ va ∧ va ≤ p1) ∧ ¬ fk2 = 0 := by
  rcases h with ⟨z, _⟩ | ⟨_, a, b⟩
  · rw [c] at z; exact absurd z (by decide)
  · exact ⟨a, b⟩
theorem NW_y {tk va p0 p1 rv fk fk2 : Int32} (h : NWn tk va p0 p1 rv fk fk2) (c : ¬ rv = 0) : tk = 2 ∧ p0 ≤ va ∧ va ≤ p1 ∧ fk2 = fk := by
  rcases h with ⟨_, a⟩ | ⟨z, _⟩
  · exact a
  · exact absurd z c
theorem va13 {x : Int32} : (1 ≤ x ∧ x ≤ 3) ↔ (1 ≤ x.toInt ∧ x.toInt ≤ 3) := by rw [le_i, le_i]; exact Iff.rfl

set_option maxHeartbeats 4000000 in
set_option maxRecDepth 100000 in
theorem s_X4_readSemicolon (l : Launch) (dC : Nat → ClassId) (dI : Nat → Nat → Nat) (cs : Nat → ClassId) (L : List Nat) (ka : Nat → Nat) (ix : Nat → Nat) (ad : Nat → Nat → Nat) (n0 : Nat) (n6 : Nat) (n2 : Nat) (S : Nat → Nat → Nat → Int32) (f : Nat → va_E) (h0 : Nat) (t1 : Nat) (t2 : Nat) (t3 : Nat) (i_ruleCount : Int32) (i_faultKind : Int32) (i_faultPlace : Int32) (i_token : Int32) (i_tokenPlace : Int32) (i_value : Int32) (u1 : Nat) (ln : Nat) (a_b : Nat → Int32) (i8 : Nat) (sz : Nat) (hT : tB L ka ix ad cs n0 n6 n2 S f) (hln : ln ≤ 200) (hi8 : i8 ≤ ln) (hBt : Byt (PBy a_b ln) ln) : Met l yX4_readSemicolon wsX4_readSemicolon ({ frames := 3, cells := 0, slots := 0, locals := 64 }) (va_Pc [.ref h0] (cP dC dI ([(h0, .inr (4, [.ref t1, .ref t2, .ref t3, .int i_ruleCount, .int i_faultKind, .int i_faultPlace, .int (nI i8), .int i_token, .int i_tokenPlace, .int i_value])), (t1, .inr (7, [.ref u1, .int (nI ln)])), (u1, .inl (cs 0, 200, .inl a_b))] ++ va_pl L f) (tyC cs) sz)) (va_Qi (fun (r rv : Int32) => r = rv) (fun (rv : Int32) t9 => ∃ (e9 : Nat) (t9x : Nat) (y_token : Int32) (y_value : Int32) (fk2 : Int32) (fp2 : Int32), (e9 ≤ ln ∧ t9x ≤ e9) ∧ (RSf (PBy a_b ln) i8 rv y_token t9x e9 y_value i_faultKind fk2) ∧ cQ dC dI ([(h0, .inr (4, [.ref t1, .ref t2, .ref t3, .int i_ruleCount, .int fk2, .int fp2, .int (nI e9), .int y_token, .int (nI t9x), .int y_value])), (t1, .inr (7, [.ref u1, .int (nI ln)])), (u1, .inl (cs 0, 200, .inl a_b))] ++ va_pl L f) [] (va_A ([(h0, .inr (4, [.ref t1, .ref t2, .ref t3, .int i_ruleCount, .int i_faultKind, .int i_faultPlace, .int (nI i8), .int i_token, .int i_tokenPlace, .int i_value])), (t1, .inr (7, [.ref u1, .int (nI ln)])), (u1, .inl (cs 0, 200, .inl a_b))] ++ va_pl L f) sz) t9) (va_A ([(h0, .inr (4, [.ref t1, .ref t2, .ref t3, .int i_ruleCount, .int i_faultKind, .int i_faultPlace, .int (nI i8), .int i_token, .int i_tokenPlace, .int i_value])), (t1, .inr (7, [.ref u1, .int (nI ln)])), (u1, .inl (cs 0, 200, .inl a_b))] ++ va_pl L f) sz)) 0 0 (va_A ([(h0, .inr (4, [.ref t1, .ref t2, .ref t3, .int i_ruleCount, .int i_faultKind, .int i_faultPlace, .int (nI i8), .int i_token, .int i_tokenPlace, .int i_value])), (t1, .inr (7, [.ref u1, .int (nI ln)])), (u1, .inl (cs 0, 200, .inl a_b))] ++ va_pl L f) sz) := by
  refine Met.ofW (cc := cX4_readSemicolon) (maxL := 1) (ret := (some .boolean)) (by decide) rfl ?_
  intro p e s m args below meth c s₁ B hml hv
  obtain ⟨rfl, hsz, hP, hK, hD0, hN⟩ := hv
  have hx := B.exec
  have hb := B.bytes
  have hr := B.returns
  have hts := atoms_spec (ws := wsX4_readSemicolon) B.pre
  have hown : s.vm.findClass RX4 = some m.cls := findClass_of_methodNamed B.named
  have hlocks := B.notSynchronized
  subst hsz
  have hin4 : ∀ w ∈ u_ws RX4 TX4 10, w ∈ wsX4_readSemicolon := by decide +kernel
  have hD := hD0.self (sz := s.heap.size)
  generalize hAe : va_A ([(h0, .inr (4, [.ref t1, .ref t2, .ref t3, .int i_ruleCount, .int i_faultKind, .int i_faultPlace, .int (nI i8), .int i_token, .int i_tokenPlace, .int i_value])), (t1, .inr (7, [.ref u1, .int (nI ln)])), (u1, .inl (cs 0, 200, .inl a_b))] ++ va_pl L f) s.heap.size = A at hD ⊢
  have hA : ∀ q : Nat, s.heap.size ≤ q → A q := fun q h => by rw [← hAe]; exact Or.inr h
  have hS : va_S A s.heap s.heap [] := va_S.rf
  have hP : va_P (dC, dI) vwCl ([(h0, .inr (4, [.ref t1, .ref t2, .ref t3, .int i_ruleCount, .int i_faultKind, .int i_faultPlace, .int (nI i8), .int i_token, .int i_tokenPlace, .int i_value])), (t1, .inr (7, [.ref u1, .int (nI ln)])), (u1, .inl (cs 0, 200, .inl a_b))] ++ va_pl L f) s.heap := hP
  have hl := lv_entry ([.ref h0]) (n := 1) (Nat.le_of_ble_eq_true rfl)
  rw [lg_entry_eq]
  generalize (lg_sl ([.ref h0]) ++ List.replicate (1 - (lg_sl ([.ref h0])).length) Slot.unset).toArray = ls at hl ⊢
  have hl : lv_has ls 1 [(0, .ref h0)] := hl
  refine lv_aload_n hx hb dX4_readSemicolon_0 rfl (lv_at hl 0 rfl) ?_
  have hPc := hP.part (cx := [(h0, .inr (4, [.ref t1, .ref t2, .ref t3, .int i_ruleCount, .int i_faultKind, .int i_faultPlace, .int (nI i8), .int i_token, .int i_tokenPlace, .int i_value])), (t1, .inr (7, [.ref u1, .int (nI ln)])), (u1, .inl (cs 0, 200, .inl a_b))]) [0, 1, 2] rfl
  have hDc := hD.part (cx := [(h0, .inr (4, [.ref t1, .ref t2, .ref t3, .int i_ruleCount, .int i_faultKind, .int i_faultPlace, .int (nI i8), .int i_token, .int i_tokenPlace, .int i_value])), (t1, .inr (7, [.ref u1, .int (nI ln)])), (u1, .inl (cs 0, 200, .inl a_b))]) [0, 1, 2] (by decide) rfl
  have hKc := hK
  have hFc := va_freeP (cx := [(h0, .inr (4, [.ref t1, .ref t2, .ref t3, .int i_ruleCount, .int i_faultKind, .int i_faultPlace, .int (nI i8), .int i_token, .int i_tokenPlace, .int i_value])), (t1, .inr (7, [.ref u1, .int (nI ln)])), (u1, .inl (cs 0, 200, .inl a_b))]) hD hS hA [0, 1, 2] rfl
  refine va_callv (va_runV (As := []) (rest := []) ⟨hx, hb, hml, hown, hts⟩ (s_X4_readToken l dC dI cs L ka ix ad n0 n6 n2 S f h0 t1 t2 t3 i_ruleCount i_faultKind i_faultPlace i_token i_tokenPlace i_value u1 ln a_b i8 s.heap.size hT (by omega) (by omega) hBt) (cwV 0 hts gX4_readSemicolon_X4_readToken rfl rfl rfl (by decide +kernel) ⟨Nat.le_of_ble_eq_true rfl, Nat.le_of_ble_eq_true rfl⟩) ⟨c_blind, va_recv hKc hPc (ci := 4) (q0 := 0) rfl rfl, c_pre hPc hKc hDc hN⟩ rfl rfl hl.1 rfl (lv_room (Nat.le_of_ble_eq_true rfl)) dX4_readSemicolon_1 ⟨Nat.le_of_ble_eq_true rfl, Nat.le_of_ble_eq_true rfl⟩) hS (fun q _ h => hFc q h) hFc (fun u9 t9 H1 locs ht hvm hw hB hz1 hk1 hS => ?_)
  obtain ⟨e_2, t9x_3, y_token_4, y_value_5, hf_x_6, hf_x_7, hP1, hK1, hD1⟩ := hB
  rw [ht] at hP1
  have hK1 := va_K.moved hvm.symm hK1
  obtain ⟨hP, hD⟩ := va_joinP (X := [(h0, .inr (4, [.ref t1, .ref t2, .ref t3, .int i_ruleCount, .int i_faultKind, .int i_faultPlace, .int (nI i8), .int i_token, .int i_tokenPlace, .int i_value])), (t1, .inr (7, [.ref u1, .int (nI ln)])), (u1, .inl (cs 0, 200, .inl a_b))]) (cx := [(h0, .inr (4, [.ref t1, .ref t2, .ref t3, .int i_ruleCount, .int i_faultKind, .int i_faultPlace, .int (nI i8), .int i_token, .int i_tokenPlace, .int i_value])), (t1, .inr (7, [.ref u1, .int (nI ln)])), (u1, .inl (cs 0, 200, .inl a_b))]) (wr := []) (rx := [(h0, .inr (4, [.ref t1, .ref t2, .ref t3, .int i_ruleCount, .int i_faultKind, .int i_faultPlace, .int (nI e_2), .int y_token_4, .int (nI t9x_3), .int y_value_5])), (t1, .inr (7, [.ref u1, .int (nI ln)])), (u1, .inl (cs 0, 200, .inl a_b))]) (pl := va_pl L f) (pl1 := va_pl L f) hP hD [0, 1, 2] [] rfl rfl (by decide) (by decide) hk1 hFc hP1 hD1
  generalize H1 = H at hP hS ⊢
  have hP : va_P (dC, dI) vwCl ([(h0, .inr (4, [.ref t1, .ref t2, .ref t3, .int i_ruleCount, .int i_faultKind, .int i_faultPlace, .int (nI e_2), .int y_token_4, .int (nI t9x_3), .int y_value_5])), (t1, .inr (7, [.ref u1, .int (nI ln)])), (u1, .inl (cs 0, 200, .inl a_b))] ++ va_pl L f) H := hP
  have hD : va_D A ([(h0, .inr (4, [.ref t1, .ref t2, .ref t3, .int i_ruleCount, .int i_faultKind, .int i_faultPlace, .int (nI e_2), .int y_token_4, .int (nI t9x_3), .int y_value_5])), (t1, .inr (7, [.ref u1, .int (nI ln)])), (u1, .inl (cs 0, 200, .inl a_b))] ++ va_pl L f) := hD
  refine W.widen (k := 0) (n := 0) (Nat.le_of_ble_eq_true rfl) (Nat.le_of_ble_eq_true rfl) ?_
  refine lv_aload_n hx hb dX4_readSemicolon_4 rfl (lv_at hl 0 rfl) ?_
  refine va_get (D := (dC, dI)) (ci := 4) (v := .int y_token_4) (C := RX4) (T := TX4) (N := 10) hx hb hts hin4 hown hK hP 0 rfl rfl 7 (by decide) (hts (.fieldLink RX4 29 "YamRiders$StatuteReader" "token" "I") (by decide +kernel)) (fun _ h9 => h9) rfl dX4_readSemicolon_5 ?_
  refine lv_iconst (v := 3) hx hb dX4_readSemicolon_8 (by decide) ?_
  refine lv_icmp_eq (tgt := 18) hx hb dX4_readSemicolon_9 (by decide) (fun c_8 => ?_) (fun c_8 => ?_)
  · refine lv_aload_n hx hb dX4_readSemicolon_18 rfl (lv_at hl 0 rfl) ?_
    have hPc := hP.part (cx := [(h0, .inr (4, [.ref t1, .ref t2, .ref t3, .int i_ruleCount, .int i_faultKind, .int i_faultPlace, .int (nI e_2), .int y_token_4, .int (nI t9x_3), .int y_value_5])), (t1, .inr (7, [.ref u1, .int (nI ln)])), (u1, .inl (cs 0, 200, .inl a_b))]) [0, 1, 2] rfl
    have hDc := hD.part (cx := [(h0, .inr (4, [.ref t1, .ref t2, .ref t3, .int i_ruleCount, .int i_faultKind, .int i_faultPlace, .int (nI e_2), .int y_token_4, .int (nI t9x_3), .int y_value_5])), (t1, .inr (7, [.ref u1, .int (nI ln)])), (u1, .inl (cs 0, 200, .inl a_b))]) [0, 1, 2] (by decide) rfl
    have hKc := hK
    have hFc := va_freeP (cx := [(h0, .inr (4, [.ref t1, .ref t2, .ref t3, .int i_ruleCount, .int i_faultKind, .int i_faultPlace, .int (nI e_2), .int y_token_4, .int (nI t9x_3), .int y_value_5])), (t1, .inr (7, [.ref u1, .int (nI ln)])), (u1, .inl (cs 0, 200, .inl a_b))]) hD hS hA [0, 1, 2] rfl
    refine va_callv (va_runV (As := []) (rest := []) ⟨hx, hb, hml, hown, hts⟩ (s_X4_readToken l dC dI cs L ka ix ad n0 n6 n2 S f h0 t1 t2 t3 i_ruleCount i_faultKind i_faultPlace y_token_4 (nI t9x_3) y_value_5 u1 ln a_b e_2 H.size hT (by omega) (by omega) hBt) (cwV 0 hts gX4_readSemicolon_X4_readToken rfl rfl rfl (by decide +kernel) ⟨Nat.le_of_ble_eq_true rfl, Nat.le_of_ble_eq_true rfl⟩) ⟨c_blind, va_recv hKc hPc (ci := 4) (q0 := 0) rfl rfl, c_pre hPc hKc hDc hN⟩ rfl rfl hl.1 rfl (lv_room (Nat.le_of_ble_eq_true rfl)) dX4_readSemicolon_19 ⟨Nat.le_of_ble_eq_true rfl, Nat.le_of_ble_eq_true rfl⟩) hS (fun q _ h => hFc q h) hFc (fun u9 t9 H1 locs ht hvm hw hB hz1 hk1 hS => ?_)
    obtain ⟨e_10, t9x_11, y_token_12, y_value_13, hf_x_14, hf_x_15, hP1, hK1, hD1⟩ := hB
    rw [ht] at hP1
    have hK1 := va_K.moved hvm.symm hK1
    obtain ⟨hP, hD⟩ := va_joinP (X := [(h0, .inr (4, [.ref t1, .ref t2, .ref t3, .int i_ruleCount, .int i_faultKind, .int i_faultPlace, .int (nI e_2), .int y_token_4, .int (nI t9x_3), .int y_value_5])), (t1, .inr (7, [.ref u1, .int (nI ln)])), (u1, .inl (cs 0, 200, .inl a_b))]) (cx := [(h0, .inr (4, [.ref t1, .ref t2, .ref t3, .int i_ruleCount, .int i_faultKind, .int i_faultPlace, .int (nI e_2), .int y_token_4, .int (nI t9x_3), .int y_value_5])), (t1, .inr (7, [.ref u1, .int (nI ln)])), (u1, .inl (cs 0, 200, .inl a_b))]) (wr := []) (rx := [(h0, .inr (4, [.ref t1, .ref t2, .ref t3, .int i_ruleCount, .int i_faultKind, .int i_faultPlace, .int (nI e_10), .int y_token_12, .int (nI t9x_11), .int y_value_13])), (t1, .inr (7, [.ref u1, .int (nI ln)])), (u1, .inl (cs 0, 200, .inl a_b))]) (pl := va_pl L f) (pl1 := va_pl L f) hP hD [0, 1, 2] [] rfl rfl (by decide) (by decide) hk1 hFc hP1 hD1
    generalize H1 = H at hP hS ⊢
    have hP : va_P (dC, dI) vwCl ([(h0, .inr (4, [.ref t1, .ref t2, .ref t3, .int i_ruleCount, .int i_faultKind, .int i_faultPlace, .int (nI e_10), .int y_token_12, .int (nI t9x_11), .int y_value_13])), (t1, .inr (7, [.ref u1, .int (nI ln)])), (u1, .inl (cs 0, 200, .inl a_b))] ++ va_pl L f) H := hP
    have hD : va_D A ([(h0, .inr (4, [.ref t1, .ref t2, .ref t3, .int i_ruleCount, .int i_faultKind, .int i_faultPlace, .int (nI e_10), .int y_token_12, .int (nI t9x_11), .int y_value_13])), (t1, .inr (7, [.ref u1, .int (nI ln)])), (u1, .inl (cs 0, 200, .inl a_b))] ++ va_pl L f) := hD
    refine W.widen (k := 0) (n := 0) (Nat.le_of_ble_eq_true rfl) (Nat.le_of_ble_eq_true rfl) ?_
    refine lv_iconst (v := 1) hx hb dX4_readSemicolon_22 (by decide) ?_
    have hP9 := hP.part (cx := [(h0, .inr (4, [.ref t1, .ref t2, .ref t3, .int i_ruleCount, .int i_faultKind, .int i_faultPlace, .int (nI e_10), .int y_token_12, .int (nI t9x_11), .int y_value_13])), (t1, .inr (7, [.ref u1, .int (nI ln)])), (u1, .inl (cs 0, 200, .inl a_b))]) [0, 1, 2] rfl
    have hD9 := hD.part (cx := [(h0, .inr (4, [.ref t1, .ref t2, .ref t3, .int i_ruleCount, .int i_faultKind, .int i_faultPlace, .int (nI e_10), .int y_token_12, .int (nI t9x_11), .int y_value_13])), (t1, .inr (7, [.ref u1, .int (nI ln)])), (u1, .inl (cs 0, 200, .inl a_b))]) [0, 1, 2] (by decide) rfl
    have hK9 := hK.sub (tys' := []) [] rfl
    refine W.widen (k := 0) (n := 0) (Nat.le_of_ble_eq_true rfl) (Nat.le_of_ble_eq_true rfl) ?_
    exact W.zret (v := 1) hx hb hr rfl (fun t9 ht hW => ⟨⟨_, 1, rfl, rfl, e_10, t9x_11, y_token_12, y_value_13, i_faultKind, i_faultPlace, ⟨by omega, by omega⟩, (Or.inl ⟨rfl, rfl, _, _, _, TC_3 hf_x_7 c_8, hf_x_15⟩), by rw [ht]; exact hP9, va_K.moved hW.alike hK9, hD9⟩, hS.F ht⟩) hS.2.2 dX4_readSemicolon_23
  · refine lv_aload_n hx hb dX4_readSemicolon_12 rfl (lv_at hl 0 rfl) ?_
    refine lv_iconst (v := 2) hx hb dX4_readSemicolon_13 (by decide) ?_
    have hPc := hP.part (cx := [(h0, .inr (4, [.ref t1, .ref t2, .ref t3, .int i_ruleCount, .int i_faultKind, .int i_faultPlace, .int (nI e_2), .int y_token_4, .int (nI t9x_3), .int y_value_5]))]) [0] rfl
    have hDc := hD.part (cx := [(h0, .inr (4, [.ref t1, .ref t2, .ref t3, .int i_ruleCount, .int i_faultKind, .int i_faultPlace, .int (nI e_2), .int y_token_4, .int (nI t9x_3), .int y_value_5]))]) [0] (by decide) rfl
    have hKc := hK
    have hFc := va_freeP (cx := [(h0, .inr (4, [.ref t1, .ref t2, .ref t3, .int i_ruleCount, .int i_faultKind, .int i_faultPlace, .int (nI e_2), .int y_token_4, .int (nI t9x_3), .int y_value_5]))]) hD hS hA [0] rfl
    refine va_calli (va_runV (As := [.int 2]) (rest := []) ⟨hx, hb, hml, hown, hts⟩ (s_X4_stopAtToken l dC dI cs L ka ix ad n0 n6 n2 S f h0 t1 t2 t3 i_ruleCount i_faultKind i_faultPlace (nI e_2) y_token_4 (nI t9x_3) y_value_5 2 H.size hT (by decide)) (cwV 1 hts gX4_readSemicolon_X4_stopAtToken rfl rfl rfl (by decide +kernel) ⟨Nat.le_of_ble_eq_true rfl, Nat.le_of_ble_eq_true rfl⟩) ⟨c_blind, va_recv hKc hPc (ci := 4) (q0 := 0) rfl rfl, c_pre hPc hKc hDc hN⟩ rfl rfl hl.1 rfl (lv_room (Nat.le_of_ble_eq_true rfl)) dX4_readSemicolon_14 ⟨Nat.le_of_ble_eq_true rfl, Nat.le_of_ble_eq_true rfl⟩) hS (fun q _ h => hFc q h) hFc (fun r_16 u9 t9 H1 locs ht hvm hw hB hz1 hk1 hS => ?_)
    obtain ⟨fk_17, hf_x_18, hP1, hK1, hD1⟩ := hB
    rw [ht] at hP1
    have hK1 := va_K.moved hvm.symm hK1
    obtain ⟨hP, hD⟩ := va_joinP (X := [(h0, .inr (4, [.ref t1, .ref t2, .ref t3, .int i_ruleCount, .int i_faultKind, .int i_faultPlace, .int (nI e_2), .int y_token_4, .int (nI t9x_3), .int y_value_5])), (t1, .inr (7, [.ref u1, .int (nI ln)])), (u1, .inl (cs 0, 200, .inl a_b))]) (cx := [(h0, .inr (4, [.ref t1, .ref t2, .ref t3, .int i_ruleCount, .int i_faultKind, .int i_faultPlace, .int (nI e_2), .int y_token_4, .int (nI t9x_3), .int y_value_5]))]) (wr := [(t1, .inr (7, [.ref u1, .int (nI ln)])), (u1, .inl (cs 0, 200, .inl a_b))]) (rx := [(h0, .inr (4, [.ref t1, .ref t2, .ref t3, .int i_ruleCount, .int fk_17, .int (nI t9x_3), .int (nI e_2), .int y_token_4, .int (nI t9x_3), .int y_value_5]))]) (pl := va_pl L f) (pl1 := va_pl L f) hP hD [0] [1, 2] rfl rfl (by decide) (by decide) hk1 hFc hP1 hD1
    generalize H1 = H at hP hS ⊢
    have hP : va_P (dC, dI) vwCl ([(t1, .inr (7, [.ref u1, .int (nI ln)])), (u1, .inl (cs 0, 200, .inl a_b)), (h0, .inr (4, [.ref t1, .ref t2, .ref t3, .int i_ruleCount, .int fk_17, .int (nI t9x_3), .int (nI e_2), .int y_token_4, .int (nI t9x_3), .int y_value_5]))] ++ va_pl L f) H := hP
    have hD : va_D A ([(t1, .inr (7, [.ref u1, .int (nI ln)])), (u1, .inl (cs 0, 200, .inl a_b)), (h0, .inr (4, [.ref t1, .ref t2, .ref t3, .int i_ruleCount, .int fk_17, .int (nI t9x_3), .int (nI e_2), .int y_token_4, .int (nI t9x_3), .int y_value_5]))] ++ va_pl L f) := hD
    refine W.widen (k := 0) (n := 0) (Nat.le_of_ble_eq_true rfl) (Nat.le_of_ble_eq_true rfl) ?_
    try dsimp only at hw
    subst hw
    have hP9 := hP.part (cx := [(h0, .inr (4, [.ref t1, .ref t2, .ref t3, .int i_ruleCount, .int fk_17, .int (nI t9x_3), .int (nI e_2), .int y_token_4, .int (nI t9x_3), .int y_value_5])), (t1, .inr (7, [.ref u1, .int (nI ln)])), (u1, .inl (cs 0, 200, .inl a_b))]) [2, 0, 1] rfl
    have hD9 := hD.part (cx := [(h0, .inr (4, [.ref t1, .ref t2, .ref t3, .int i_ruleCount, .int fk_17, .int (nI t9x_3), .int (nI e_2), .int y_token_4, .int (nI t9x_3), .int y_value_5])), (t1, .inr (7, [.ref u1, .int (nI ln)])), (u1, .inl (cs 0, 200, .inl a_b))]) [2, 0, 1] (by decide) rfl
    have hK9 := hK.sub (tys' := []) [] rfl
    refine W.widen (k := 0) (n := 0) (Nat.le_of_ble_eq_true rfl) (Nat.le_of_ble_eq_true rfl) ?_
    exact W.zret (v := 0) hx hb hr rfl (fun t9 ht hW => ⟨⟨_, 0, rfl, rfl, e_2, t9x_3, y_token_4, y_value_5, fk_17, (nI t9x_3), ⟨by omega, by omega⟩, (Or.inr ⟨rfl, hf_x_18, _, _, _, _, hf_x_7, c_8⟩), by rw [ht]; exact hP9, va_K.moved hW.alike hK9, hD9⟩, hS.F ht⟩) hS.2.2 dX4_readSemicolon_17

set_option maxHeartbeats 4000000 in
set_option maxRecDepth 100000 in
theorem s_X4_isFirstOf (l : Launch) (dC : Nat → ClassId) (dI : Nat → Nat → Nat) (cs : Nat → ClassId) (L : List Nat) (ka : Nat → Nat) (ix : Nat → Nat) (ad : Nat → Nat → Nat) (n0 : Nat) (n6 : Nat) (n2 : Nat) (S : Nat → Nat → Nat → Int32) (f : Nat → va_E) (h0 : Nat) (t1 : Nat) (t2 : Nat) (t3 : Nat) (i_ruleCount : Int32) (i_faultKind : Int32) (i_faultPlace : Int32) (i_place : Int32) (i_token : Int32) (i_tokenPlace : Int32) (i_value : Int32) (a_t : Nat → Int32) (kk : Nat) (sz : Nat) (hT : tB L ka ix ad cs n0 n6 n2 S f) (hkk : kk < 6) : Met l yX4_isFirstOf wsX4_isFirstOf ({ frames := 1, cells := 0, slots := 0, locals := 21 }) (va_Pc [.ref h0, .int (nI kk)] (cP dC dI ([(h0, .inr (4, [.ref t1, .ref t2, .ref t3, .int i_ruleCount, .int i_faultKind, .int i_faultPlace, .int i_place, .int i_token, .int i_tokenPlace, .int i_value])), (t3, .inl (cs 1, 6, .inl a_t))] ++ va_pl L f) (tyC cs) sz)) (va_Qi (fun (r rv : Int32) => r = rv) (fun (rv : Int32) t9 => ∃ (fk2 : Int32) (fp2 : Int32) (f_t : Nat → Int32), (FOf a_t f_t kk rv i_faultKind fk2) ∧ cQ dC dI ([(h0, .inr (4, [.ref t1, .ref t2, .ref t3, .int i_ruleCount, .int fk2, .int fp2, .int i_place, .int i_token, .int i_tokenPlace, .int i_value])), (t3, .inl (cs 1, 6, .inl f_t))] ++ va_pl L f) [] (va_A ([(h0, .inr (4, [.ref t1, .ref t2, .ref t3, .int i_ruleCount, .int i_faultKind, .int i_faultPlace, .int i_place, .int i_token, .int i_tokenPlace, .int i_value])), (t3, .inl (cs 1, 6, .inl a_t))] ++ va_pl L f) sz) t9) (va_A ([(h0, .inr (4, [.ref t1, .ref t2, .ref t3, .int i_ruleCount, .int i_faultKind, .int i_faultPlace, .int i_place, .int i_token, .int i_tokenPlace, .int i_value])), (t3, .inl (cs 1, 6, .inl a_t))] ++ va_pl L f) sz)) 0 0 (va_A ([(h0, .inr (4, [.ref t1, .ref t2, .ref t3, .int i_ruleCount, .int i_faultKind, .int i_faultPlace, .int i_place, .int i_token, .int i_tokenPlace, .int i_value])), (t3, .inl (cs 1, 6, .inl a_t))] ++ va_pl L f) sz) := by
  refine Met.ofW (cc := cX4_isFirstOf) (maxL := 2) (ret := (some .boolean)) (by decide) rfl ?_
  intro p e s m args below meth c s₁ B hml hv
  obtain ⟨rfl, hsz, hP, hK, hD0, hN⟩ := hv
  have hx := B.exec
  have hb := B.bytes
  have hr := B.returns
  have hts := atoms_spec (ws := wsX4_isFirstOf) B.pre
  have hown : s.vm.findClass RX4 = some m.cls := findClass_of_methodNamed B.named
  have hlocks := B.notSynchronized
  subst hsz
  have hin4 : ∀ w ∈ u_ws RX4 TX4 10, w ∈ wsX4_isFirstOf := by decide +kernel
  have hD := hD0.self (sz := s.heap.size)
  generalize hAe : va_A ([(h0, .inr (4, [.ref t1, .ref t2, .ref t3, .int i_ruleCount, .int i_faultKind, .int i_faultPlace, .int i_place, .int i_token, .int i_tokenPlace, .int i_value])), (t3, .inl (cs 1, 6, .inl a_t))] ++ va_pl L f) s.heap.size = A at hD ⊢
  have hA : ∀ q : Nat, s.heap.size ≤ q → A q := fun q h => by rw [← hAe]; exact Or.inr h
  have hS : va_S A s.heap s.heap [] := va_S.rf
  have hP : va_P (dC, dI) vwCl ([(h0, .inr (4, [.ref t1, .ref t2, .ref t3, .int i_ruleCount, .int i_faultKind, .int i_faultPlace, .int i_place, .int i_token, .int i_tokenPlace, .int i_value])), (t3, .inl (cs 1, 6, .inl a_t))] ++ va_pl L f) s.heap := hP
  have hl := lv_entry ([.ref h0, .int (nI kk)]) (n := 2) (Nat.le_of_ble_eq_true rfl)
  rw [lg_entry_eq]
  generalize (lg_sl ([.ref h0, .int (nI kk)]) ++ List.replicate (2 - (lg_sl ([.ref h0, .int (nI kk)])).length) Slot.unset).toArray = ls at hl ⊢
  have hl : lv_has ls 2 [(0, .ref h0), (1, .int (nI kk))] := hl
  refine lv_iload_n hx hb dX4_isFirstOf_0 rfl (lv_at hl 1 rfl) ?_
  refine lv_if_lt (tgt := 19) hx hb dX4_isFirstOf_1 (by decide) (fun c_1 => by first | exact absurd c_1 (nI_pos (by omega)) | exact absurd (nI_pos (by omega)) c_1) (fun _ => ?_)
  refine lv_iload_n hx hb dX4_isFirstOf_4 rfl (lv_at hl 1 rfl) ?_
  refine lv_bipush (v := 6) hx hb dX4_isFirstOf_5 (by decide) ?_
  refine lv_icmp_ge (tgt := 19) hx hb dX4_isFirstOf_7 (by decide) (fun c_2 => by first | exact absurd c_2 (nI_ge (a := kk) (b := 6) hkk (by decide)) | exact absurd (nI_ge (a := kk) (b := 6) hkk (by decide)) c_2) (fun _ => ?_)
  refine lv_aload_n hx hb dX4_isFirstOf_10 rfl (lv_at hl 0 rfl) ?_
  refine va_get (D := (dC, dI)) (ci := 4) (v := .ref t3) (C := RX4) (T := TX4) (N := 10) hx hb hts hin4 hown hK hP 0 rfl rfl 2 (by decide) (hts (.fieldLink RX4 18 "YamRiders$StatuteReader" "isTold" "[Z") (by decide +kernel)) (fun _ h9 => h9) rfl dX4_isFirstOf_11 ?_
  refine lv_iload_n hx hb dX4_isFirstOf_14 rfl (lv_at hl 1 rfl) ?_
  refine va_zald hx hb hK hP 1 1 rfl rfl (vp_in_nI (by omega) (by omega)) dX4_isFirstOf_15 ?_
  refine lv_topi (fun v_3 ev_3 => ?_)
  refine lv_if_eq (tgt := 25) hx hb dX4_isFirstOf_16 (by decide) (fun c_4 => ?_) (fun c_4 => ?_)
  · refine lv_aload_n hx hb dX4_isFirstOf_25 rfl (lv_at hl 0 rfl) ?_
    refine va_get (D := (dC, dI)) (ci := 4) (v := .ref t3) (C := RX4) (T := TX4) (N := 10) hx hb hts hin4 hown hK hP 0 rfl rfl 2 (by decide) (hts (.fieldLink RX4 18 "YamRiders$StatuteReader" "isTold" "[Z") (by decide +kernel)) (fun _ h9 => h9) rfl dX4_isFirstOf_26 ?_
    refine lv_iload_n hx hb dX4_isFirstOf_29 rfl (lv_at hl 1 rfl) ?_
    refine lv_iconst (v := 1) hx hb dX4_isFirstOf_30 (by decide) ?_
    refine va_zast hx hb hK hP hD hS 1 1 rfl rfl (vp_in_nI (by omega) (by omega)) dX4_isFirstOf_31 (fun H locs hP hD hS => ?_)
    have hP : va_P (dC, dI) vwCl ([(h0, .inr (4, [.ref t1, .ref t2, .ref t3, .int i_ruleCount, .int i_faultKind, .int i_faultPlace, .int i_place, .int i_token, .int i_tokenPlace, .int i_value])), (t3, .inl (cs 1, 6, .inl (upd a_t (nI kk).toNatClampNeg (vp_nar .boolean 1))))] ++ va_pl L f) H := hP
    have hD : va_D A ([(h0, .inr (4, [.ref t1, .ref t2, .ref t3, .int i_ruleCount, .int i_faultKind, .int i_faultPlace, .int i_place, .int i_token, .int i_tokenPlace, .int i_value])), (t3, .inl (cs 1, 6, .inl (upd a_t (nI kk).toNatClampNeg (vp_nar .boolean 1))))] ++ va_pl L f) := hD
    obtain ⟨f_5, ef_5⟩ : ∃ w9 : Nat → Int32, w9 = upd a_t (nI kk).toNatClampNeg (vp_nar .boolean 1) := ⟨_, rfl⟩
    rw [← ef_5] at hP hD
    refine lv_iconst (v := 1) hx hb dX4_isFirstOf_32 (by decide) ?_
    have hP9 := hP.part (cx := [(h0, .inr (4, [.ref t1, .ref t2, .ref t3, .int i_ruleCount, .int i_faultKind, .int i_faultPlace, .int i_place, .int i_token, .int i_tokenPlace, .int i_value])), (t3, .inl (cs 1, 6, .inl f_5))]) [0, 1] rfl
    have hD9 := hD.part (cx := [(h0, .inr (4, [.ref t1, .ref t2, .ref t3, .int i_ruleCount, .int i_faultKind, .int i_faultPlace, .int i_place, .int i_token, .int i_tokenPlace, .int i_value])), (t3, .inl (cs 1, 6, .inl f_5))]) [0, 1] (by decide) rfl
    have hK9 := hK.sub (tys' := []) [] rfl
    refine W.widen (k := 0) (n := 0) (Nat.le_of_ble_eq_true rfl) (Nat.le_of_ble_eq_true rfl) ?_
    exact W.zret (v := 1) hx hb hr rfl (fun t9 ht hW => ⟨⟨_, 1, rfl, rfl, i_faultKind, i_faultPlace, f_5, (Or.inl ⟨rfl, rfl, (show v_3 = a_t kk from by rw [ev_3, nI_clamp (by omega)]).symm.trans c_4, by rw [ef_5, nI_clamp (by omega)]; try rfl⟩), by rw [ht]; exact hP9, va_K.moved hW.alike hK9, hD9⟩, hS.F ht⟩) hS.2.2 dX4_isFirstOf_33
  · refine lv_aload_n hx hb dX4_isFirstOf_19 rfl (lv_at hl 0 rfl) ?_
    refine lv_iconst (v := 4) hx hb dX4_isFirstOf_20 (by decide) ?_
    have hPc := hP.part (cx := [(h0, .inr (4, [.ref t1, .ref t2, .ref t3, .int i_ruleCount, .int i_faultKind, .int i_faultPlace, .int i_place, .int i_token, .int i_tokenPlace, .int i_value]))]) [0] rfl
    have hDc := hD.part (cx := [(h0, .inr (4, [.ref t1, .ref t2, .ref t3, .int i_ruleCount, .int i_faultKind, .int i_faultPlace, .int i_place, .int i_token, .int i_tokenPlace, .int i_value]))]) [0] (by decide) rfl
    have hKc := hK
    have hFc := va_freeP (cx := [(h0, .inr (4, [.ref t1, .ref t2, .ref t3, .int i_ruleCount, .int i_faultKind, .int i_faultPlace, .int i_place, .int i_token, .int i_tokenPlace, .int i_value]))]) hD hS hA [0] rfl
    refine va_calli (va_runV (As := [.int 4]) (rest := []) ⟨hx, hb, hml, hown, hts⟩ (s_X4_stopAtToken l dC dI cs L ka ix ad n0 n6 n2 S f h0 t1 t2 t3 i_ruleCount i_faultKind i_faultPlace i_place i_token i_tokenPlace i_value 4 s.heap.size hT (by decide)) (cwV 1 hts gX4_isFirstOf_X4_stopAtToken rfl rfl rfl (by decide +kernel) ⟨Nat.le_of_ble_eq_true rfl, Nat.le_of_ble_eq_true rfl⟩) ⟨c_blind, va_recv hKc hPc (ci := 4) (q0 := 0) rfl rfl, c_pre hPc hKc hDc hN⟩ rfl rfl hl.1 rfl (lv_room (Nat.le_of_ble_eq_true rfl)) dX4_isFirstOf_21 ⟨Nat.le_of_ble_eq_true rfl, Nat.le_of_ble_eq_true rfl⟩) hS (fun q _ h => hFc q h) hFc (fun r_6 u9 t9 H1 locs ht hvm hw hB hz1 hk1 hS => ?_)
    obtain ⟨fk_7, hf_x_8, hP1, hK1, hD1⟩ := hB
    rw [ht] at hP1
    have hK1 := va_K.moved hvm.symm hK1
    obtain ⟨hP, hD⟩ := va_joinP (X := [(h0, .inr (4, [.ref t1, .ref t2, .ref t3, .int i_ruleCount, .int i_faultKind, .int i_faultPlace, .int i_place, .int i_token, .int i_tokenPlace, .int i_value])), (t3, .inl (cs 1, 6, .inl a_t))]) (cx := [(h0, .inr (4, [.ref t1, .ref t2, .ref t3, .int i_ruleCount, .int i_faultKind, .int i_faultPlace, .int i_place, .int i_token, .int i_tokenPlace, .int i_value]))]) (wr := [(t3, .inl (cs 1, 6, .inl a_t))]) (rx := [(h0, .inr (4, [.ref t1, .ref t2, .ref t3, .int i_ruleCount, .int fk_7, .int i_tokenPlace, .int i_place, .int i_token, .int i_tokenPlace, .int i_value]))]) (pl := va_pl L f) (pl1 := va_pl L f) hP hD [0] [1] rfl rfl (by decide) (by decide) hk1 hFc hP1 hD1
    generalize H1 = H at hP hS ⊢
    have hP : va_P (dC, dI) vwCl ([(t3, .inl (cs 1, 6, .inl a_t)), (h0, .inr (4, [.ref t1, .ref t2, .ref t3, .int i_ruleCount, .int fk_7, .int i_tokenPlace, .int i_place, .int i_token, .int i_tokenPlace, .int i_value]))] ++ va_pl L f) H := hP
    have hD : va_D A ([(t3, .inl (cs 1, 6, .inl a_t)), (h0, .inr (4, [.ref t1, .ref t2, .ref t3, .int i_ruleCount, .int fk_7, .int i_tokenPlace, .int i_place, .int i_token, .int i_tokenPlace, .int i_value]))] ++ va_pl L f) := hD
    refine W.widen (k := 0) (n := 0) (Nat.le_of_ble_eq_true rfl) (Nat.le_of_ble_eq_true rfl) ?_
    try dsimp only at hw
    subst hw
    have hP9 := hP.part (cx := [(h0, .inr (4, [.ref t1, .ref t2, .ref t3, .int i_ruleCount, .int fk_7, .int i_tokenPlace, .int i_place, .int i_token, .int i_tokenPlace, .int i_value])), (t3, .inl (cs 1, 6, .inl a_t))]) [1, 0] rfl
    have hD9 := hD.part (cx := [(h0, .inr (4, [.ref t1, .ref t2, .ref t3, .int i_ruleCount, .int fk_7, .int i_tokenPlace, .int i_place, .int i_token, .int i_tokenPlace, .int i_value])), (t3, .inl (cs 1, 6, .inl a_t))]) [1, 0] (by decide) rfl
    have hK9 := hK.sub (tys' := []) [] rfl
    refine W.widen (k := 0) (n := 0) (Nat.le_of_ble_eq_true rfl) (Nat.le_of_ble_eq_true rfl) ?_
    exact W.zret (v := 0) hx hb hr rfl (fun t9 ht hW => ⟨⟨_, 0, rfl, rfl, fk_7, i_tokenPlace, a_t, (Or.inr ⟨rfl, hf_x_8, fun w => c_4 ((show v_3 = a_t kk from by rw [ev_3, nI_clamp (by omega)]).trans w)⟩), by rw [ht]; exact hP9, va_K.moved hW.alike hK9, hD9⟩, hS.F ht⟩) hS.2.2 dX4_isFirstOf_24

set_option maxHeartbeats 4000000 in
set_option maxRecDepth 100000 in
theorem s_X4_readNumberOf (l : Launch) (dC : Nat → ClassId) (dI : Nat → Nat → Nat) (cs : Nat → ClassId) (L : List Nat) (ka : Nat → Nat) (ix : Nat → Nat) (ad : Nat → Nat → Nat) (n0 : Nat) (n6 : Nat) (n2 : Nat) (S : Nat → Nat → Nat → Int32) (f : Nat → va_E) (h0 : Nat) (t1 : Nat) (t2 : Nat) (t3 : Nat) (i_ruleCount : Int32) (i_faultKind : Int32) (i_faultPlace : Int32) (i_token : Int32) (i_tokenPlace : Int32) (i_value : Int32) (u1 : Nat) (ln : Nat) (a_b : Nat → Int32) (n1 : Nat) (a_n : Nat → Int32) (i8 : Nat) (kk : Nat) (sz : Nat) (hT : tB L ka ix ad cs n0 n6 n2 S f) (hln : ln ≤ 200) (hi8 : i8 ≤ ln) (hBt : Byt (PBy a_b ln) ln) (hkk : kk < 6) : Met l yX4_readNumberOf wsX4_readNumberOf ({ frames := 3, cells := 0, slots := 0, locals := 64 }) (va_Pc [.ref h0, .int (nI kk)] (cP dC dI ([(h0, .inr (4, [.ref t1, .ref t2, .ref t3, .int i_ruleCount, .int i_faultKind, .int i_faultPlace, .int (nI i8), .int i_token, .int i_tokenPlace, .int i_value])), (t1, .inr (7, [.ref u1, .int (nI ln)])), (u1, .inl (cs 0, 200, .inl a_b)), (t2, .inr (5, [.ref n1])), (n1, .inl (cs 0, 6, .inl a_n))] ++ va_pl L f) (tyC cs) sz)) (va_Qi (fun (r rv : Int32) => r = rv) (fun (rv : Int32) t9 => ∃ (e9 : Nat) (t9x : Nat) (y_token : Int32) (y_value : Int32) (fk2 : Int32) (fp2 : Int32) (f_n : Nat → Int32), (e9 ≤ ln ∧ t9x ≤ e9) ∧ (RNf (PBy a_b ln) i8 kk rv e9 y_value i_faultKind fk2 a_n f_n) ∧ cQ dC dI ([(h0, .inr (4, [.ref t1, .ref t2, .ref t3, .int i_ruleCount, .int fk2, .int fp2, .int (nI e9), .int y_token, .int (nI t9x), .int y_value])), (t1, .inr (7, [.ref u1, .int (nI ln)])), (u1, .inl (cs 0, 200, .inl a_b)), (t2, .inr (5, [.ref n1])), (n1, .inl (cs 0, 6, .inl f_n))] ++ va_pl L f) [] (va_A ([(h0, .inr (4, [.ref t1, .ref t2, .ref t3, .int i_ruleCount, .int i_faultKind, .int i_faultPlace, .int (nI i8), .int i_token, .int i_tokenPlace, .int i_value])), (t1, .inr (7, [.ref u1, .int (nI ln)])), (u1, .inl (cs 0, 200, .inl a_b)), (t2, .inr (5, [.ref n1])), (n1, .inl (cs 0, 6, .inl a_n))] ++ va_pl L f) sz) t9) (va_A ([(h0, .inr (4, [.ref t1, .ref t2, .ref t3, .int i_ruleCount, .int i_faultKind, .int i_faultPlace, .int (nI i8), .int i_token, .int i_tokenPlace, .int i_value])), (t1, .inr (7, [.ref u1, .int (nI ln)])), (u1, .inl (cs 0, 200, .inl a_b)), (t2, .inr (5, [.ref n1])), (n1, .inl (cs 0, 6, .inl a_n))] ++ va_pl L f) sz)) 0 0 (va_A ([(h0, .inr (4, [.ref t1, .ref t2, .ref t3, .int i_ruleCount, .int i_faultKind, .int i_faultPlace, .int (nI i8), .int i_token, .int i_tokenPlace, .int i_value])), (t1, .inr (7, [.ref u1, .int (nI ln)])), (u1, .inl (cs 0, 200, .inl a_b)), (t2, .inr (5, [.ref n1])), (n1, .inl (cs 0, 6, .inl a_n))] ++ va_pl L f) sz) := by
  refine Met.ofW (cc := cX4_readNumberOf) (maxL := 2) (ret := (some .boolean)) (by decide) rfl ?_
  intro p e s m args below meth c s₁ B hml hv
  obtain ⟨rfl, hsz, hP, hK, hD0, hN⟩ := hv
  have hx := B.exec
  have hb := B.bytes
  have hr := B.returns
  have hts := atoms_spec (ws := wsX4_readNumberOf) B.pre
  have hown : s.vm.findClass RX4 = some m.cls := findClass_of_methodNamed B.named
  have hlocks := B.notSynchronized
  subst hsz
  have hin4 : ∀ w ∈ u_ws RX4 TX4 10, w ∈ wsX4_readNumberOf := by decide +kernel
  have hD := hD0.self (sz := s.heap.size)
  generalize hAe : va_A ([(h0, .inr (4, [.ref t1, .ref t2, .ref t3, .int i_ruleCount, .int i_faultKind, .int i_faultPlace, .int (nI i8), .int i_token, .int i_tokenPlace, .int i_value])), (t1, .inr (7, [.ref u1, .int (nI ln)])), (u1, .inl (cs 0, 200, .inl a_b)), (t2, .inr (5, [.ref n1])), (n1, .inl (cs 0, 6, .inl a_n))] ++ va_pl L f) s.heap.size = A at hD ⊢
  have hA : ∀ q : Nat, s.heap.size ≤ q → A q := fun q h => by rw [← hAe]; exact Or.inr h
  have hS : va_S A s.heap s.heap [] := va_S.rf
  have hP : va_P (dC, dI) vwCl ([(h0, .inr (4, [.ref t1, .ref t2, .ref t3, .int i_ruleCount, .int i_faultKind, .int i_faultPlace, .int (nI i8), .int i_token, .int i_tokenPlace, .int i_value])), (t1, .inr (7, [.ref u1, .int (nI ln)])), (u1, .inl (cs 0, 200, .inl a_b)), (t2, .inr (5, [.ref n1])), (n1, .inl (cs 0, 6, .inl a_n))] ++ va_pl L f) s.heap := hP
  have hl := lv_entry ([.ref h0, .int (nI kk)]) (n := 2) (Nat.le_of_ble_eq_true rfl)
  rw [lg_entry_eq]
  generalize (lg_sl ([.ref h0, .int (nI kk)]) ++ List.replicate (2 - (lg_sl ([.ref h0, .int (nI kk)])).length) Slot.unset).toArray = ls at hl ⊢
  have hl : lv_has ls 2 [(0, .ref h0), (1, .int (nI kk))] := hl
  refine lv_aload_n hx hb dX4_readNumberOf_0 rfl (lv_at hl 0 rfl) ?_
  have hPc := hP.part (cx := [(h0, .inr (4, [.ref t1, .ref t2, .ref t3, .int i_ruleCount, .int i_faultKind, .int i_faultPlace, .int (nI i8), .int i_token, .int i_tokenPlace, .int i_value])), (t1, .inr (7, [.ref u1, .int (nI ln)])), (u1, .inl (cs 0, 200, .inl a_b))]) [0, 1, 2] rfl
  have hDc := hD.part (cx := [(h0, .inr (4, [.ref t1, .ref t2, .ref t3, .int i_ruleCount, .int i_faultKind, .int i_faultPlace, .int (nI i8), .int i_token, .int i_tokenPlace, .int i_value])), (t1, .inr (7, [.ref u1, .int (nI ln)])), (u1, .inl (cs 0, 200, .inl a_b))]) [0, 1, 2] (by decide) rfl
  have hKc := hK
  have hFc := va_freeP (cx := [(h0, .inr (4, [.ref t1, .ref t2, .ref t3, .int i_ruleCount, .int i_faultKind, .int i_faultPlace, .int (nI i8), .int i_token, .int i_tokenPlace, .int i_value])), (t1, .inr (7, [.ref u1, .int (nI ln)])), (u1, .inl (cs 0, 200, .inl a_b))]) hD hS hA [0, 1, 2] rfl
  refine va_callv (va_runV (As := []) (rest := []) ⟨hx, hb, hml, hown, hts⟩ (s_X4_readToken l dC dI cs L ka ix ad n0 n6 n2 S f h0 t1 t2 t3 i_ruleCount i_faultKind i_faultPlace i_token i_tokenPlace i_value u1 ln a_b i8 s.heap.size hT (by omega) (by omega) hBt) (cwV 0 hts gX4_readNumberOf_X4_readToken rfl rfl rfl (by decide +kernel) ⟨Nat.le_of_ble_eq_true rfl, Nat.le_of_ble_eq_true rfl⟩) ⟨c_blind, va_recv hKc hPc (ci := 4) (q0 := 0) rfl rfl, c_pre hPc hKc hDc hN⟩ rfl rfl hl.1 rfl (lv_room (Nat.le_of_ble_eq_true rfl)) dX4_readNumberOf_1 ⟨Nat.le_of_ble_eq_true rfl, Nat.le_of_ble_eq_true rfl⟩) hS (fun q _ h => hFc q h) hFc (fun u9 t9 H1 locs ht hvm hw hB hz1 hk1 hS => ?_)
  obtain ⟨e_2, t9x_3, y_token_4, y_value_5, hf_x_6, hf_x_7, hP1, hK1, hD1⟩ := hB
  rw [ht] at hP1
  have hK1 := va_K.moved hvm.symm hK1
  obtain ⟨hP, hD⟩ := va_joinP (X := [(h0, .inr (4, [.ref t1, .ref t2, .ref t3, .int i_ruleCount, .int i_faultKind, .int i_faultPlace, .int (nI i8), .int i_token, .int i_tokenPlace, .int i_value])), (t1, .inr (7, [.ref u1, .int (nI ln)])), (u1, .inl (cs 0, 200, .inl a_b)), (t2, .inr (5, [.ref n1])), (n1, .inl (cs 0, 6, .inl a_n))]) (cx := [(h0, .inr (4, [.ref t1, .ref t2, .ref t3, .int i_ruleCount, .int i_faultKind, .int i_faultPlace, .int (nI i8), .int i_token, .int i_tokenPlace, .int i_value])), (t1, .inr (7, [.ref u1, .int (nI ln)])), (u1, .inl (cs 0, 200, .inl a_b))]) (wr := [(t2, .inr (5, [.ref n1])), (n1, .inl (cs 0, 6, .inl a_n))]) (rx := [(h0, .inr (4, [.ref t1, .ref t2, .ref t3, .int i_ruleCount, .int i_faultKind, .int i_faultPlace, .int (nI e_2), .int y_token_4, .int (nI t9x_3), .int y_value_5])), (t1, .inr (7, [.ref u1, .int (nI ln)])), (u1, .inl (cs 0, 200, .inl a_b))]) (pl := va_pl L f) (pl1 := va_pl L f) hP hD [0, 1, 2] [3, 4] rfl rfl (by decide) (by decide) hk1 hFc hP1 hD1
  generalize H1 = H at hP hS ⊢
  have hP : va_P (dC, dI) vwCl ([(t2, .inr (5, [.ref n1])), (n1, .inl (cs 0, 6, .inl a_n)), (h0, .inr (4, [.ref t1, .ref t2, .ref t3, .int i_ruleCount, .int i_faultKind, .int i_faultPlace, .int (nI e_2), .int y_token_4, .int (nI t9x_3), .int y_value_5])), (t1, .inr (7, [.ref u1, .int (nI ln)])), (u1, .inl (cs 0, 200, .inl a_b))] ++ va_pl L f) H := hP
  have hD : va_D A ([(t2, .inr (5, [.ref n1])), (n1, .inl (cs 0, 6, .inl a_n)), (h0, .inr (4, [.ref t1, .ref t2, .ref t3, .int i_ruleCount, .int i_faultKind, .int i_faultPlace, .int (nI e_2), .int y_token_4, .int (nI t9x_3), .int y_value_5])), (t1, .inr (7, [.ref u1, .int (nI ln)])), (u1, .inl (cs 0, 200, .inl a_b))] ++ va_pl L f) := hD
  refine W.widen (k := 0) (n := 0) (Nat.le_of_ble_eq_true rfl) (Nat.le_of_ble_eq_true rfl) ?_
  refine lv_aload_n hx hb dX4_readNumberOf_4 rfl (lv_at hl 0 rfl) ?_
  refine lv_iload_n hx hb dX4_readNumberOf_5 rfl (lv_at hl 1 rfl) ?_
  have hPc := hP.part (cx := []) [] rfl
  have hDc := hD.part (cx := []) [] (by decide) rfl
  have hKc := hK
  refine cs_i (va_runS (As := [.int (nI kk)]) (rest := [.ref h0]) ⟨hx, hb, hml, hown, hts⟩ (s_X5_leastFor l dC dI cs L ka ix ad n0 n6 n2 S f kk H.size hT (by omega)) (va_cwS 1 hts gX4_readNumberOf_X5_leastFor rfl rfl rfl (by decide +kernel) ⟨Nat.le_of_ble_eq_true rfl, Nat.le_of_ble_eq_true rfl⟩) ⟨c_blind, c_pre hPc hKc hDc hN⟩ rfl rfl hl.1 rfl (lv_room (Nat.le_of_ble_eq_true rfl)) dX4_readNumberOf_6 ⟨Nat.le_of_ble_eq_true rfl, Nat.le_of_ble_eq_true rfl⟩) (fun r_8 hr_8 => ?_)
  subst hr_8
  refine lv_iload_n hx hb dX4_readNumberOf_9 rfl (lv_at hl 1 rfl) ?_
  have hPc := hP.part (cx := []) [] rfl
  have hDc := hD.part (cx := []) [] (by decide) rfl
  have hKc := hK
  refine cs_i (va_runS (As := [.int (nI kk)]) (rest := [.int (lsK kk), .ref h0]) ⟨hx, hb, hml, hown, hts⟩ (s_X5_mostFor l dC dI cs L ka ix ad n0 n6 n2 S f kk H.size hT (by omega)) (va_cwS 1 hts gX4_readNumberOf_X5_mostFor rfl rfl rfl (by decide +kernel) ⟨Nat.le_of_ble_eq_true rfl, Nat.le_of_ble_eq_true rfl⟩) ⟨c_blind, c_pre hPc hKc hDc hN⟩ rfl rfl hl.1 rfl (lv_room (Nat.le_of_ble_eq_true rfl)) dX4_readNumberOf_10 ⟨Nat.le_of_ble_eq_true rfl, Nat.le_of_ble_eq_true rfl⟩) (fun r_9 hr_9 => ?_)
  subst hr_9
  have hPc := hP.part (cx := [(h0, .inr (4, [.ref t1, .ref t2, .ref t3, .int i_ruleCount, .int i_faultKind, .int i_faultPlace, .int (nI e_2), .int y_token_4, .int (nI t9x_3), .int y_value_5]))]) [2] rfl
  have hDc := hD.part (cx := [(h0, .inr (4, [.ref t1, .ref t2, .ref t3, .int i_ruleCount, .int i_faultKind, .int i_faultPlace, .int (nI e_2), .int y_token_4, .int (nI t9x_3), .int y_value_5]))]) [2] (by decide) rfl
  have hKc := hK
  have hFc := va_freeP (cx := [(h0, .inr (4, [.ref t1, .ref t2, .ref t3, .int i_ruleCount, .int i_faultKind, .int i_faultPlace, .int (nI e_2), .int y_token_4, .int (nI t9x_3), .int y_value_5]))]) hD hS hA [2] rfl
  refine va_calli (va_runV (As := [.int (lsK kk), .int (msK kk)]) (rest := []) ⟨hx, hb, hml, hown, hts⟩ (s_X4_isNumberWithin l dC dI cs L ka ix ad n0 n6 n2 S f h0 t1 t2 t3 i_ruleCount i_faultKind i_faultPlace (nI e_2) y_token_4 (nI t9x_3) y_value_5 (lsK kk) (msK kk) H.size hT) (cwV 2 hts gX4_readNumberOf_X4_isNumberWithin rfl rfl rfl (by decide +kernel) ⟨Nat.le_of_ble_eq_true rfl, Nat.le_of_ble_eq_true rfl⟩) ⟨c_blind, va_recv hKc hPc (ci := 4) (q0 := 0) rfl rfl, c_pre hPc hKc hDc hN⟩ rfl rfl hl.1 rfl (lv_room (Nat.le_of_ble_eq_true rfl)) dX4_readNumberOf_13 ⟨Nat.le_of_ble_eq_true rfl, Nat.le_of_ble_eq_true rfl⟩) hS (fun q _ h => hFc q h) hFc (fun r_10 u9 t9 H1 locs ht hvm hw hB hz1 hk1 hS => ?_)
  obtain ⟨fk_11, fp_12, hf_x_13, hP1, hK1, hD1⟩ := hB
  rw [ht] at hP1
  have hK1 := va_K.moved hvm.symm hK1
  obtain ⟨hP, hD⟩ := va_joinP (X := [(t2, .inr (5, [.ref n1])), (n1, .inl (cs 0, 6, .inl a_n)), (h0, .inr (4, [.ref t1, .ref t2, .ref t3, .int i_ruleCount, .int i_faultKind, .int i_faultPlace, .int (nI e_2), .int y_token_4, .int (nI t9x_3), .int y_value_5])), (t1, .inr (7, [.ref u1, .int (nI ln)])), (u1, .inl (cs 0, 200, .inl a_b))]) (cx := [(h0, .inr (4, [.ref t1, .ref t2, .ref t3, .int i_ruleCount, .int i_faultKind, .int i_faultPlace, .int (nI e_2), .int y_token_4, .int (nI t9x_3), .int y_value_5]))]) (wr := [(t2, .inr (5, [.ref n1])), (n1, .inl (cs 0, 6, .inl a_n)), (t1, .inr (7, [.ref u1, .int (nI ln)])), (u1, .inl (cs 0, 200, .inl a_b))]) (rx := [(h0, .inr (4, [.ref t1, .ref t2, .ref t3, .int i_ruleCount, .int fk_11, .int fp_12, .int (nI e_2), .int y_token_4, .int (nI t9x_3), .int y_value_5]))]) (pl := va_pl L f) (pl1 := va_pl L f) hP hD [2] [0, 1, 3, 4] rfl rfl (by decide) (by decide) hk1 hFc hP1 hD1
  generalize H1 = H at hP hS ⊢
  have hP : va_P (dC, dI) vwCl ([(t2, .inr (5, [.ref n1])), (n1, .inl (cs 0, 6, .inl a_n)), (t1, .inr (7, [.ref u1, .int (nI ln)])), (u1, .inl (cs 0, 200, .inl a_b)), (h0, .inr (4, [.ref t1, .ref t2, .ref t3, .int i_ruleCount, .int fk_11, .int fp_12, .int (nI e_2), .int y_token_4, .int (nI t9x_3), .int y_value_5]))] ++ va_pl L f) H := hP
  have hD : va_D A ([(t2, .inr (5, [.ref n1])), (n1, .inl (cs 0, 6, .inl a_n)), (t1, .inr (7, [.ref u1, .int (nI ln)])), (u1, .inl (cs 0, 200, .inl a_b)), (h0, .inr (4, [.ref t1, .ref t2, .ref t3, .int i_ruleCount, .int fk_11, .int fp_12, .int (nI e_2), .int y_token_4, .int (nI t9x_3), .int y_value_5]))] ++ va_pl L f) := hD
  refine W.widen (k := 0) (n := 0) (Nat.le_of_ble_eq_true rfl) (Nat.le_of_ble_eq_true rfl) ?_
  try dsimp only at hw
  subst hw
  refine lv_if_ne (tgt := 21) hx hb dX4_readNumberOf_16 (by decide) (fun c_14 => ?_) (fun c_14 => ?_)
  · refine lv_aload_n hx hb dX4_readNumberOf_21 rfl (lv_at hl 0 rfl) ?_
    refine va_get (D := (dC, dI)) (ci := 4) (v := .ref t2) (C := RX4) (T := TX4) (N := 10) hx hb hts hin4 hown hK hP 4 rfl rfl 1 (by decide) (hts (.fieldLink RX4 12 "YamRiders$StatuteReader" "told" "LYamRiders$Statutes;") (by decide +kernel)) (fun _ h9 => h9) rfl dX4_readNumberOf_22 ?_
    refine lv_iload_n hx hb dX4_readNumberOf_25 rfl (lv_at hl 1 rfl) ?_
    refine lv_aload_n hx hb dX4_readNumberOf_26 rfl (lv_at hl 0 rfl) ?_
    refine va_get (D := (dC, dI)) (ci := 4) (v := .int y_value_5) (C := RX4) (T := TX4) (N := 10) hx hb hts hin4 hown hK hP 4 rfl rfl 9 (by decide) (hts (.fieldLink RX4 52 "YamRiders$StatuteReader" "value" "I") (by decide +kernel)) (fun _ h9 => h9) rfl dX4_readNumberOf_27 ?_
    have hPc := hP.part (cx := [(t2, .inr (5, [.ref n1])), (n1, .inl (cs 0, 6, .inl a_n))]) [0, 1] rfl
    have hDc := hD.part (cx := [(t2, .inr (5, [.ref n1])), (n1, .inl (cs 0, 6, .inl a_n))]) [0, 1] (by decide) rfl
    have hKc := hK
    have hFc := va_freeP (cx := [(t2, .inr (5, [.ref n1])), (n1, .inl (cs 0, 6, .inl a_n))]) hD hS hA [0, 1] rfl
    refine va_callv (va_runV (As := [.int (nI kk), .int y_value_5]) (rest := []) ⟨hx, hb, hml, hown, hts⟩ (s_X5_tell l dC dI cs L ka ix ad n0 n6 n2 S f t2 n1 a_n kk y_value_5 H.size hT (by omega)) (cwV 2 hts gX4_readNumberOf_X5_tell rfl rfl rfl (by decide +kernel) ⟨Nat.le_of_ble_eq_true rfl, Nat.le_of_ble_eq_true rfl⟩) ⟨c_blind, va_recv hKc hPc (ci := 5) (q0 := 0) rfl rfl, c_pre hPc hKc hDc hN⟩ rfl rfl hl.1 rfl (lv_room (Nat.le_of_ble_eq_true rfl)) dX4_readNumberOf_30 ⟨Nat.le_of_ble_eq_true rfl, Nat.le_of_ble_eq_true rfl⟩) hS (fun q _ h => hFc q h) hFc (fun u9 t9 H1 locs ht hvm hw hB hz1 hk1 hS => ?_)
    obtain ⟨f_n_16, hf_x_17, hP1, hK1, hD1⟩ := hB
    rw [ht] at hP1
    have hK1 := va_K.moved hvm.symm hK1
    obtain ⟨hP, hD⟩ := va_joinP (X := [(t2, .inr (5, [.ref n1])), (n1, .inl (cs 0, 6, .inl a_n)), (t1, .inr (7, [.ref u1, .int (nI ln)])), (u1, .inl (cs 0, 200, .inl a_b)), (h0, .inr (4, [.ref t1, .ref t2, .ref t3, .int i_ruleCount, .int fk_11, .int fp_12, .int (nI e_2), .int y_token_4, .int (nI t9x_3), .int y_value_5]))]) (cx := [(t2, .inr (5, [.ref n1])), (n1, .inl (cs 0, 6, .inl a_n))]) (wr := [(t1, .inr (7, [.ref u1, .int (nI ln)])), (u1, .inl (cs 0, 200, .inl a_b)), (h0, .inr (4, [.ref t1, .ref t2, .ref t3, .int i_ruleCount, .int fk_11, .int fp_12, .int (nI e_2), .int y_token_4, .int (nI t9x_3), .int y_value_5]))]) (rx := [(t2, .inr (5, [.ref n1])), (n1, .inl (cs 0, 6, .inl f_n_16))]) (pl := va_pl L f) (pl1 := va_pl L f) hP hD [0, 1] [2, 3, 4] rfl rfl (by decide) (by decide) hk1 hFc hP1 hD1
    generalize H1 = H at hP hS ⊢
    have hP : va_P (dC, dI) vwCl ([(t1, .inr (7, [.ref u1, .int (nI ln)])), (u1, .inl (cs 0, 200, .inl a_b)), (h0, .inr (4, [.ref t1, .ref t2, .ref t3, .int i_ruleCount, .int fk_11, .int fp_12, .int (nI e_2), .int y_token_4, .int (nI t9x_3), .int y_value_5])), (t2, .inr (5, [.ref n1])), (n1, .inl (cs 0, 6, .inl f_n_16))] ++ va_pl L f) H := hP
    have hD : va_D A ([(t1, .inr (7, [.ref u1, .int (nI ln)])), (u1, .inl (cs 0, 200, .inl a_b)), (h0, .inr (4, [.ref t1, .ref t2, .ref t3, .int i_ruleCount, .int fk_11, .int fp_12, .int (nI e_2), .int y_token_4, .int (nI t9x_3), .int y_value_5])), (t2, .inr (5, [.ref n1])), (n1, .inl (cs 0, 6, .inl f_n_16))] ++ va_pl L f) := hD
    refine W.widen (k := 0) (n := 0) (Nat.le_of_ble_eq_true rfl) (Nat.le_of_ble_eq_true rfl) ?_
    refine lv_iconst (v := 1) hx hb dX4_readNumberOf_33 (by decide) ?_
    have hP9 := hP.part (cx := [(h0, .inr (4, [.ref t1, .ref t2, .ref t3, .int i_ruleCount, .int fk_11, .int fp_12, .int (nI e_2), .int y_token_4, .int (nI t9x_3), .int y_value_5])), (t1, .inr (7, [.ref u1, .int (nI ln)])), (u1, .inl (cs 0, 200, .inl a_b)), (t2, .inr (5, [.ref n1])), (n1, .inl (cs 0, 6, .inl f_n_16))]) [2, 0, 1, 3, 4] rfl
    have hD9 := hD.part (cx := [(h0, .inr (4, [.ref t1, .ref t2, .ref t3, .int i_ruleCount, .int fk_11, .int fp_12, .int (nI e_2), .int y_token_4, .int (nI t9x_3), .int y_value_5])), (t1, .inr (7, [.ref u1, .int (nI ln)])), (u1, .inl (cs 0, 200, .inl a_b)), (t2, .inr (5, [.ref n1])), (n1, .inl (cs 0, 6, .inl f_n_16))]) [2, 0, 1, 3, 4] (by decide) rfl
    have hK9 := hK.sub (tys' := []) [] rfl
    refine W.widen (k := 0) (n := 0) (Nat.le_of_ble_eq_true rfl) (Nat.le_of_ble_eq_true rfl) ?_
    exact W.zret (v := 1) hx hb hr rfl (fun t9 ht hW => ⟨⟨_, 1, rfl, rfl, e_2, t9x_3, y_token_4, y_value_5, fk_11, fp_12, f_n_16, ⟨by omega, by omega⟩, (Or.inl ⟨rfl, (NW_y hf_x_13 c_14).2.2.2, _, _, hf_x_7, (NW_y hf_x_13 c_14).1, rK_e.mpr ⟨(NW_y hf_x_13 c_14).2.1, (NW_y hf_x_13 c_14).2.2.1⟩, hf_x_17⟩), by rw [ht]; exact hP9, va_K.moved hW.alike hK9, hD9⟩, hS.F ht⟩) hS.2.2 dX4_readNumberOf_34
  · refine lv_iconst (v := 0) hx hb dX4_readNumberOf_19 (by decide) ?_
    have hP9 := hP.part (cx := [(h0, .inr (4, [.ref t1, .ref t2, .ref t3, .int i_ruleCount, .int fk_11, .int fp_12, .int (nI e_2), .int y_token_4, .int (nI t9x_3), .int y_value_5])), (t1, .inr (7, [.ref u1, .int (nI ln)])), (u1, .inl (cs 0, 200, .inl a_b)), (t2, .inr (5, [.ref n1])), (n1, .inl (cs 0, 6, .inl a_n))]) [4, 2, 3, 0, 1] rfl
    have hD9 := hD.part (cx := [(h0, .inr (4, [.ref t1, .ref t2, .ref t3, .int i_ruleCount, .int fk_11, .int fp_12, .int (nI e_2), .int y_token_4, .int (nI t9x_3), .int y_value_5])), (t1, .inr (7, [.ref u1, .int (nI ln)])), (u1, .inl (cs 0, 200, .inl a_b)), (t2, .inr (5, [.ref n1])), (n1, .inl (cs 0, 6, .inl a_n))]) [4, 2, 3, 0, 1] (by decide) rfl
    have hK9 := hK.sub (tys' := []) [] rfl
    refine W.widen (k := 0) (n := 0) (Nat.le_of_ble_eq_true rfl) (Nat.le_of_ble_eq_true rfl) ?_
    exact W.zret (v := 0) hx hb hr rfl (fun t9 ht hW => ⟨⟨_, 0, rfl, rfl, e_2, t9x_3, y_token_4, y_value_5, fk_11, fp_12, a_n, ⟨by omega, by omega⟩, (Or.inr ⟨rfl, (NW_n hf_x_13 c_14).2, _, _, _, _, hf_x_7, fun w => (NW_n hf_x_13 c_14).1 ⟨w.1, rK_e.mp w.2⟩⟩), by rw [ht]; exact hP9, va_K.moved hW.alike hK9, hD9⟩, hS.F ht⟩) hS.2.2 dX4_readNumberOf_20

set_option maxHeartbeats 4000000 in
set_option maxRecDepth 100000 in
theorem s_X4_isWord (l : Launch) (dC : Nat → ClassId) (dI : Nat → Nat → Nat) (cs : Nat → ClassId) (L : List Nat) (ka : Nat → Nat) (ix : Nat → Nat) (ad : Nat → Nat → Nat) (n0 : Nat) (n6 : Nat) (n2 : Nat) (S : Nat → Nat → Nat → Int32) (f : Nat → va_E) (adK : Nat → Nat) (adV : Nat → Nat) (h0 : Nat) (t1 : Nat) (t2 : Nat) (t3 : Nat) (i_ruleCount : Int32) (i_faultKind : Int32) (i_faultPlace : Int32) (i_token : Int32) (i_value : Int32) (u1 : Nat) (ln : Nat) (a_b : Nat → Int32) (e8 : Nat) (t8 : Nat) (si : Nat) (sn : Nat) (sz : Nat) (hT : tB L ka ix ad cs n0 n6 n2 S f) (hln : ln ≤ 200) (hte : t8 ≤ e8 ∧ e8 ≤ ln) (hsi : si < 4) (hsn : lenS.getD si 0 = sn) (hsn6 : sn ≤ 6) : Met l yX4_isWord wsX4_isWord ({ frames := 4, cells := 0, slots := 0, locals := 91 }) (va_Pc [.ref h0, .ref (adK si)] (fun U => cP dC dI ([(h0, .inr (4, [.ref t1, .ref t2, .ref t3, .int i_ruleCount, .int i_faultKind, .int i_faultPlace, .int (nI e8), .int i_token, .int (nI t8), .int i_value])), (t1, .inr (7, [.ref u1, .int (nI ln)])), (u1, .inl (cs 0, 200, .inl a_b))] ++ va_pl L f) (tyC cs) sz U ∧ EV adK adV (va_A ([(h0, .inr (4, [.ref t1, .ref t2, .ref t3, .int i_ruleCount, .int i_faultKind, .int i_faultPlace, .int (nI e8), .int i_token, .int (nI t8), .int i_value])), (t1, .inr (7, [.ref u1, .int (nI ln)])), (u1, .inl (cs 0, 200, .inl a_b))] ++ va_pl L f) sz) U U.heap ∧ SR adK U)) (vp_Si (fun r => yn (WDc (PBy a_b ln) t8 e8 i_token si) r)) 0 0 (fun _ => False) := by
  refine Met.ofW (cc := cX4_isWord) (maxL := 3) (ret := (some .boolean)) (by decide) rfl ?_
  intro p e s m args below meth c s₁ B hml hv
  obtain ⟨rfl, ⟨hsz, hP, hK, hD0, hN⟩, hE, hR⟩ := hv
  have hx := B.exec
  have hb := B.bytes
  have hr := B.returns
  have hts := atoms_spec (ws := wsX4_isWord) B.pre
  have hown : s.vm.findClass RX4 = some m.cls := findClass_of_methodNamed B.named
  have hlocks := B.notSynchronized
  subst hsz
  have hin4 : ∀ w ∈ u_ws RX4 TX4 10, w ∈ wsX4_isWord := by decide +kernel
  have hD := hD0
  have hDE : va_D (va_A ([(h0, .inr (4, [.ref t1, .ref t2, .ref t3, .int i_ruleCount, .int i_faultKind, .int i_faultPlace, .int (nI e8), .int i_token, .int (nI t8), .int i_value])), (t1, .inr (7, [.ref u1, .int (nI ln)])), (u1, .inl (cs 0, 200, .inl a_b))] ++ va_pl L f) s.heap.size) ([(h0, .inr (4, [.ref t1, .ref t2, .ref t3, .int i_ruleCount, .int i_faultKind, .int i_faultPlace, .int (nI e8), .int i_token, .int (nI t8), .int i_value])), (t1, .inr (7, [.ref u1, .int (nI ln)])), (u1, .inl (cs 0, 200, .inl a_b))] ++ va_pl L f) := hD0.self
  have hSE : va_S (va_A ([(h0, .inr (4, [.ref t1, .ref t2, .ref t3, .int i_ruleCount, .int i_faultKind, .int i_faultPlace, .int (nI e8), .int i_token, .int (nI t8), .int i_value])), (t1, .inr (7, [.ref u1, .int (nI ln)])), (u1, .inl (cs 0, 200, .inl a_b))] ++ va_pl L f) s.heap.size) s.heap s.heap [] := va_S.rf
  have hAE : ∀ q : Nat, s.heap.size ≤ q → va_A ([(h0, .inr (4, [.ref t1, .ref t2, .ref t3, .int i_ruleCount, .int i_faultKind, .int i_faultPlace, .int (nI e8), .int i_token, .int (nI t8), .int i_value])), (t1, .inr (7, [.ref u1, .int (nI ln)])), (u1, .inl (cs 0, 200, .inl a_b))] ++ va_pl L f) s.heap.size q := fun q h => Or.inr h
  have hP : va_P (dC, dI) vwCl ([(h0, .inr (4, [.ref t1, .ref t2, .ref t3, .int i_ruleCount, .int i_faultKind, .int i_faultPlace, .int (nI e8), .int i_token, .int (nI t8), .int i_value])), (t1, .inr (7, [.ref u1, .int (nI ln)])), (u1, .inl (cs 0, 200, .inl a_b))] ++ va_pl L f) s.heap := hP
  have hl := lv_entry ([.ref h0, .ref (adK si)]) (n := 3) (Nat.le_of_ble_eq_true rfl)
  rw [lg_entry_eq]
  generalize (lg_sl ([.ref h0, .ref (adK si)]) ++ List.replicate (3 - (lg_sl ([.ref h0, .ref (adK si)])).length) Slot.unset).toArray = ls at hl ⊢
  have hl : lv_has ls 3 [(0, .ref h0), (1, .ref (adK si))] := hl
  refine lv_aload_n hx hb dX4_isWord_0 rfl (lv_at hl 0 rfl) ?_
  refine va_get (D := (dC, dI)) (ci := 4) (v := .int i_token) (C := RX4) (T := TX4) (N := 10) hx hb hts hin4 hown hK hP 0 rfl rfl 7 (by decide) (hts (.fieldLink RX4 29 "YamRiders$StatuteReader" "token" "I") (by decide +kernel)) (fun _ h9 => h9) rfl dX4_isWord_1 ?_
  refine lv_iconst (v := 1) hx hb dX4_isWord_4 (by decide) ?_
  refine lv_icmp_ne (tgt := 24) hx hb dX4_isWord_5 (by decide) (fun c_1 => ?_) (fun c_1 => ?_)
  · refine lv_iconst (v := 0) hx hb dX4_isWord_24 (by decide) ?_
    exact W.zret (v := 0) hx hb hr rfl (fun t9 ht hW => ⟨_, rfl, (yn_0 (fun w => c_1 w.2.1)), ht⟩) (fun q h => nomatch h) dX4_isWord_25
  · refine lv_aload_n hx hb dX4_isWord_8 rfl (lv_at hl 0 rfl) ?_
    refine va_get (D := (dC, dI)) (ci := 4) (v := .int (nI e8)) (C := RX4) (T := TX4) (N := 10) hx hb hts hin4 hown hK hP 0 rfl rfl 6 (by decide) (hts (.fieldLink RX4 96 "YamRiders$StatuteReader" "place" "I") (by decide +kernel)) (fun _ h9 => h9) rfl dX4_isWord_9 ?_
    refine lv_aload_n hx hb dX4_isWord_12 rfl (lv_at hl 0 rfl) ?_
    refine va_get (D := (dC, dI)) (ci := 4) (v := .int (nI t8)) (C := RX4) (T := TX4) (N := 10) hx hb hts hin4 hown hK hP 0 rfl rfl 8 (by decide) (hts (.fieldLink RX4 90 "YamRiders$StatuteReader" "tokenPlace" "I") (by decide +kernel)) (fun _ h9 => h9) rfl dX4_isWord_13 ?_
    refine lv_isub hx hb dX4_isWord_16 ?_
    refine lv_topi (fun y_2 ey_2 => ?_)
    obtain rfl : y_2 = nI (e8 - t8) := ey_2.trans (nI_sb (by omega))
    refine lv_aload_n hx hb dX4_isWord_17 rfl (lv_at hl 1 rfl) ?_
    refine cs_i (va_runV (As := []) (rest := [.int (nI (e8 - t8))]) ⟨hx, hb, hml, hown, hts⟩ (j_length l adK adV si s.heap.size hsi) (cwV 0 hts gX4_isWord_J0_length_8abf5 rfl rfl rfl (by decide +kernel) ⟨Nat.le_of_ble_eq_true rfl, Nat.le_of_ble_eq_true rfl⟩) ⟨j_blind, vk_recv hE.1 hsi hSE, j_pre (hE.narrow (fun q h => Or.inr h))⟩ rfl rfl hl.1 rfl (lv_room (Nat.le_of_ble_eq_true rfl)) dX4_isWord_18 ⟨Nat.le_of_ble_eq_true rfl, Nat.le_of_ble_eq_true rfl⟩) (fun y_3 hy_3 => ?_)
    rw [hsn] at hy_3
    obtain rfl : y_3 = nI sn := hy_3
    refine lv_icmp_eq (tgt := 26) hx hb dX4_isWord_21 (by decide) (fun c_4 => ?_) (fun c_4 => ?_)
    · refine lv_iconst (v := 0) hx hb dX4_isWord_26 (by decide) ?_
      refine lv_istore_n (lv' := [(2, .int 0), (0, .ref h0), (1, .ref (adK si))]) hx hb dX4_isWord_27 rfl hl (by decide) rfl (fun ls hl => ?_)
      have HL : ∀ (n k : Nat), k ≤ sn → sn + 1 ≤ k + n → (∀ j, j < k → PBy a_b ln (t8 + j) = ltr si j) → ∀ ls : Array Slot, lv_has ls 3 [(0, .ref h0), (1, .ref (adK si)), (2, .int (nI k))] → W p l e (headSpec wsX4_isWord ({ frames := 4, cells := 0, slots := 0, locals := 91 })).room s m ([.ref h0, .ref (adK si)]).toArray below meth c s.heap [] 0 0 (MQ below (vp_Si (fun r => yn (WDc (PBy a_b ln) t8 e8 i_token si) r)) ([.ref h0, .ref (adK si)]).toArray s 0 0 (fun _ => False)) (F0 m 28 ls []) := by
        intro n
        induction n with
        | zero => intro k h1 h2; exact absurd h2 (by omega)
        | succ n ih =>
          intro k hk hn hWJ ls hl
          refine lv_iload_n hx hb dX4_isWord_28 rfl (lv_at hl 2 rfl) ?_
          refine lv_aload_n hx hb dX4_isWord_29 rfl (lv_at hl 1 rfl) ?_
          refine cs_i (va_runV (As := []) (rest := [.int (nI k)]) ⟨hx, hb, hml, hown, hts⟩ (j_length l adK adV si s.heap.size hsi) (cwV 0 hts gX4_isWord_J0_length_8abf5 rfl rfl rfl (by decide +kernel) ⟨Nat.le_of_ble_eq_true rfl, Nat.le_of_ble_eq_true rfl⟩) ⟨j_blind, vk_recv hE.1 hsi hSE, j_pre (hE.narrow (fun q h => Or.inr h))⟩ rfl rfl hl.1 rfl (lv_room (Nat.le_of_ble_eq_true rfl)) dX4_isWord_30 ⟨Nat.le_of_ble_eq_true rfl, Nat.le_of_ble_eq_true rfl⟩) (fun y_5 hy_5 => ?_)
          rw [hsn] at hy_5
          obtain rfl : y_5 = nI sn := hy_5
          refine lv_icmp_ge (tgt := 65) hx hb dX4_isWord_33 (by decide) (fun c_6 => ?_) (fun c_6 => ?_)
          · have hke : k = sn := by
              have h9 := (nI_leI (by omega) (by omega)).mp c_6
              omega
            refine lv_iconst (v := 1) hx hb dX4_isWord_65 (by decide) ?_
            exact W.zret (v := 1) hx hb hr rfl (fun t9 ht hW => ⟨_, rfl, (yn_1 ⟨hsi, c_1, by rw [← LW_len si hsi, hsn]; have h9 := nI_inJ c_4 (by omega) (by omega); omega, fun j hj => hWJ j (by rw [← LW_len si hsi, hsn] at hj; omega)⟩), ht⟩) (fun q h => nomatch h) dX4_isWord_66
          · have hlt : k < sn := Decidable.byContradiction fun q => c_6 (nI_le (by omega) (by omega))
            refine lv_aload_n hx hb dX4_isWord_36 rfl (lv_at hl 0 rfl) ?_
            refine va_get (D := (dC, dI)) (ci := 4) (v := .ref t1) (C := RX4) (T := TX4) (N := 10) hx hb hts hin4 hown hK hP 0 rfl rfl 0 (by decide) (hts (.fieldLink RX4 22 "YamRiders$StatuteReader" "tape" "LYamRiders$Tape;") (by decide +kernel)) (fun _ h9 => h9) rfl dX4_isWord_37 ?_
            refine lv_aload_n hx hb dX4_isWord_40 rfl (lv_at hl 0 rfl) ?_
            refine va_get (D := (dC, dI)) (ci := 4) (v := .int (nI t8)) (C := RX4) (T := TX4) (N := 10) hx hb hts hin4 hown hK hP 0 rfl rfl 8 (by decide) (hts (.fieldLink RX4 90 "YamRiders$StatuteReader" "tokenPlace" "I") (by decide +kernel)) (fun _ h9 => h9) rfl dX4_isWord_41 ?_
            refine lv_iload_n hx hb dX4_isWord_44 rfl (lv_at hl 2 rfl) ?_
            refine lv_iadd hx hb dX4_isWord_45 ?_
            refine lv_topi (fun y_7 ey_7 => ?_)
            obtain rfl : y_7 = nI (t8 + k) := ey_7.trans (nI_add t8 k)
            have hPc := hP.sub (ws' := [(t1, .inr (7, [.ref u1, .int (nI ln)])), (u1, .inl (cs 0, 200, .inl a_b))]) [1, 2] rfl
            have hDc := hD.sub (ws' := [(t1, .inr (7, [.ref u1, .int (nI ln)])), (u1, .inl (cs 0, 200, .inl a_b))]) [1, 2] (by decide) rfl
            have hKc := hK.sub (tys' := [(cs 0, .int)]) [0] rfl
            refine cs_i (va_runV (As := [.int (nI (t8 + k))]) (rest := []) ⟨hx, hb, hml, hown, hts⟩ (s_X7_byteAt l dC dI t1 u1 (cs 0) a_b ln (t8 + k) s.heap.size (by omega) (by omega)) (cwV 1 hts gX4_isWord_X7_byteAt rfl rfl rfl (by decide +kernel) ⟨Nat.le_of_ble_eq_true rfl, Nat.le_of_ble_eq_true rfl⟩) ⟨c_blind, va_recv hKc hPc (ci := 7) (q0 := 0) rfl rfl, c_pre hPc hKc hDc hN⟩ rfl rfl hl.1 rfl (lv_room (Nat.le_of_ble_eq_true rfl)) dX4_isWord_46 ⟨Nat.le_of_ble_eq_true rfl, Nat.le_of_ble_eq_true rfl⟩) (fun r_8 hr_8 => ?_)
            subst hr_8
            refine lv_aload_n hx hb dX4_isWord_49 rfl (lv_at hl 1 rfl) ?_
            refine lv_iload_n hx hb dX4_isWord_50 rfl (lv_at hl 2 rfl) ?_
            refine cs_i (va_runV (As := [.int (nI k)]) (rest := [.int (PBy a_b ln (t8 + k))]) ⟨hx, hb, hml, hown, hts⟩ (jx_charAt l adK adV si k s.heap.size hsi (by rw [hsn]; omega)) (cwV 1 hts gX4_isWord_J0_charAt_5068e rfl rfl rfl (by decide +kernel) ⟨Nat.le_of_ble_eq_true rfl, Nat.le_of_ble_eq_true rfl⟩) ⟨j_blind, vk_recv hE.1 hsi hSE, j_pre (hE.narrow (fun q h => Or.inr h))⟩ rfl rfl hl.1 rfl (lv_room (Nat.le_of_ble_eq_true rfl)) dX4_isWord_51 ⟨Nat.le_of_ble_eq_true rfl, Nat.le_of_ble_eq_true rfl⟩) (fun y_9 hy_9 => ?_)
            obtain rfl : y_9 = ltr si k := hy_9.1
            refine lv_icmp_eq (tgt := 59) hx hb dX4_isWord_54 (by decide) (fun c_10 => ?_) (fun c_10 => ?_)
            · refine lv_iinc (v := nI (k + 1)) (lv' := [(2, .int (nI (k + 1))), (0, .ref h0), (1, .ref (adK si))]) hx hb dX4_isWord_59 hl (k := 2) rfl (by exact (nI_1 k)) (by decide) rfl (fun ls hl => ?_)
              refine lv_goto (tgt := 28) hx hb dX4_isWord_62 (by decide) ?_
              exact ih (k + 1) (by omega) (by omega) (fun j hj => if z : j = k then (by rw [z]; exact c_10) else hWJ j (by omega)) ls (lv_sub hl [1, 2, 0] rfl)
            · refine lv_iconst (v := 0) hx hb dX4_isWord_57 (by decide) ?_
              exact W.zret (v := 0) hx hb hr rfl (fun t9 ht hW => ⟨_, rfl, (yn_0 (fun w => c_10 (w.2.2.2 k (by rw [← LW_len si hsi, hsn]; omega)))), ht⟩) (fun q h => nomatch h) dX4_isWord_58
      exact HL (sn + 1) 0 (by omega) (by omega) (fun _ w => absurd w (Nat.not_lt_zero _)) ls (lv_sub hl [1, 2, 0] rfl)
    · refine lv_iconst (v := 0) hx hb dX4_isWord_24 (by decide) ?_
      exact W.zret (v := 0) hx hb hr rfl (fun t9 ht hW => ⟨_, rfl, (yn_0 (fun w => c_4 (by have h9 := w.2.2.1; rw [← LW_len si hsi, hsn] at h9; rw [show e8 - t8 = sn from by omega]))), ht⟩) (fun q h => nomatch h) dX4_isWord_25

set_option maxHeartbeats 4000000 in
set_option maxRecDepth 100000 in
theorem s_X4_ruleOfWord (l : Launch) (dC : Nat → ClassId) (dI : Nat → Nat → Nat) (cs : Nat → ClassId) (L : List Nat) (ka : Nat → Nat) (ix : Nat → Nat) (ad : Nat → Nat → Nat) (n0 : Nat) (n6 : Nat) (n2 : Nat) (S : Nat → Nat → Nat → Int32) (f : Nat → va_E) (adK : Nat → Nat) (adV : Nat → Nat) (h0 : Nat) (t1 : Nat) (t2 : Nat) (t3 : Nat) (i_ruleCount : Int32) (i_faultKind : Int32) (i_faultPlace : Int32) (i_token : Int32) (i_value : Int32) (u1 : Nat) (ln : Nat) (a_b : Nat → Int32) (e8 : Nat) (t8 : Nat) (sz : Nat) (hT : tB L ka ix ad cs n0 n6 n2 S f) (hln : ln ≤ 200) (hte : t8 ≤ e8 ∧ e8 ≤ ln) : Met l yX4_ruleOfWord wsX4_ruleOfWord ({ frames := 5, cells := 0, slots := 0, locals := 113 }) (va_Pc [.ref h0] (fun U => cP dC dI ([(h0, .inr (4, [.ref t1, .ref t2, .ref t3, .int i_ruleCount, .int i_faultKind, .int i_faultPlace, .int (nI e8), .int i_token, .int (nI t8), .int i_value])), (t1, .inr (7, [.ref u1, .int (nI ln)])), (u1, .inl (cs 0, 200, .inl a_b))] ++ va_pl L f) (tyC cs) sz U ∧ EV adK adV (va_A ([(h0, .inr (4, [.ref t1, .ref t2, .ref t3, .int i_ruleCount, .int i_faultKind, .int i_faultPlace, .int (nI e8), .int i_token, .int (nI t8), .int i_value])), (t1, .inr (7, [.ref u1, .int (nI ln)])), (u1, .inl (cs 0, 200, .inl a_b))] ++ va_pl L f) sz) U U.heap ∧ SR adK U)) (vp_Si (fun r => WRf (PBy a_b ln) t8 e8 i_token r)) 0 0 (fun _ => False) := by
  refine Met.ofW (cc := cX4_ruleOfWord) (maxL := 1) (ret := (some .int)) (by decide) rfl ?_
  intro p e s m args below meth c s₁ B hml hv
  obtain ⟨rfl, ⟨hsz, hP, hK, hD0, hN⟩, hE, hR⟩ := hv
  have hx := B.exec
  have hb := B.bytes
  have hr := B.returns
  have hts := atoms_spec (ws := wsX4_ruleOfWord) B.pre
  have hown : s.vm.findClass RX4 = some m.cls := findClass_of_methodNamed B.named
  have hlocks := B.notSynchronized
  subst hsz
  have hD := hD0
  have hDE : va_D (va_A ([(h0, .inr (4, [.ref t1, .ref t2, .ref t3, .int i_ruleCount, .int i_faultKind, .int i_faultPlace, .int (nI e8), .int i_token, .int (nI t8), .int i_value])), (t1, .inr (7, [.ref u1, .int (nI ln)])), (u1, .inl (cs 0, 200, .inl a_b))] ++ va_pl L f) s.heap.size) ([(h0, .inr (4, [.ref t1, .ref t2, .ref t3, .int i_ruleCount, .int i_faultKind, .int i_faultPlace, .int (nI e8), .int i_token, .int (nI t8), .int i_value])), (t1, .inr (7, [.ref u1, .int (nI ln)])), (u1, .inl (cs 0, 200, .inl a_b))] ++ va_pl L f) := hD0.self
  have hSE : va_S (va_A ([(h0, .inr (4, [.ref t1, .ref t2, .ref t3, .int i_ruleCount, .int i_faultKind, .int i_faultPlace, .int (nI e8), .int i_token, .int (nI t8), .int i_value])), (t1, .inr (7, [.ref u1, .int (nI ln)])), (u1, .inl (cs 0, 200, .inl a_b))] ++ va_pl L f) s.heap.size) s.heap s.heap [] := va_S.rf
  have hAE : ∀ q : Nat, s.heap.size ≤ q → va_A ([(h0, .inr (4, [.ref t1, .ref t2, .ref t3, .int i_ruleCount, .int i_faultKind, .int i_faultPlace, .int (nI e8), .int i_token, .int (nI t8), .int i_value])), (t1, .inr (7, [.ref u1, .int (nI ln)])), (u1, .inl (cs 0, 200, .inl a_b))] ++ va_pl L f) s.heap.size q := fun q h => Or.inr h
  have hP : va_P (dC, dI) vwCl ([(h0, .inr (4, [.ref t1, .ref t2, .ref t3, .int i_ruleCount, .int i_faultKind, .int i_faultPlace, .int (nI e8), .int i_token, .int (nI t8), .int i_value])), (t1, .inr (7, [.ref u1, .int (nI ln)])), (u1, .inl (cs 0, 200, .inl a_b))] ++ va_pl L f) s.heap := hP
  have hl := lv_entry ([.ref h0]) (n := 1) (Nat.le_of_ble_eq_true rfl)
  rw [lg_entry_eq]
  generalize (lg_sl ([.ref h0]) ++ List.replicate (1 - (lg_sl ([.ref h0])).length) Slot.unset).toArray = ls at hl ⊢
  have hl : lv_has ls 1 [(0, .ref h0)] := hl
  refine lv_aload_n hx hb dX4_ruleOfWord_0 rfl (lv_at hl 0 rfl) ?_
  refine va_ldcS hx hb hown hR.1 dX4_ruleOfWord_1 ?_
  have hPc := hP.part (cx := [(h0, .inr (4, [.ref t1, .ref t2, .ref t3, .int i_ruleCount, .int i_faultKind, .int i_faultPlace, .int (nI e8), .int i_token, .int (nI t8), .int i_value])), (t1, .inr (7, [.ref u1, .int (nI ln)])), (u1, .inl (cs 0, 200, .inl a_b))]) [0, 1, 2] rfl
  have hDc := hD.part (cx := [(h0, .inr (4, [.ref t1, .ref t2, .ref t3, .int i_ruleCount, .int i_faultKind, .int i_faultPlace, .int (nI e8), .int i_token, .int (nI t8), .int i_value])), (t1, .inr (7, [.ref u1, .int (nI ln)])), (u1, .inl (cs 0, 200, .inl a_b))]) [0, 1, 2] (by decide) rfl
  have hKc := hK
  have hFc := va_freeP (cx := [(h0, .inr (4, [.ref t1, .ref t2, .ref t3, .int i_ruleCount, .int i_faultKind, .int i_faultPlace, .int (nI e8), .int i_token, .int (nI t8), .int i_value])), (t1, .inr (7, [.ref u1, .int (nI ln)])), (u1, .inl (cs 0, 200, .inl a_b))]) hDE hSE hAE [0, 1, 2] rfl
  refine cs_i (va_runV (As := [.ref (adK 0)]) (rest := []) ⟨hx, hb, hml, hown, hts⟩ (s_X4_isWord l dC dI cs L ka ix ad n0 n6 n2 S f adK adV h0 t1 t2 t3 i_ruleCount i_faultKind i_faultPlace i_token i_value u1 ln a_b e8 t8 0 4 s.heap.size hT (by omega) ⟨by omega, by omega⟩ (by decide) (by rfl) (by decide)) (cwV 1 hts gX4_ruleOfWord_X4_isWord rfl rfl rfl (by decide +kernel) ⟨Nat.le_of_ble_eq_true rfl, Nat.le_of_ble_eq_true rfl⟩) ⟨e_blind, va_recv hKc hPc (ci := 4) (q0 := 0) rfl rfl, e_pre hPc hKc hDc hN hE hFc hR⟩ rfl rfl hl.1 rfl (lv_room (Nat.le_of_ble_eq_true rfl)) dX4_ruleOfWord_3 ⟨Nat.le_of_ble_eq_true rfl, Nat.le_of_ble_eq_true rfl⟩) (fun r_1 hr_1 => ?_)
  refine lv_if_eq (tgt := 11) hx hb dX4_ruleOfWord_6 (by decide) (fun c_2 => ?_) (fun c_2 => ?_)
  · refine lv_aload_n hx hb dX4_ruleOfWord_11 rfl (lv_at hl 0 rfl) ?_
    refine va_ldcS hx hb hown hR.2.1 dX4_ruleOfWord_12 ?_
    have hPc := hP.part (cx := [(h0, .inr (4, [.ref t1, .ref t2, .ref t3, .int i_ruleCount, .int i_faultKind, .int i_faultPlace, .int (nI e8), .int i_token, .int (nI t8), .int i_value])), (t1, .inr (7, [.ref u1, .int (nI ln)])), (u1, .inl (cs 0, 200, .inl a_b))]) [0, 1, 2] rfl
    have hDc := hD.part (cx := [(h0, .inr (4, [.ref t1, .ref t2, .ref t3, .int i_ruleCount, .int i_faultKind, .int i_faultPlace, .int (nI e8), .int i_token, .int (nI t8), .int i_value])), (t1, .inr (7, [.ref u1, .int (nI ln)])), (u1, .inl (cs 0, 200, .inl a_b))]) [0, 1, 2] (by decide) rfl
    have hKc := hK
    have hFc := va_freeP (cx := [(h0, .inr (4, [.ref t1, .ref t2, .ref t3, .int i_ruleCount, .int i_faultKind, .int i_faultPlace, .int (nI e8), .int i_token, .int (nI t8), .int i_value])), (t1, .inr (7, [.ref u1, .int (nI ln)])), (u1, .inl (cs 0, 200, .inl a_b))]) hDE hSE hAE [0, 1, 2] rfl
    refine cs_i (va_runV (As := [.ref (adK 1)]) (rest := []) ⟨hx, hb, hml, hown, hts⟩ (s_X4_isWord l dC dI cs L ka ix ad n0 n6 n2 S f adK adV h0 t1 t2 t3 i_ruleCount i_faultKind i_faultPlace i_token i_value u1 ln a_b e8 t8 1 4 s.heap.size hT (by omega) ⟨by omega, by omega⟩ (by decide) (by rfl) (by decide)) (cwV 1 hts gX4_ruleOfWord_X4_isWord rfl rfl rfl (by decide +kernel) ⟨Nat.le_of_ble_eq_true rfl, Nat.le_of_ble_eq_true rfl⟩) ⟨e_blind, va_recv hKc hPc (ci := 4) (q0 := 0) rfl rfl, e_pre hPc hKc hDc hN hE hFc hR⟩ rfl rfl hl.1 rfl (lv_room (Nat.le_of_ble_eq_true rfl)) dX4_ruleOfWord_14 ⟨Nat.le_of_ble_eq_true rfl, Nat.le_of_ble_eq_true rfl⟩) (fun r_3 hr_3 => ?_)
    refine lv_if_eq (tgt := 22) hx hb dX4_ruleOfWord_17 (by decide) (fun c_4 => ?_) (fun c_4 => ?_)
    · refine lv_aload_n hx hb dX4_ruleOfWord_22 rfl (lv_at hl 0 rfl) ?_
      refine va_ldcS hx hb hown hR.2.2.1 dX4_ruleOfWord_23 ?_
      have hPc := hP.part (cx := [(h0, .inr (4, [.ref t1, .ref t2, .ref t3, .int i_ruleCount, .int i_faultKind, .int i_faultPlace, .int (nI e8), .int i_token, .int (nI t8), .int i_value])), (t1, .inr (7, [.ref u1, .int (nI ln)])), (u1, .inl (cs 0, 200, .inl a_b))]) [0, 1, 2] rfl
      have hDc := hD.part (cx := [(h0, .inr (4, [.ref t1, .ref t2, .ref t3, .int i_ruleCount, .int i_faultKind, .int i_faultPlace, .int (nI e8), .int i_token, .int (nI t8), .int i_value])), (t1, .inr (7, [.ref u1, .int (nI ln)])), (u1, .inl (cs 0, 200, .inl a_b))]) [0, 1, 2] (by decide) rfl
      have hKc := hK
      have hFc := va_freeP (cx := [(h0, .inr (4, [.ref t1, .ref t2, .ref t3, .int i_ruleCount, .int i_faultKind, .int i_faultPlace, .int (nI e8), .int i_token, .int (nI t8), .int i_value])), (t1, .inr (7, [.ref u1, .int (nI ln)])), (u1, .inl (cs 0, 200, .inl a_b))]) hDE hSE hAE [0, 1, 2] rfl
      refine cs_i (va_runV (As := [.ref (adK 2)]) (rest := []) ⟨hx, hb, hml, hown, hts⟩ (s_X4_isWord l dC dI cs L ka ix ad n0 n6 n2 S f adK adV h0 t1 t2 t3 i_ruleCount i_faultKind i_faultPlace i_token i_value u1 ln a_b e8 t8 2 6 s.heap.size hT (by omega) ⟨by omega, by omega⟩ (by decide) (by rfl) (by decide)) (cwV 1 hts gX4_ruleOfWord_X4_isWord rfl rfl rfl (by decide +kernel) ⟨Nat.le_of_ble_eq_true rfl, Nat.le_of_ble_eq_true rfl⟩) ⟨e_blind, va_recv hKc hPc (ci := 4) (q0 := 0) rfl rfl, e_pre hPc hKc hDc hN hE hFc hR⟩ rfl rfl hl.1 rfl (lv_room (Nat.le_of_ble_eq_true rfl)) dX4_ruleOfWord_25 ⟨Nat.le_of_ble_eq_true rfl, Nat.le_of_ble_eq_true rfl⟩) (fun r_5 hr_5 => ?_)
      refine lv_if_eq (tgt := 33) hx hb dX4_ruleOfWord_28 (by decide) (fun c_6 => ?_) (fun c_6 => ?_)
      · refine lv_aload_n hx hb dX4_ruleOfWord_33 rfl (lv_at hl 0 rfl) ?_
        refine va_ldcS hx hb hown hR.2.2.2 dX4_ruleOfWord_34 ?_
        have hPc := hP.part (cx := [(h0, .inr (4, [.ref t1, .ref t2, .ref t3, .int i_ruleCount, .int i_faultKind, .int i_faultPlace, .int (nI e8), .int i_token, .int (nI t8), .int i_value])), (t1, .inr (7, [.ref u1, .int (nI ln)])), (u1, .inl (cs 0, 200, .inl a_b))]) [0, 1, 2] rfl
        have hDc := hD.part (cx := [(h0, .inr (4, [.ref t1, .ref t2, .ref t3, .int i_ruleCount, .int i_faultKind, .int i_faultPlace, .int (nI e8), .int i_token, .int (nI t8), .int i_value])), (t1, .inr (7, [.ref u1, .int (nI ln)])), (u1, .inl (cs 0, 200, .inl a_b))]) [0, 1, 2] (by decide) rfl
        have hKc := hK
        have hFc := va_freeP (cx := [(h0, .inr (4, [.ref t1, .ref t2, .ref t3, .int i_ruleCount, .int i_faultKind, .int i_faultPlace, .int (nI e8), .int i_token, .int (nI t8), .int i_value])), (t1, .inr (7, [.ref u1, .int (nI ln)])), (u1, .inl (cs 0, 200, .inl a_b))]) hDE hSE hAE [0, 1, 2] rfl
        refine cs_i (va_runV (As := [.ref (adK 3)]) (rest := []) ⟨hx, hb, hml, hown, hts⟩ (s_X4_isWord l dC dI cs L ka ix ad n0 n6 n2 S f adK adV h0 t1 t2 t3 i_ruleCount i_faultKind i_faultPlace i_token i_value u1 ln a_b e8 t8 3 4 s.heap.size hT (by omega) ⟨by omega, by omega⟩ (by decide) (by rfl) (by decide)) (cwV 1 hts gX4_ruleOfWord_X4_isWord rfl rfl rfl (by decide +kernel) ⟨Nat.le_of_ble_eq_true rfl, Nat.le_of_ble_eq_true rfl⟩) ⟨e_blind, va_recv hKc hPc (ci := 4) (q0 := 0) rfl rfl, e_pre hPc hKc hDc hN hE hFc hR⟩ rfl rfl hl.1 rfl (lv_room (Nat.le_of_ble_eq_true rfl)) dX4_ruleOfWord_36 ⟨Nat.le_of_ble_eq_true rfl, Nat.le_of_ble_eq_true rfl⟩) (fun r_7 hr_7 => ?_)
        refine lv_if_eq (tgt := 46) hx hb dX4_ruleOfWord_39 (by decide) (fun c_8 => ?_) (fun c_8 => ?_)
        · refine lv_iconst (v := (-1)) hx hb dX4_ruleOfWord_46 (by decide) ?_
          exact W.iret (v := (-1)) hx hb hr (fun t9 ht hW => ⟨_, rfl, (Or.inr ⟨rfl, WN4 (yn_n hr_1 c_2) (yn_n hr_3 c_4) (yn_n hr_5 c_6) (yn_n hr_7 c_8)⟩), ht⟩) (fun q h => nomatch h) dX4_ruleOfWord_47
        · refine lv_iconst (v := 3) hx hb dX4_ruleOfWord_42 (by decide) ?_
          refine lv_goto (tgt := 47) hx hb dX4_ruleOfWord_43 (by decide) ?_
          exact W.iret (v := 3) hx hb hr (fun t9 ht hW => ⟨_, rfl, (Or.inl ⟨3, by decide, rfl, yn_y hr_7 c_8⟩), ht⟩) (fun q h => nomatch h) dX4_ruleOfWord_47
      · refine lv_iconst (v := 2) hx hb dX4_ruleOfWord_31 (by decide) ?_
        exact W.iret (v := 2) hx hb hr (fun t9 ht hW => ⟨_, rfl, (Or.inl ⟨2, by decide, rfl, yn_y hr_5 c_6⟩), ht⟩) (fun q h => nomatch h) dX4_ruleOfWord_32
    · refine lv_iconst (v := 1) hx hb dX4_ruleOfWord_20 (by decide) ?_
      exact W.iret (v := 1) hx hb hr (fun t9 ht hW => ⟨_, rfl, (Or.inl ⟨1, by decide, rfl, yn_y hr_3 c_4⟩), ht⟩) (fun q h => nomatch h) dX4_ruleOfWord_21
  · refine lv_iconst (v := 0) hx hb dX4_ruleOfWord_9 (by decide) ?_
    exact W.iret (v := 0) hx hb hr (fun t9 ht hW => ⟨_, rfl, (Or.inl ⟨0, by decide, rfl, yn_y hr_1 c_2⟩), ht⟩) (fun q h => nomatch h) dX4_ruleOfWord_10

set_option maxHeartbeats 4000000 in
set_option maxRecDepth 100000 in
theorem s_X4_readRule (l : Launch) (dC : Nat → ClassId) (dI : Nat → Nat → Nat) (cs : Nat → ClassId) (L : List Nat) (ka : Nat → Nat) (ix : Nat → Nat) (ad : Nat → Nat → Nat) (n0 : Nat) (n6 : Nat) (n2 : Nat) (S : Nat → Nat → Nat → Int32) (f : Nat → va_E) (adK : Nat → Nat) (adV : Nat → Nat) (h0 : Nat) (t1 : Nat) (t2 : Nat) (t3 : Nat) (i_ruleCount : Int32) (i_faultKind : Int32) (i_faultPlace : Int32) (i_token : Int32) (i_value : Int32) (u1 : Nat) (ln : Nat) (a_b : Nat → Int32) (n1 : Nat) (a_n : Nat → Int32) (a_t : Nat → Int32) (e8 : Nat) (t8 : Nat) (i0 : Nat) (sz : Nat) (hT : tB L ka ix ad cs n0 n6 n2 S f) (hln : ln ≤ 200) (hte : t8 ≤ e8 ∧ e8 ≤ ln) (hBt : Byt (PBy a_b ln) ln) (hTC : TC (PBy a_b ln) i0 i_token t8 e8 i_value) : Met l yX4_readRule wsX4_readRule ({ frames := 6, cells := 0, slots := 0, locals := 133 }) (va_Pc [.ref h0] (fun U => cP dC dI ([(h0, .inr (4, [.ref t1, .ref t2, .ref t3, .int i_ruleCount, .int i_faultKind, .int i_faultPlace, .int (nI e8), .int i_token, .int (nI t8), .int i_value])), (t1, .inr (7, [.ref u1, .int (nI ln)])), (u1, .inl (cs 0, 200, .inl a_b)), (t2, .inr (5, [.ref n1])), (n1, .inl (cs 0, 6, .inl a_n)), (t3, .inl (cs 1, 6, .inl a_t))] ++ va_pl L f) (tyC cs) sz U ∧ EV adK adV (va_A ([(h0, .inr (4, [.ref t1, .ref t2, .ref t3, .int i_ruleCount, .int i_faultKind, .int i_faultPlace, .int (nI e8), .int i_token, .int (nI t8), .int i_value])), (t1, .inr (7, [.ref u1, .int (nI ln)])), (u1, .inl (cs 0, 200, .inl a_b)), (t2, .inr (5, [.ref n1])), (n1, .inl (cs 0, 6, .inl a_n)), (t3, .inl (cs 1, 6, .inl a_t))] ++ va_pl L f) sz) U U.heap ∧ SR adK U)) (va_Qi (fun (r rv : Int32) => r = rv) (fun (rv : Int32) t9 => ∃ (e9 : Nat) (t9x : Nat) (y_token : Int32) (y_value : Int32) (fk2 : Int32) (fp2 : Int32) (f_n : Nat → Int32) (f_t : Nat → Int32), (e9 ≤ ln ∧ t9x ≤ e9) ∧ (RRf (PBy a_b ln) i0 a_t a_n i_faultKind rv y_token t9x e9 y_value fk2 f_n f_t) ∧ cQ dC dI ([(h0, .inr (4, [.ref t1, .ref t2, .ref t3, .int i_ruleCount, .int fk2, .int fp2, .int (nI e9), .int y_token, .int (nI t9x), .int y_value])), (t1, .inr (7, [.ref u1, .int (nI ln)])), (u1, .inl (cs 0, 200, .inl a_b)), (t2, .inr (5, [.ref n1])), (n1, .inl (cs 0, 6, .inl f_n)), (t3, .inl (cs 1, 6, .inl f_t))] ++ va_pl L f) [] (va_A ([(h0, .inr (4, [.ref t1, .ref t2, .ref t3, .int i_ruleCount, .int i_faultKind, .int i_faultPlace, .int (nI e8), .int i_token, .int (nI t8), .int i_value])), (t1, .inr (7, [.ref u1, .int (nI ln)])), (u1, .inl (cs 0, 200, .inl a_b)), (t2, .inr (5, [.ref n1])), (n1, .inl (cs 0, 6, .inl a_n)), (t3, .inl (cs 1, 6, .inl a_t))] ++ va_pl L f) sz) t9) (va_A ([(h0, .inr (4, [.ref t1, .ref t2, .ref t3, .int i_ruleCount, .int i_faultKind, .int i_faultPlace, .int (nI e8), .int i_token, .int (nI t8), .int i_value])), (t1, .inr (7, [.ref u1, .int (nI ln)])), (u1, .inl (cs 0, 200, .inl a_b)), (t2, .inr (5, [.ref n1])), (n1, .inl (cs 0, 6, .inl a_n)), (t3, .inl (cs 1, 6, .inl a_t))] ++ va_pl L f) sz)) 0 0 (va_A ([(h0, .inr (4, [.ref t1, .ref t2, .ref t3, .int i_ruleCount, .int i_faultKind, .int i_faultPlace, .int (nI e8), .int i_token, .int (nI t8), .int i_value])), (t1, .inr (7, [.ref u1, .int (nI ln)])), (u1, .inl (cs 0, 200, .inl a_b)), (t2, .inr (5, [.ref n1])), (n1, .inl (cs 0, 6, .inl a_n)), (t3, .inl (cs 1, 6, .inl a_t))] ++ va_pl L f) sz) := by
  refine Met.ofW (cc := cX4_readRule) (maxL := 2) (ret := (some .boolean)) (by decide) rfl ?_
  intro p e s m args below meth c s₁ B hml hv
  obtain ⟨rfl, ⟨hsz, hP, hK, hD0, hN⟩, hE, hR⟩ := hv
  have hx := B.exec
  have hb := B.bytes
  have hr := B.returns
  have hts := atoms_spec (ws := wsX4_readRule) B.pre
  have hown : s.vm.findClass RX4 = some m.cls := findClass_of_methodNamed B.named
  have hlocks := B.notSynchronized
  subst hsz
  have hin4 : ∀ w ∈ u_ws RX4 TX4 10, w ∈ wsX4_readRule := by decide +kernel
  have hD := hD0.self (sz := s.heap.size)
  generalize hAe : va_A ([(h0, .inr (4, [.ref t1, .ref t2, .ref t3, .int i_ruleCount, .int i_faultKind, .int i_faultPlace, .int (nI e8), .int i_token, .int (nI t8), .int i_value])), (t1, .inr (7, [.ref u1, .int (nI ln)])), (u1, .inl (cs 0, 200, .inl a_b)), (t2, .inr (5, [.ref n1])), (n1, .inl (cs 0, 6, .inl a_n)), (t3, .inl (cs 1, 6, .inl a_t))] ++ va_pl L f) s.heap.size = A at hD hE ⊢
  have hA : ∀ q : Nat, s.heap.size ≤ q → A q := fun q h => by rw [← hAe]; exact Or.inr h
  have hS : va_S A s.heap s.heap [] := va_S.rf
  have hP : va_P (dC, dI) vwCl ([(h0, .inr (4, [.ref t1, .ref t2, .ref t3, .int i_ruleCount, .int i_faultKind, .int i_faultPlace, .int (nI e8), .int i_token, .int (nI t8), .int i_value])), (t1, .inr (7, [.ref u1, .int (nI ln)])), (u1, .inl (cs 0, 200, .inl a_b)), (t2, .inr (5, [.ref n1])), (n1, .inl (cs 0, 6, .inl a_n)), (t3, .inl (cs 1, 6, .inl a_t))] ++ va_pl L f) s.heap := hP
  have hl := lv_entry ([.ref h0]) (n := 2) (Nat.le_of_ble_eq_true rfl)
  rw [lg_entry_eq]
  generalize (lg_sl ([.ref h0]) ++ List.replicate (2 - (lg_sl ([.ref h0])).length) Slot.unset).toArray = ls at hl ⊢
  have hl : lv_has ls 2 [(0, .ref h0)] := hl
  refine lv_aload_n hx hb dX4_readRule_0 rfl (lv_at hl 0 rfl) ?_
  have hPc := hP.part (cx := [(h0, .inr (4, [.ref t1, .ref t2, .ref t3, .int i_ruleCount, .int i_faultKind, .int i_faultPlace, .int (nI e8), .int i_token, .int (nI t8), .int i_value])), (t1, .inr (7, [.ref u1, .int (nI ln)])), (u1, .inl (cs 0, 200, .inl a_b))]) [0, 1, 2] rfl
  have hDc := hD.part (cx := [(h0, .inr (4, [.ref t1, .ref t2, .ref t3, .int i_ruleCount, .int i_faultKind, .int i_faultPlace, .int (nI e8), .int i_token, .int (nI t8), .int i_value])), (t1, .inr (7, [.ref u1, .int (nI ln)])), (u1, .inl (cs 0, 200, .inl a_b))]) [0, 1, 2] (by decide) rfl
  have hKc := hK
  have hFc := va_freeP (cx := [(h0, .inr (4, [.ref t1, .ref t2, .ref t3, .int i_ruleCount, .int i_faultKind, .int i_faultPlace, .int (nI e8), .int i_token, .int (nI t8), .int i_value])), (t1, .inr (7, [.ref u1, .int (nI ln)])), (u1, .inl (cs 0, 200, .inl a_b))]) hD hS hA [0, 1, 2] rfl
  refine cs_i (va_runV (As := []) (rest := []) ⟨hx, hb, hml, hown, hts⟩ (s_X4_ruleOfWord l dC dI cs L ka ix ad n0 n6 n2 S f adK adV h0 t1 t2 t3 i_ruleCount i_faultKind i_faultPlace i_token i_value u1 ln a_b e8 t8 s.heap.size hT (by omega) ⟨by omega, by omega⟩) (cwV 0 hts gX4_readRule_X4_ruleOfWord rfl rfl rfl (by decide +kernel) ⟨Nat.le_of_ble_eq_true rfl, Nat.le_of_ble_eq_true rfl⟩) ⟨e_blind, va_recv hKc hPc (ci := 4) (q0 := 0) rfl rfl, e_pre hPc hKc hDc hN (hE.kept hS.2.1) hFc hR⟩ rfl rfl hl.1 rfl (lv_room (Nat.le_of_ble_eq_true rfl)) dX4_readRule_1 ⟨Nat.le_of_ble_eq_true rfl, Nat.le_of_ble_eq_true rfl⟩) (fun r_1 hr_1 => ?_)
  rcases hr_1 with ⟨w7, hw7, rfl, hW7⟩ | ⟨rfl, hN7⟩
  · refine W.eq (g2 := F0 m 4 ls [.int (nI w7)]) rfl ?_
    refine lv_istore_n (lv' := [(1, .int (nI w7)), (0, .ref h0)]) hx hb dX4_readRule_4 rfl hl (by decide) rfl (fun ls hl => ?_)
    refine lv_iload_n hx hb dX4_readRule_5 rfl (lv_at hl 0 rfl) ?_
    refine lv_iconst (v := (-1)) hx hb dX4_readRule_6 (by decide) ?_
    refine lv_icmp_ne (tgt := 16) hx hb dX4_readRule_7 (by decide) (fun _ => ?_) (fun c_2 => by first | exact absurd c_2 (nI_m (by omega)) | exact absurd (nI_m (by omega)) c_2)
    refine lv_iload_n hx hb dX4_readRule_16 rfl (lv_at hl 0 rfl) ?_
    refine lv_iconst (v := 3) hx hb dX4_readRule_17 (by decide) ?_
    refine lv_icmp_ne (tgt := 45) hx hb dX4_readRule_18 (by decide) (fun c_3 => ?_) (fun c_3 => ?_)
    · have hw73 : w7 < 3 := by have h9 : ¬ w7 = 3 := fun q => c_3 (by rw [q]; rfl); omega
      refine lv_aload_n hx hb dX4_readRule_45 rfl (lv_at hl 1 rfl) ?_
      refine lv_iload_n hx hb dX4_readRule_46 rfl (lv_at hl 0 rfl) ?_
      have hPc := hP.part (cx := [(h0, .inr (4, [.ref t1, .ref t2, .ref t3, .int i_ruleCount, .int i_faultKind, .int i_faultPlace, .int (nI e8), .int i_token, .int (nI t8), .int i_value])), (t3, .inl (cs 1, 6, .inl a_t))]) [0, 5] rfl
      have hDc := hD.part (cx := [(h0, .inr (4, [.ref t1, .ref t2, .ref t3, .int i_ruleCount, .int i_faultKind, .int i_faultPlace, .int (nI e8), .int i_token, .int (nI t8), .int i_value])), (t3, .inl (cs 1, 6, .inl a_t))]) [0, 5] (by decide) rfl
      have hKc := hK
      have hFc := va_freeP (cx := [(h0, .inr (4, [.ref t1, .ref t2, .ref t3, .int i_ruleCount, .int i_faultKind, .int i_faultPlace, .int (nI e8), .int i_token, .int (nI t8), .int i_value])), (t3, .inl (cs 1, 6, .inl a_t))]) hD hS hA [0, 5] rfl
      refine va_calli (va_runV (As := [.int (nI w7)]) (rest := []) ⟨hx, hb, hml, hown, hts⟩ (s_X4_isFirstOf l dC dI cs L ka ix ad n0 n6 n2 S f h0 t1 t2 t3 i_ruleCount i_faultKind i_faultPlace (nI e8) i_token (nI t8) i_value a_t w7 s.heap.size hT (by omega)) (cwV 1 hts gX4_readRule_X4_isFirstOf rfl rfl rfl (by decide +kernel) ⟨Nat.le_of_ble_eq_true rfl, Nat.le_of_ble_eq_true rfl⟩) ⟨c_blind, va_recv hKc hPc (ci := 4) (q0 := 0) rfl rfl, c_pre hPc hKc hDc hN⟩ rfl rfl hl.1 rfl (lv_room (Nat.le_of_ble_eq_true rfl)) dX4_readRule_47 ⟨Nat.le_of_ble_eq_true rfl, Nat.le_of_ble_eq_true rfl⟩) hS (fun q _ h => hFc q h) hFc (fun r_4 u9 t9 H1 locs ht hvm hw hB hz1 hk1 hS => ?_)
      obtain ⟨fk_5, fp_6, f_t_7, hf_x_8, hP1, hK1, hD1⟩ := hB
      rw [ht] at hP1
      have hK1 := va_K.moved hvm.symm hK1
      obtain ⟨hP, hD⟩ := va_joinP (X := [(h0, .inr (4, [.ref t1, .ref t2, .ref t3, .int i_ruleCount, .int i_faultKind, .int i_faultPlace, .int (nI e8), .int i_token, .int (nI t8), .int i_value])), (t1, .inr (7, [.ref u1, .int (nI ln)])), (u1, .inl (cs 0, 200, .inl a_b)), (t2, .inr (5, [.ref n1])), (n1, .inl (cs 0, 6, .inl a_n)), (t3, .inl (cs 1, 6, .inl a_t))]) (cx := [(h0, .inr (4, [.ref t1, .ref t2, .ref t3, .int i_ruleCount, .int i_faultKind, .int i_faultPlace, .int (nI e8), .int i_token, .int (nI t8), .int i_value])), (t3, .inl (cs 1, 6, .inl a_t))]) (wr := [(t1, .inr (7, [.ref u1, .int (nI ln)])), (u1, .inl (cs 0, 200, .inl a_b)), (t2, .inr (5, [.ref n1])), (n1, .inl (cs 0, 6, .inl a_n))]) (rx := [(h0, .inr (4, [.ref t1, .ref t2, .ref t3, .int i_ruleCount, .int fk_5, .int fp_6, .int (nI e8), .int i_token, .int (nI t8), .int i_value])), (t3, .inl (cs 1, 6, .inl f_t_7))]) (pl := va_pl L f) (pl1 := va_pl L f) hP hD [0, 5] [1, 2, 3, 4] rfl rfl (by decide) (by decide) hk1 hFc hP1 hD1
      generalize H1 = H at hP hS ⊢
      have hP : va_P (dC, dI) vwCl ([(t1, .inr (7, [.ref u1, .int (nI ln)])), (u1, .inl (cs 0, 200, .inl a_b)), (t2, .inr (5, [.ref n1])), (n1, .inl (cs 0, 6, .inl a_n)), (h0, .inr (4, [.ref t1, .ref t2, .ref t3, .int i_ruleCount, .int fk_5, .int fp_6, .int (nI e8), .int i_token, .int (nI t8), .int i_value])), (t3, .inl (cs 1, 6, .inl f_t_7))] ++ va_pl L f) H := hP
      have hD : va_D A ([(t1, .inr (7, [.ref u1, .int (nI ln)])), (u1, .inl (cs 0, 200, .inl a_b)), (t2, .inr (5, [.ref n1])), (n1, .inl (cs 0, 6, .inl a_n)), (h0, .inr (4, [.ref t1, .ref t2, .ref t3, .int i_ruleCount, .int fk_5, .int fp_6, .int (nI e8), .int i_token, .int (nI t8), .int i_value])), (t3, .inl (cs 1, 6, .inl f_t_7))] ++ va_pl L f) := hD
      refine W.widen (k := 0) (n := 0) (Nat.le_of_ble_eq_true rfl) (Nat.le_of_ble_eq_true rfl) ?_
      try dsimp only at hw
      subst hw
      refine lv_if_eq (tgt := 72) hx hb dX4_readRule_50 (by decide) (fun c_9 => ?_) (fun c_9 => ?_)
      · refine lv_iconst (v := 0) hx hb dX4_readRule_72 (by decide) ?_
        have hP9 := hP.part (cx := [(h0, .inr (4, [.ref t1, .ref t2, .ref t3, .int i_ruleCount, .int fk_5, .int fp_6, .int (nI e8), .int i_token, .int (nI t8), .int i_value])), (t1, .inr (7, [.ref u1, .int (nI ln)])), (u1, .inl (cs 0, 200, .inl a_b)), (t2, .inr (5, [.ref n1])), (n1, .inl (cs 0, 6, .inl a_n)), (t3, .inl (cs 1, 6, .inl f_t_7))]) [4, 0, 1, 2, 3, 5] rfl
        have hD9 := hD.part (cx := [(h0, .inr (4, [.ref t1, .ref t2, .ref t3, .int i_ruleCount, .int fk_5, .int fp_6, .int (nI e8), .int i_token, .int (nI t8), .int i_value])), (t1, .inr (7, [.ref u1, .int (nI ln)])), (u1, .inl (cs 0, 200, .inl a_b)), (t2, .inr (5, [.ref n1])), (n1, .inl (cs 0, 6, .inl a_n)), (t3, .inl (cs 1, 6, .inl f_t_7))]) [4, 0, 1, 2, 3, 5] (by decide) rfl
        have hK9 := hK.sub (tys' := []) [] rfl
        refine W.widen (k := 0) (n := 0) (Nat.le_of_ble_eq_true rfl) (Nat.le_of_ble_eq_true rfl) ?_
        exact W.zret (v := 0) hx hb hr rfl (fun t9 ht hW => ⟨⟨_, 0, rfl, rfl, e8, t8, i_token, i_value, fk_5, fp_6, a_n, f_t_7, ⟨by omega, by omega⟩, (RR_b hBt (HD_1 hTC hW7 hw73) (FO_n hf_x_8 c_9).1 (FO_n hf_x_8 c_9).2), by rw [ht]; exact hP9, va_K.moved hW.alike hK9, hD9⟩, hS.F ht⟩) hS.2.2 dX4_readRule_73
      · refine lv_aload_n hx hb dX4_readRule_53 rfl (lv_at hl 1 rfl) ?_
        refine lv_iload_n hx hb dX4_readRule_54 rfl (lv_at hl 0 rfl) ?_
        have hPc := hP.part (cx := [(h0, .inr (4, [.ref t1, .ref t2, .ref t3, .int i_ruleCount, .int fk_5, .int fp_6, .int (nI e8), .int i_token, .int (nI t8), .int i_value])), (t1, .inr (7, [.ref u1, .int (nI ln)])), (u1, .inl (cs 0, 200, .inl a_b)), (t2, .inr (5, [.ref n1])), (n1, .inl (cs 0, 6, .inl a_n))]) [4, 0, 1, 2, 3] rfl
        have hDc := hD.part (cx := [(h0, .inr (4, [.ref t1, .ref t2, .ref t3, .int i_ruleCount, .int fk_5, .int fp_6, .int (nI e8), .int i_token, .int (nI t8), .int i_value])), (t1, .inr (7, [.ref u1, .int (nI ln)])), (u1, .inl (cs 0, 200, .inl a_b)), (t2, .inr (5, [.ref n1])), (n1, .inl (cs 0, 6, .inl a_n))]) [4, 0, 1, 2, 3] (by decide) rfl
        have hKc := hK
        have hFc := va_freeP (cx := [(h0, .inr (4, [.ref t1, .ref t2, .ref t3, .int i_ruleCount, .int fk_5, .int fp_6, .int (nI e8), .int i_token, .int (nI t8), .int i_value])), (t1, .inr (7, [.ref u1, .int (nI ln)])), (u1, .inl (cs 0, 200, .inl a_b)), (t2, .inr (5, [.ref n1])), (n1, .inl (cs 0, 6, .inl a_n))]) hD hS hA [4, 0, 1, 2, 3] rfl
        refine va_calli (va_runV (As := [.int (nI w7)]) (rest := []) ⟨hx, hb, hml, hown, hts⟩ (s_X4_readNumberOf l dC dI cs L ka ix ad n0 n6 n2 S f h0 t1 t2 t3 i_ruleCount fk_5 fp_6 i_token (nI t8) i_value u1 ln a_b n1 a_n e8 w7 H.size hT (by omega) (by omega) hBt (by omega)) (cwV 1 hts gX4_readRule_X4_readNumberOf rfl rfl rfl (by decide +kernel) ⟨Nat.le_of_ble_eq_true rfl, Nat.le_of_ble_eq_true rfl⟩) ⟨c_blind, va_recv hKc hPc (ci := 4) (q0 := 0) rfl rfl, c_pre hPc hKc hDc hN⟩ rfl rfl hl.1 rfl (lv_room (Nat.le_of_ble_eq_true rfl)) dX4_readRule_55 ⟨Nat.le_of_ble_eq_true rfl, Nat.le_of_ble_eq_true rfl⟩) hS (fun q _ h => hFc q h) hFc (fun r_10 u9 t9 H1 locs ht hvm hw hB hz1 hk1 hS => ?_)
        obtain ⟨e_11, t9x_12, y_token_13, y_value_14, fk_15, fp_16, f_n_17, hf_x_18, hf_x_19, hP1, hK1, hD1⟩ := hB
        rw [ht] at hP1
        have hK1 := va_K.moved hvm.symm hK1
        obtain ⟨hP, hD⟩ := va_joinP (X := [(t1, .inr (7, [.ref u1, .int (nI ln)])), (u1, .inl (cs 0, 200, .inl a_b)), (t2, .inr (5, [.ref n1])), (n1, .inl (cs 0, 6, .inl a_n)), (h0, .inr (4, [.ref t1, .ref t2, .ref t3, .int i_ruleCount, .int fk_5, .int fp_6, .int (nI e8), .int i_token, .int (nI t8), .int i_value])), (t3, .inl (cs 1, 6, .inl f_t_7))]) (cx := [(h0, .inr (4, [.ref t1, .ref t2, .ref t3, .int i_ruleCount, .int fk_5, .int fp_6, .int (nI e8), .int i_token, .int (nI t8), .int i_value])), (t1, .inr (7, [.ref u1, .int (nI ln)])), (u1, .inl (cs 0, 200, .inl a_b)), (t2, .inr (5, [.ref n1])), (n1, .inl (cs 0, 6, .inl a_n))]) (wr := [(t3, .inl (cs 1, 6, .inl f_t_7))]) (rx := [(h0, .inr (4, [.ref t1, .ref t2, .ref t3, .int i_ruleCount, .int fk_15, .int fp_16, .int (nI e_11), .int y_token_13, .int (nI t9x_12), .int y_value_14])), (t1, .inr (7, [.ref u1, .int (nI ln)])), (u1, .inl (cs 0, 200, .inl a_b)), (t2, .inr (5, [.ref n1])), (n1, .inl (cs 0, 6, .inl f_n_17))]) (pl := va_pl L f) (pl1 := va_pl L f) hP hD [4, 0, 1, 2, 3] [5] rfl rfl (by decide) (by decide) hk1 hFc hP1 hD1
        generalize H1 = H at hP hS ⊢
        have hP : va_P (dC, dI) vwCl ([(t3, .inl (cs 1, 6, .inl f_t_7)), (h0, .inr (4, [.ref t1, .ref t2, .ref t3, .int i_ruleCount, .int fk_15, .int fp_16, .int (nI e_11), .int y_token_13, .int (nI t9x_12), .int y_value_14])), (t1, .inr (7, [.ref u1, .int (nI ln)])), (u1, .inl (cs 0, 200, .inl a_b)), (t2, .inr (5, [.ref n1])), (n1, .inl (cs 0, 6, .inl f_n_17))] ++ va_pl L f) H := hP
        have hD : va_D A ([(t3, .inl (cs 1, 6, .inl f_t_7)), (h0, .inr (4, [.ref t1, .ref t2, .ref t3, .int i_ruleCount, .int fk_15, .int fp_16, .int (nI e_11), .int y_token_13, .int (nI t9x_12), .int y_value_14])), (t1, .inr (7, [.ref u1, .int (nI ln)])), (u1, .inl (cs 0, 200, .inl a_b)), (t2, .inr (5, [.ref n1])), (n1, .inl (cs 0, 6, .inl f_n_17))] ++ va_pl L f) := hD
        refine W.widen (k := 0) (n := 0) (Nat.le_of_ble_eq_true rfl) (Nat.le_of_ble_eq_true rfl) ?_
        try dsimp only at hw
        subst hw
        refine lv_if_eq (tgt := 72) hx hb dX4_readRule_58 (by decide) (fun c_20 => ?_) (fun c_20 => ?_)
        · refine lv_iconst (v := 0) hx hb dX4_readRule_72 (by decide) ?_
          have hP9 := hP.part (cx := [(h0, .inr (4, [.ref t1, .ref t2, .ref t3, .int i_ruleCount, .int fk_15, .int fp_16, .int (nI e_11), .int y_token_13, .int (nI t9x_12), .int y_value_14])), (t1, .inr (7, [.ref u1, .int (nI ln)])), (u1, .inl (cs 0, 200, .inl a_b)), (t2, .inr (5, [.ref n1])), (n1, .inl (cs 0, 6, .inl f_n_17)), (t3, .inl (cs 1, 6, .inl f_t_7))]) [1, 2, 3, 4, 5, 0] rfl
          have hD9 := hD.part (cx := [(h0, .inr (4, [.ref t1, .ref t2, .ref t3, .int i_ruleCount, .int fk_15, .int fp_16, .int (nI e_11), .int y_token_13, .int (nI t9x_12), .int y_value_14])), (t1, .inr (7, [.ref u1, .int (nI ln)])), (u1, .inl (cs 0, 200, .inl a_b)), (t2, .inr (5, [.ref n1])), (n1, .inl (cs 0, 6, .inl f_n_17)), (t3, .inl (cs 1, 6, .inl f_t_7))]) [1, 2, 3, 4, 5, 0] (by decide) rfl
          have hK9 := hK.sub (tys' := []) [] rfl
          refine W.widen (k := 0) (n := 0) (Nat.le_of_ble_eq_true rfl) (Nat.le_of_ble_eq_true rfl) ?_
          exact W.zret (v := 0) hx hb hr rfl (fun t9 ht hW => ⟨⟨_, 0, rfl, rfl, e_11, t9x_12, y_token_13, y_value_14, fk_15, fp_16, f_n_17, f_t_7, ⟨by omega, by omega⟩, (RR_c hBt (HD_1 hTC hW7 hw73) hf_x_19 c_20), by rw [ht]; exact hP9, va_K.moved hW.alike hK9, hD9⟩, hS.F ht⟩) hS.2.2 dX4_readRule_73
        · refine lv_aload_n hx hb dX4_readRule_61 rfl (lv_at hl 1 rfl) ?_
          have hPc := hP.part (cx := [(h0, .inr (4, [.ref t1, .ref t2, .ref t3, .int i_ruleCount, .int fk_15, .int fp_16, .int (nI e_11), .int y_token_13, .int (nI t9x_12), .int y_value_14])), (t1, .inr (7, [.ref u1, .int (nI ln)])), (u1, .inl (cs 0, 200, .inl a_b))]) [1, 2, 3] rfl
          have hDc := hD.part (cx := [(h0, .inr (4, [.ref t1, .ref t2, .ref t3, .int i_ruleCount, .int fk_15, .int fp_16, .int (nI e_11), .int y_token_13, .int (nI t9x_12), .int y_value_14])), (t1, .inr (7, [.ref u1, .int (nI ln)])), (u1, .inl (cs 0, 200, .inl a_b))]) [1, 2, 3] (by decide) rfl
          have hKc := hK
          have hFc := va_freeP (cx := [(h0, .inr (4, [.ref t1, .ref t2, .ref t3, .int i_ruleCount, .int fk_15, .int fp_16, .int (nI e_11), .int y_token_13, .int (nI t9x_12), .int y_value_14])), (t1, .inr (7, [.ref u1, .int (nI ln)])), (u1, .inl (cs 0, 200, .inl a_b))]) hD hS hA [1, 2, 3] rfl
          refine va_calli (va_runV (As := []) (rest := []) ⟨hx, hb, hml, hown, hts⟩ (s_X4_readSemicolon l dC dI cs L ka ix ad n0 n6 n2 S f h0 t1 t2 t3 i_ruleCount fk_15 fp_16 y_token_13 (nI t9x_12) y_value_14 u1 ln a_b e_11 H.size hT (by omega) (by omega) hBt) (cwV 0 hts gX4_readRule_X4_readSemicolon rfl rfl rfl (by decide +kernel) ⟨Nat.le_of_ble_eq_true rfl, Nat.le_of_ble_eq_true rfl⟩) ⟨c_blind, va_recv hKc hPc (ci := 4) (q0 := 0) rfl rfl, c_pre hPc hKc hDc hN⟩ rfl rfl hl.1 rfl (lv_room (Nat.le_of_ble_eq_true rfl)) dX4_readRule_62 ⟨Nat.le_of_ble_eq_true rfl, Nat.le_of_ble_eq_true rfl⟩) hS (fun q _ h => hFc q h) hFc (fun r_21 u9 t9 H1 locs ht hvm hw hB hz1 hk1 hS => ?_)
          obtain ⟨e_22, t9x_23, y_token_24, y_value_25, fk_26, fp_27, hf_x_28, hf_x_29, hP1, hK1, hD1⟩ := hB
          rw [ht] at hP1
          have hK1 := va_K.moved hvm.symm hK1
          obtain ⟨hP, hD⟩ := va_joinP (X := [(t3, .inl (cs 1, 6, .inl f_t_7)), (h0, .inr (4, [.ref t1, .ref t2, .ref t3, .int i_ruleCount, .int fk_15, .int fp_16, .int (nI e_11), .int y_token_13, .int (nI t9x_12), .int y_value_14])), (t1, .inr (7, [.ref u1, .int (nI ln)])), (u1, .inl (cs 0, 200, .inl a_b)), (t2, .inr (5, [.ref n1])), (n1, .inl (cs 0, 6, .inl f_n_17))]) (cx := [(h0, .inr (4, [.ref t1, .ref t2, .ref t3, .int i_ruleCount, .int fk_15, .int fp_16, .int (nI e_11), .int y_token_13, .int (nI t9x_12), .int y_value_14])), (t1, .inr (7, [.ref u1, .int (nI ln)])), (u1, .inl (cs 0, 200, .inl a_b))]) (wr := [(t3, .inl (cs 1, 6, .inl f_t_7)), (t2, .inr (5, [.ref n1])), (n1, .inl (cs 0, 6, .inl f_n_17))]) (rx := [(h0, .inr (4, [.ref t1, .ref t2, .ref t3, .int i_ruleCount, .int fk_26, .int fp_27, .int (nI e_22), .int y_token_24, .int (nI t9x_23), .int y_value_25])), (t1, .inr (7, [.ref u1, .int (nI ln)])), (u1, .inl (cs 0, 200, .inl a_b))]) (pl := va_pl L f) (pl1 := va_pl L f) hP hD [1, 2, 3] [0, 4, 5] rfl rfl (by decide) (by decide) hk1 hFc hP1 hD1
          generalize H1 = H at hP hS ⊢
          have hP : va_P (dC, dI) vwCl ([(t3, .inl (cs 1, 6, .inl f_t_7)), (t2, .inr (5, [.ref n1])), (n1, .inl (cs 0, 6, .inl f_n_17)), (h0, .inr (4, [.ref t1, .ref t2, .ref t3, .int i_ruleCount, .int fk_26, .int fp_27, .int (nI e_22), .int y_token_24, .int (nI t9x_23), .int y_value_25])), (t1, .inr (7, [.ref u1, .int (nI ln)])), (u1, .inl (cs 0, 200, .inl a_b))] ++ va_pl L f) H := hP
          have hD : va_D A ([(t3, .inl (cs 1, 6, .inl f_t_7)), (t2, .inr (5, [.ref n1])), (n1, .inl (cs 0, 6, .inl f_n_17)), (h0, .inr (4, [.ref t1, .ref t2, .ref t3, .int i_ruleCount, .int fk_26, .int fp_27, .int (nI e_22), .int y_token_24, .int (nI t9x_23), .int y_value_25])), (t1, .inr (7, [.ref u1, .int (nI ln)])), (u1, .inl (cs 0, 200, .inl a_b))] ++ va_pl L f) := hD
          refine W.widen (k := 0) (n := 0) (Nat.le_of_ble_eq_true rfl) (Nat.le_of_ble_eq_true rfl) ?_
          try dsimp only at hw
          subst hw
          refine lv_if_eq (tgt := 72) hx hb dX4_readRule_65 (by decide) (fun c_30 => ?_) (fun c_30 => ?_)
          · refine lv_iconst (v := 0) hx hb dX4_readRule_72 (by decide) ?_
            have hP9 := hP.part (cx := [(h0, .inr (4, [.ref t1, .ref t2, .ref t3, .int i_ruleCount, .int fk_26, .int fp_27, .int (nI e_22), .int y_token_24, .int (nI t9x_23), .int y_value_25])), (t1, .inr (7, [.ref u1, .int (nI ln)])), (u1, .inl (cs 0, 200, .inl a_b)), (t2, .inr (5, [.ref n1])), (n1, .inl (cs 0, 6, .inl f_n_17)), (t3, .inl (cs 1, 6, .inl f_t_7))]) [3, 4, 5, 1, 2, 0] rfl
            have hD9 := hD.part (cx := [(h0, .inr (4, [.ref t1, .ref t2, .ref t3, .int i_ruleCount, .int fk_26, .int fp_27, .int (nI e_22), .int y_token_24, .int (nI t9x_23), .int y_value_25])), (t1, .inr (7, [.ref u1, .int (nI ln)])), (u1, .inl (cs 0, 200, .inl a_b)), (t2, .inr (5, [.ref n1])), (n1, .inl (cs 0, 6, .inl f_n_17)), (t3, .inl (cs 1, 6, .inl f_t_7))]) [3, 4, 5, 1, 2, 0] (by decide) rfl
            have hK9 := hK.sub (tys' := []) [] rfl
            refine W.widen (k := 0) (n := 0) (Nat.le_of_ble_eq_true rfl) (Nat.le_of_ble_eq_true rfl) ?_
            exact W.zret (v := 0) hx hb hr rfl (fun t9 ht hW => ⟨⟨_, 0, rfl, rfl, e_22, t9x_23, y_token_24, y_value_25, fk_26, fp_27, f_n_17, f_t_7, ⟨by omega, by omega⟩, (RR_d hBt (HD_1 hTC hW7 hw73) hf_x_19 c_20 hf_x_29 c_30), by rw [ht]; exact hP9, va_K.moved hW.alike hK9, hD9⟩, hS.F ht⟩) hS.2.2 dX4_readRule_73
          · refine lv_iconst (v := 1) hx hb dX4_readRule_68 (by decide) ?_
            refine lv_goto (tgt := 73) hx hb dX4_readRule_69 (by decide) ?_
            have hP9 := hP.part (cx := [(h0, .inr (4, [.ref t1, .ref t2, .ref t3, .int i_ruleCount, .int fk_26, .int fp_27, .int (nI e_22), .int y_token_24, .int (nI t9x_23), .int y_value_25])), (t1, .inr (7, [.ref u1, .int (nI ln)])), (u1, .inl (cs 0, 200, .inl a_b)), (t2, .inr (5, [.ref n1])), (n1, .inl (cs 0, 6, .inl f_n_17)), (t3, .inl (cs 1, 6, .inl f_t_7))]) [3, 4, 5, 1, 2, 0] rfl
            have hD9 := hD.part (cx := [(h0, .inr (4, [.ref t1, .ref t2, .ref t3, .int i_ruleCount, .int fk_26, .int fp_27, .int (nI e_22), .int y_token_24, .int (nI t9x_23), .int y_value_25])), (t1, .inr (7, [.ref u1, .int (nI ln)])), (u1, .inl (cs 0, 200, .inl a_b)), (t2, .inr (5, [.ref n1])), (n1, .inl (cs 0, 6, .inl f_n_17)), (t3, .inl (cs 1, 6, .inl f_t_7))]) [3, 4, 5, 1, 2, 0] (by decide) rfl
            have hK9 := hK.sub (tys' := []) [] rfl
            refine W.widen (k := 0) (n := 0) (Nat.le_of_ble_eq_true rfl) (Nat.le_of_ble_eq_true rfl) ?_
            exact W.zret (v := 1) hx hb hr rfl (fun t9 ht hW => ⟨⟨_, 1, rfl, rfl, e_22, t9x_23, y_token_24, y_value_25, fk_26, fp_27, f_n_17, f_t_7, ⟨by omega, by omega⟩, (RR_y hBt (HD_1 hTC hW7 hw73) hf_x_8 c_9 hf_x_19 c_20 hf_x_29 c_30), by rw [ht]; exact hP9, va_K.moved hW.alike hK9, hD9⟩, hS.F ht⟩) hS.2.2 dX4_readRule_73
    · refine lv_aload_n hx hb dX4_readRule_21 rfl (lv_at hl 1 rfl) ?_
      have hPc := hP.part (cx := [(h0, .inr (4, [.ref t1, .ref t2, .ref t3, .int i_ruleCount, .int i_faultKind, .int i_faultPlace, .int (nI e8), .int i_token, .int (nI t8), .int i_value])), (t1, .inr (7, [.ref u1, .int (nI ln)])), (u1, .inl (cs 0, 200, .inl a_b))]) [0, 1, 2] rfl
      have hDc := hD.part (cx := [(h0, .inr (4, [.ref t1, .ref t2, .ref t3, .int i_ruleCount, .int i_faultKind, .int i_faultPlace, .int (nI e8), .int i_token, .int (nI t8), .int i_value])), (t1, .inr (7, [.ref u1, .int (nI ln)])), (u1, .inl (cs 0, 200, .inl a_b))]) [0, 1, 2] (by decide) rfl
      have hKc := hK
      have hFc := va_freeP (cx := [(h0, .inr (4, [.ref t1, .ref t2, .ref t3, .int i_ruleCount, .int i_faultKind, .int i_faultPlace, .int (nI e8), .int i_token, .int (nI t8), .int i_value])), (t1, .inr (7, [.ref u1, .int (nI ln)])), (u1, .inl (cs 0, 200, .inl a_b))]) hD hS hA [0, 1, 2] rfl
      refine va_callv (va_runV (As := []) (rest := []) ⟨hx, hb, hml, hown, hts⟩ (s_X4_readToken l dC dI cs L ka ix ad n0 n6 n2 S f h0 t1 t2 t3 i_ruleCount i_faultKind i_faultPlace i_token (nI t8) i_value u1 ln a_b e8 s.heap.size hT (by omega) (by omega) hBt) (cwV 0 hts gX4_readRule_X4_readToken rfl rfl rfl (by decide +kernel) ⟨Nat.le_of_ble_eq_true rfl, Nat.le_of_ble_eq_true rfl⟩) ⟨c_blind, va_recv hKc hPc (ci := 4) (q0 := 0) rfl rfl, c_pre hPc hKc hDc hN⟩ rfl rfl hl.1 rfl (lv_room (Nat.le_of_ble_eq_true rfl)) dX4_readRule_22 ⟨Nat.le_of_ble_eq_true rfl, Nat.le_of_ble_eq_true rfl⟩) hS (fun q _ h => hFc q h) hFc (fun u9 t9 H1 locs ht hvm hw hB hz1 hk1 hS => ?_)
      obtain ⟨e_32, t9x_33, y_token_34, y_value_35, hf_x_36, hf_x_37, hP1, hK1, hD1⟩ := hB
      rw [ht] at hP1
      have hK1 := va_K.moved hvm.symm hK1
      obtain ⟨hP, hD⟩ := va_joinP (X := [(h0, .inr (4, [.ref t1, .ref t2, .ref t3, .int i_ruleCount, .int i_faultKind, .int i_faultPlace, .int (nI e8), .int i_token, .int (nI t8), .int i_value])), (t1, .inr (7, [.ref u1, .int (nI ln)])), (u1, .inl (cs 0, 200, .inl a_b)), (t2, .inr (5, [.ref n1])), (n1, .inl (cs 0, 6, .inl a_n)), (t3, .inl (cs 1, 6, .inl a_t))]) (cx := [(h0, .inr (4, [.ref t1, .ref t2, .ref t3, .int i_ruleCount, .int i_faultKind, .int i_faultPlace, .int (nI e8), .int i_token, .int (nI t8), .int i_value])), (t1, .inr (7, [.ref u1, .int (nI ln)])), (u1, .inl (cs 0, 200, .inl a_b))]) (wr := [(t2, .inr (5, [.ref n1])), (n1, .inl (cs 0, 6, .inl a_n)), (t3, .inl (cs 1, 6, .inl a_t))]) (rx := [(h0, .inr (4, [.ref t1, .ref t2, .ref t3, .int i_ruleCount, .int i_faultKind, .int i_faultPlace, .int (nI e_32), .int y_token_34, .int (nI t9x_33), .int y_value_35])), (t1, .inr (7, [.ref u1, .int (nI ln)])), (u1, .inl (cs 0, 200, .inl a_b))]) (pl := va_pl L f) (pl1 := va_pl L f) hP hD [0, 1, 2] [3, 4, 5] rfl rfl (by decide) (by decide) hk1 hFc hP1 hD1
      generalize H1 = H at hP hS ⊢
      have hP : va_P (dC, dI) vwCl ([(t2, .inr (5, [.ref n1])), (n1, .inl (cs 0, 6, .inl a_n)), (t3, .inl (cs 1, 6, .inl a_t)), (h0, .inr (4, [.ref t1, .ref t2, .ref t3, .int i_ruleCount, .int i_faultKind, .int i_faultPlace, .int (nI e_32), .int y_token_34, .int (nI t9x_33), .int y_value_35])), (t1, .inr (7, [.ref u1, .int (nI ln)])), (u1, .inl (cs 0, 200, .inl a_b))] ++ va_pl L f) H := hP
      have hD : va_D A ([(t2, .inr (5, [.ref n1])), (n1, .inl (cs 0, 6, .inl a_n)), (t3, .inl (cs 1, 6, .inl a_t)), (h0, .inr (4, [.ref t1, .ref t2, .ref t3, .int i_ruleCount, .int i_faultKind, .int i_faultPlace, .int (nI e_32), .int y_token_34, .int (nI t9x_33), .int y_value_35])), (t1, .inr (7, [.ref u1, .int (nI ln)])), (u1, .inl (cs 0, 200, .inl a_b))] ++ va_pl L f) := hD
      refine W.widen (k := 0) (n := 0) (Nat.le_of_ble_eq_true rfl) (Nat.le_of_ble_eq_true rfl) ?_
      refine lv_aload_n hx hb dX4_readRule_25 rfl (lv_at hl 1 rfl) ?_
      refine lv_iconst (v := 1) hx hb dX4_readRule_26 (by decide) ?_
      refine lv_iconst (v := 3) hx hb dX4_readRule_27 (by decide) ?_
      have hPc := hP.part (cx := [(h0, .inr (4, [.ref t1, .ref t2, .ref t3, .int i_ruleCount, .int i_faultKind, .int i_faultPlace, .int (nI e_32), .int y_token_34, .int (nI t9x_33), .int y_value_35]))]) [3] rfl
      have hDc := hD.part (cx := [(h0, .inr (4, [.ref t1, .ref t2, .ref t3, .int i_ruleCount, .int i_faultKind, .int i_faultPlace, .int (nI e_32), .int y_token_34, .int (nI t9x_33), .int y_value_35]))]) [3] (by decide) rfl
      have hKc := hK
      have hFc := va_freeP (cx := [(h0, .inr (4, [.ref t1, .ref t2, .ref t3, .int i_ruleCount, .int i_faultKind, .int i_faultPlace, .int (nI e_32), .int y_token_34, .int (nI t9x_33), .int y_value_35]))]) hD hS hA [3] rfl
      refine va_calli (va_runV (As := [.int 1, .int 3]) (rest := []) ⟨hx, hb, hml, hown, hts⟩ (s_X4_isNumberWithin l dC dI cs L ka ix ad n0 n6 n2 S f h0 t1 t2 t3 i_ruleCount i_faultKind i_faultPlace (nI e_32) y_token_34 (nI t9x_33) y_value_35 1 3 H.size hT) (cwV 2 hts gX4_readRule_X4_isNumberWithin rfl rfl rfl (by decide +kernel) ⟨Nat.le_of_ble_eq_true rfl, Nat.le_of_ble_eq_true rfl⟩) ⟨c_blind, va_recv hKc hPc (ci := 4) (q0 := 0) rfl rfl, c_pre hPc hKc hDc hN⟩ rfl rfl hl.1 rfl (lv_room (Nat.le_of_ble_eq_true rfl)) dX4_readRule_28 ⟨Nat.le_of_ble_eq_true rfl, Nat.le_of_ble_eq_true rfl⟩) hS (fun q _ h => hFc q h) hFc (fun r_38 u9 t9 H1 locs ht hvm hw hB hz1 hk1 hS => ?_)
      obtain ⟨fk_39, fp_40, hf_x_41, hP1, hK1, hD1⟩ := hB
      rw [ht] at hP1
      have hK1 := va_K.moved hvm.symm hK1
      obtain ⟨hP, hD⟩ := va_joinP (X := [(t2, .inr (5, [.ref n1])), (n1, .inl (cs 0, 6, .inl a_n)), (t3, .inl (cs 1, 6, .inl a_t)), (h0, .inr (4, [.ref t1, .ref t2, .ref t3, .int i_ruleCount, .int i_faultKind, .int i_faultPlace, .int (nI e_32), .int y_token_34, .int (nI t9x_33), .int y_value_35])), (t1, .inr (7, [.ref u1, .int (nI ln)])), (u1, .inl (cs 0, 200, .inl a_b))]) (cx := [(h0, .inr (4, [.ref t1, .ref t2, .ref t3, .int i_ruleCount, .int i_faultKind, .int i_faultPlace, .int (nI e_32), .int y_token_34, .int (nI t9x_33), .int y_value_35]))]) (wr := [(t2, .inr (5, [.ref n1])), (n1, .inl (cs 0, 6, .inl a_n)), (t3, .inl (cs 1, 6, .inl a_t)), (t1, .inr (7, [.ref u1, .int (nI ln)])), (u1, .inl (cs 0, 200, .inl a_b))]) (rx := [(h0, .inr (4, [.ref t1, .ref t2, .ref t3, .int i_ruleCount, .int fk_39, .int fp_40, .int (nI e_32), .int y_token_34, .int (nI t9x_33), .int y_value_35]))]) (pl := va_pl L f) (pl1 := va_pl L f) hP hD [3] [0, 1, 2, 4, 5] rfl rfl (by decide) (by decide) hk1 hFc hP1 hD1
      generalize H1 = H at hP hS ⊢
      have hP : va_P (dC, dI) vwCl ([(t2, .inr (5, [.ref n1])), (n1, .inl (cs 0, 6, .inl a_n)), (t3, .inl (cs 1, 6, .inl a_t)), (t1, .inr (7, [.ref u1, .int (nI ln)])), (u1, .inl (cs 0, 200, .inl a_b)), (h0, .inr (4, [.ref t1, .ref t2, .ref t3, .int i_ruleCount, .int fk_39, .int fp_40, .int (nI e_32), .int y_token_34, .int (nI t9x_33), .int y_value_35]))] ++ va_pl L f) H := hP
      have hD : va_D A ([(t2, .inr (5, [.ref n1])), (n1, .inl (cs 0, 6, .inl a_n)), (t3, .inl (cs 1, 6, .inl a_t)), (t1, .inr (7, [.ref u1, .int (nI ln)])), (u1, .inl (cs 0, 200, .inl a_b)), (h0, .inr (4, [.ref t1, .ref t2, .ref t3, .int i_ruleCount, .int fk_39, .int fp_40, .int (nI e_32), .int y_token_34, .int (nI t9x_33), .int y_value_35]))] ++ va_pl L f) := hD
      refine W.widen (k := 0) (n := 0) (Nat.le_of_ble_eq_true rfl) (Nat.le_of_ble_eq_true rfl) ?_
      try dsimp only at hw
      subst hw
      refine lv_if_ne (tgt := 36) hx hb dX4_readRule_31 (by decide) (fun c_42 => ?_) (fun c_42 => ?_)
      · refine lv_iconst (v := 3) hx hb dX4_readRule_36 (by decide) ?_
        refine lv_aload_n hx hb dX4_readRule_37 rfl (lv_at hl 1 rfl) ?_
        refine va_get (D := (dC, dI)) (ci := 4) (v := .int y_value_35) (C := RX4) (T := TX4) (N := 10) hx hb hts hin4 hown hK hP 5 rfl rfl 9 (by decide) (hts (.fieldLink RX4 52 "YamRiders$StatuteReader" "value" "I") (by decide +kernel)) (fun _ h9 => h9) rfl dX4_readRule_38 ?_
        obtain ⟨hq1, hq2, hq3, hq4⟩ := NW_y hf_x_41 c_42
        obtain ⟨k1, hk1, ek1⟩ : ∃ j : Nat, j < 4 ∧ y_value_35 = nI j := n_of (by have h9 := (va13.mp ⟨hq2, hq3⟩).1; omega) (by have h9 := (va13.mp ⟨hq2, hq3⟩).2; omega)
        have h1k1 : 1 ≤ k1 := by have h9 := (va13.mp ⟨hq2, hq3⟩).1; rw [ek1, nI_toInt (by omega)] at h9; omega
        refine lv_topi (fun y_43 ey_43 => ?_)
        obtain rfl : y_43 = nI k1 := ey_43.trans ek1
        refine lv_iadd hx hb dX4_readRule_41 ?_
        refine lv_iconst (v := 1) hx hb dX4_readRule_42 (by decide) ?_
        refine lv_isub hx hb dX4_readRule_43 ?_
        refine lv_topi (fun y_44 ey_44 => ?_)
        obtain rfl : y_44 = nI (2 + k1) := ey_44.trans (by rw [show (3 : Int32) = nI 3 from rfl, nI_add]; exact nI_s1 (by omega))
        refine lv_istore_n (lv' := [(1, .int (nI (2 + k1))), (0, .ref h0)]) hx hb dX4_readRule_44 rfl hl (by decide) rfl (fun ls hl => ?_)
        have hw73 : w7 = 3 := nI_inJ (n := 3) c_3 (by omega) (by decide)
        refine lv_aload_n hx hb dX4_readRule_45 rfl (lv_at hl 1 rfl) ?_
        refine lv_iload_n hx hb dX4_readRule_46 rfl (lv_at hl 0 rfl) ?_
        have hPc := hP.part (cx := [(h0, .inr (4, [.ref t1, .ref t2, .ref t3, .int i_ruleCount, .int fk_39, .int fp_40, .int (nI e_32), .int y_token_34, .int (nI t9x_33), .int y_value_35])), (t3, .inl (cs 1, 6, .inl a_t))]) [5, 2] rfl
        have hDc := hD.part (cx := [(h0, .inr (4, [.ref t1, .ref t2, .ref t3, .int i_ruleCount, .int fk_39, .int fp_40, .int (nI e_32), .int y_token_34, .int (nI t9x_33), .int y_value_35])), (t3, .inl (cs 1, 6, .inl a_t))]) [5, 2] (by decide) rfl
        have hKc := hK
        have hFc := va_freeP (cx := [(h0, .inr (4, [.ref t1, .ref t2, .ref t3, .int i_ruleCount, .int fk_39, .int fp_40, .int (nI e_32), .int y_token_34, .int (nI t9x_33), .int y_value_35])), (t3, .inl (cs 1, 6, .inl a_t))]) hD hS hA [5, 2] rfl
        refine va_calli (va_runV (As := [.int (nI (2 + k1))]) (rest := []) ⟨hx, hb, hml, hown, hts⟩ (s_X4_isFirstOf l dC dI cs L ka ix ad n0 n6 n2 S f h0 t1 t2 t3 i_ruleCount fk_39 fp_40 (nI e_32) y_token_34 (nI t9x_33) y_value_35 a_t (2 + k1) H.size hT (by omega)) (cwV 1 hts gX4_readRule_X4_isFirstOf rfl rfl rfl (by decide +kernel) ⟨Nat.le_of_ble_eq_true rfl, Nat.le_of_ble_eq_true rfl⟩) ⟨c_blind, va_recv hKc hPc (ci := 4) (q0 := 0) rfl rfl, c_pre hPc hKc hDc hN⟩ rfl rfl hl.1 rfl (lv_room (Nat.le_of_ble_eq_true rfl)) dX4_readRule_47 ⟨Nat.le_of_ble_eq_true rfl, Nat.le_of_ble_eq_true rfl⟩) hS (fun q _ h => hFc q h) hFc (fun r_45 u9 t9 H1 locs ht hvm hw hB hz1 hk1 hS => ?_)
        obtain ⟨fk_46, fp_47, f_t_48, hf_x_49, hP1, hK1, hD1⟩ := hB
        rw [ht] at hP1
        have hK1 := va_K.moved hvm.symm hK1
        obtain ⟨hP, hD⟩ := va_joinP (X := [(t2, .inr (5, [.ref n1])), (n1, .inl (cs 0, 6, .inl a_n)), (t3, .inl (cs 1, 6, .inl a_t)), (t1, .inr (7, [.ref u1, .int (nI ln)])), (u1, .inl (cs 0, 200, .inl a_b)), (h0, .inr (4, [.ref t1, .ref t2, .ref t3, .int i_ruleCount, .int fk_39, .int fp_40, .int (nI e_32), .int y_token_34, .int (nI t9x_33), .int y_value_35]))]) (cx := [(h0, .inr (4, [.ref t1, .ref t2, .ref t3, .int i_ruleCount, .int fk_39, .int fp_40, .int (nI e_32), .int y_token_34, .int (nI t9x_33), .int y_value_35])), (t3, .inl (cs 1, 6, .inl a_t))]) (wr := [(t2, .inr (5, [.ref n1])), (n1, .inl (cs 0, 6, .inl a_n)), (t1, .inr (7, [.ref u1, .int (nI ln)])), (u1, .inl (cs 0, 200, .inl a_b))]) (rx := [(h0, .inr (4, [.ref t1, .ref t2, .ref t3, .int i_ruleCount, .int fk_46, .int fp_47, .int (nI e_32), .int y_token_34, .int (nI t9x_33), .int y_value_35])), (t3, .inl (cs 1, 6, .inl f_t_48))]) (pl := va_pl L f) (pl1 := va_pl L f) hP hD [5, 2] [0, 1, 3, 4] rfl rfl (by decide) (by decide) hk1 hFc hP1 hD1
        generalize H1 = H at hP hS ⊢
        have hP : va_P (dC, dI) vwCl ([(t2, .inr (5, [.ref n1])), (n1, .inl (cs 0, 6, .inl a_n)), (t1, .inr (7, [.ref u1, .int (nI ln)])), (u1, .inl (cs 0, 200, .inl a_b)), (h0, .inr (4, [.ref t1, .ref t2, .ref t3, .int i_ruleCount, .int fk_46, .int fp_47, .int (nI e_32), .int y_token_34, .int (nI t9x_33), .int y_value_35])), (t3, .inl (cs 1, 6, .inl f_t_48))] ++ va_pl L f) H := hP
        have hD : va_D A ([(t2, .inr (5, [.ref n1])), (n1, .inl (cs 0, 6, .inl a_n)), (t1, .inr (7, [.ref u1, .int (nI ln)])), (u1, .inl (cs 0, 200, .inl a_b)), (h0, .inr (4, [.ref t1, .ref t2, .ref t3, .int i_ruleCount, .int fk_46, .int fp_47, .int (nI e_32), .int y_token_34, .int (nI t9x_33), .int y_value_35])), (t3, .inl (cs 1, 6, .inl f_t_48))] ++ va_pl L f) := hD
        refine W.widen (k := 0) (n := 0) (Nat.le_of_ble_eq_true rfl) (Nat.le_of_ble_eq_true rfl) ?_
        try dsimp only at hw
        subst hw
        refine lv_if_eq (tgt := 72) hx hb dX4_readRule_50 (by decide) (fun c_50 => ?_) (fun c_50 => ?_)
        · refine lv_iconst (v := 0) hx hb dX4_readRule_72 (by decide) ?_
          have hP9 := hP.part (cx := [(h0, .inr (4, [.ref t1, .ref t2, .ref t3, .int i_ruleCount, .int fk_46, .int fp_47, .int (nI e_32), .int y_token_34, .int (nI t9x_33), .int y_value_35])), (t1, .inr (7, [.ref u1, .int (nI ln)])), (u1, .inl (cs 0, 200, .inl a_b)), (t2, .inr (5, [.ref n1])), (n1, .inl (cs 0, 6, .inl a_n)), (t3, .inl (cs 1, 6, .inl f_t_48))]) [4, 2, 3, 0, 1, 5] rfl
          have hD9 := hD.part (cx := [(h0, .inr (4, [.ref t1, .ref t2, .ref t3, .int i_ruleCount, .int fk_46, .int fp_47, .int (nI e_32), .int y_token_34, .int (nI t9x_33), .int y_value_35])), (t1, .inr (7, [.ref u1, .int (nI ln)])), (u1, .inl (cs 0, 200, .inl a_b)), (t2, .inr (5, [.ref n1])), (n1, .inl (cs 0, 6, .inl a_n)), (t3, .inl (cs 1, 6, .inl f_t_48))]) [4, 2, 3, 0, 1, 5] (by decide) rfl
          have hK9 := hK.sub (tys' := []) [] rfl
          refine W.widen (k := 0) (n := 0) (Nat.le_of_ble_eq_true rfl) (Nat.le_of_ble_eq_true rfl) ?_
          exact W.zret (v := 0) hx hb hr rfl (fun t9 ht hW => ⟨⟨_, 0, rfl, rfl, e_32, t9x_33, y_token_34, y_value_35, fk_46, fp_47, a_n, f_t_48, ⟨by omega, by omega⟩, (RR_b hBt (HD_3 hTC (by have h9 := hW7; rw [nI_inJ (n := 3) c_3 (by omega) (by decide)] at h9; exact h9) hf_x_37 hq1 ek1 h1k1 (by omega)) (FO_n hf_x_49 c_50).1 (FO_n hf_x_49 c_50).2), by rw [ht]; exact hP9, va_K.moved hW.alike hK9, hD9⟩, hS.F ht⟩) hS.2.2 dX4_readRule_73
        · refine lv_aload_n hx hb dX4_readRule_53 rfl (lv_at hl 1 rfl) ?_
          refine lv_iload_n hx hb dX4_readRule_54 rfl (lv_at hl 0 rfl) ?_
          have hPc := hP.part (cx := [(h0, .inr (4, [.ref t1, .ref t2, .ref t3, .int i_ruleCount, .int fk_46, .int fp_47, .int (nI e_32), .int y_token_34, .int (nI t9x_33), .int y_value_35])), (t1, .inr (7, [.ref u1, .int (nI ln)])), (u1, .inl (cs 0, 200, .inl a_b)), (t2, .inr (5, [.ref n1])), (n1, .inl (cs 0, 6, .inl a_n))]) [4, 2, 3, 0, 1] rfl
          have hDc := hD.part (cx := [(h0, .inr (4, [.ref t1, .ref t2, .ref t3, .int i_ruleCount, .int fk_46, .int fp_47, .int (nI e_32), .int y_token_34, .int (nI t9x_33), .int y_value_35])), (t1, .inr (7, [.ref u1, .int (nI ln)])), (u1, .inl (cs 0, 200, .inl a_b)), (t2, .inr (5, [.ref n1])), (n1, .inl (cs 0, 6, .inl a_n))]) [4, 2, 3, 0, 1] (by decide) rfl
          have hKc := hK
          have hFc := va_freeP (cx := [(h0, .inr (4, [.ref t1, .ref t2, .ref t3, .int i_ruleCount, .int fk_46, .int fp_47, .int (nI e_32), .int y_token_34, .int (nI t9x_33), .int y_value_35])), (t1, .inr (7, [.ref u1, .int (nI ln)])), (u1, .inl (cs 0, 200, .inl a_b)), (t2, .inr (5, [.ref n1])), (n1, .inl (cs 0, 6, .inl a_n))]) hD hS hA [4, 2, 3, 0, 1] rfl
          refine va_calli (va_runV (As := [.int (nI (2 + k1))]) (rest := []) ⟨hx, hb, hml, hown, hts⟩ (s_X4_readNumberOf l dC dI cs L ka ix ad n0 n6 n2 S f h0 t1 t2 t3 i_ruleCount fk_46 fp_47 y_token_34 (nI t9x_33) y_value_35 u1 ln a_b n1 a_n e_32 (2 + k1) H.size hT (by omega) (by omega) hBt (by omega)) (cwV 1 hts gX4_readRule_X4_readNumberOf rfl rfl rfl (by decide +kernel) ⟨Nat.le_of_ble_eq_true rfl, Nat.le_of_ble_eq_true rfl⟩) ⟨c_blind, va_recv hKc hPc (ci := 4) (q0 := 0) rfl rfl, c_pre hPc hKc hDc hN⟩ rfl rfl hl.1 rfl (lv_room (Nat.le_of_ble_eq_true rfl)) dX4_readRule_55 ⟨Nat.le_of_ble_eq_true rfl, Nat.le_of_ble_eq_true rfl⟩) hS (fun q _ h => hFc q h) hFc (fun r_51 u9 t9 H1 locs ht hvm hw hB hz1 hk1 hS => ?_)
          obtain ⟨e_52, t9x_53, y_token_54, y_value_55, fk_56, fp_57, f_n_58, hf_x_59, hf_x_60, hP1, hK1, hD1⟩ := hB
          rw [ht] at hP1
          have hK1 := va_K.moved hvm.symm hK1
          obtain ⟨hP, hD⟩ := va_joinP (X := [(t2, .inr (5, [.ref n1])), (n1, .inl (cs 0, 6, .inl a_n)), (t1, .inr (7, [.ref u1, .int (nI ln)])), (u1, .inl (cs 0, 200, .inl a_b)), (h0, .inr (4, [.ref t1, .ref t2, .ref t3, .int i_ruleCount, .int fk_46, .int fp_47, .int (nI e_32), .int y_token_34, .int (nI t9x_33), .int y_value_35])), (t3, .inl (cs 1, 6, .inl f_t_48))]) (cx := [(h0, .inr (4, [.ref t1, .ref t2, .ref t3, .int i_ruleCount, .int fk_46, .int fp_47, .int (nI e_32), .int y_token_34, .int (nI t9x_33), .int y_value_35])), (t1, .inr (7, [.ref u1, .int (nI ln)])), (u1, .inl (cs 0, 200, .inl a_b)), (t2, .inr (5, [.ref n1])), (n1, .inl (cs 0, 6, .inl a_n))]) (wr := [(t3, .inl (cs 1, 6, .inl f_t_48))]) (rx := [(h0, .inr (4, [.ref t1, .ref t2, .ref t3, .int i_ruleCount, .int fk_56, .int fp_57, .int (nI e_52), .int y_token_54, .int (nI t9x_53), .int y_value_55])), (t1, .inr (7, [.ref u1, .int (nI ln)])), (u1, .inl (cs 0, 200, .inl a_b)), (t2, .inr (5, [.ref n1])), (n1, .inl (cs 0, 6, .inl f_n_58))]) (pl := va_pl L f) (pl1 := va_pl L f) hP hD [4, 2, 3, 0, 1] [5] rfl rfl (by decide) (by decide) hk1 hFc hP1 hD1
          generalize H1 = H at hP hS ⊢
          have hP : va_P (dC, dI) vwCl ([(t3, .inl (cs 1, 6, .inl f_t_48)), (h0, .inr (4, [.ref t1, .ref t2, .ref t3, .int i_ruleCount, .int fk_56, .int fp_57, .int (nI e_52), .int y_token_54, .int (nI t9x_53), .int y_value_55])), (t1, .inr (7, [.ref u1, .int (nI ln)])), (u1, .inl (cs 0, 200, .inl a_b)), (t2, .inr (5, [.ref n1])), (n1, .inl (cs 0, 6, .inl f_n_58))] ++ va_pl L f) H := hP
          have hD : va_D A ([(t3, .inl (cs 1, 6, .inl f_t_48)), (h0, .inr (4, [.ref t1, .ref t2, .ref t3, .int i_ruleCount, .int fk_56, .int fp_57, .int (nI e_52), .int y_token_54, .int (nI t9x_53), .int y_value_55])), (t1, .inr (7, [.ref u1, .int (nI ln)])), (u1, .inl (cs 0, 200, .inl a_b)), (t2, .inr (5, [.ref n1])), (n1, .inl (cs 0, 6, .inl f_n_58))] ++ va_pl L f) := hD
          refine W.widen (k := 0) (n := 0) (Nat.le_of_ble_eq_true rfl) (Nat.le_of_ble_eq_true rfl) ?_
          try dsimp only at hw
          subst hw
          refine lv_if_eq (tgt := 72) hx hb dX4_readRule_58 (by decide) (fun c_61 => ?_) (fun c_61 => ?_)
          · refine lv_iconst (v := 0) hx hb dX4_readRule_72 (by decide) ?_
            have hP9 := hP.part (cx := [(h0, .inr (4, [.ref t1, .ref t2, .ref t3, .int i_ruleCount, .int fk_56, .int fp_57, .int (nI e_52), .int y_token_54, .int (nI t9x_53), .int y_value_55])), (t1, .inr (7, [.ref u1, .int (nI ln)])), (u1, .inl (cs 0, 200, .inl a_b)), (t2, .inr (5, [.ref n1])), (n1, .inl (cs 0, 6, .inl f_n_58)), (t3, .inl (cs 1, 6, .inl f_t_48))]) [1, 2, 3, 4, 5, 0] rfl
            have hD9 := hD.part (cx := [(h0, .inr (4, [.ref t1, .ref t2, .ref t3, .int i_ruleCount, .int fk_56, .int fp_57, .int (nI e_52), .int y_token_54, .int (nI t9x_53), .int y_value_55])), (t1, .inr (7, [.ref u1, .int (nI ln)])), (u1, .inl (cs 0, 200, .inl a_b)), (t2, .inr (5, [.ref n1])), (n1, .inl (cs 0, 6, .inl f_n_58)), (t3, .inl (cs 1, 6, .inl f_t_48))]) [1, 2, 3, 4, 5, 0] (by decide) rfl
            have hK9 := hK.sub (tys' := []) [] rfl
            refine W.widen (k := 0) (n := 0) (Nat.le_of_ble_eq_true rfl) (Nat.le_of_ble_eq_true rfl) ?_
            exact W.zret (v := 0) hx hb hr rfl (fun t9 ht hW => ⟨⟨_, 0, rfl, rfl, e_52, t9x_53, y_token_54, y_value_55, fk_56, fp_57, f_n_58, f_t_48, ⟨by omega, by omega⟩, (RR_c hBt (HD_3 hTC (by have h9 := hW7; rw [nI_inJ (n := 3) c_3 (by omega) (by decide)] at h9; exact h9) hf_x_37 hq1 ek1 h1k1 (by omega)) hf_x_60 c_61), by rw [ht]; exact hP9, va_K.moved hW.alike hK9, hD9⟩, hS.F ht⟩) hS.2.2 dX4_readRule_73
          · refine lv_aload_n hx hb dX4_readRule_61 rfl (lv_at hl 1 rfl) ?_
            have hPc := hP.part (cx := [(h0, .inr (4, [.ref t1, .ref t2, .ref t3, .int i_ruleCount, .int fk_56, .int fp_57, .int (nI e_52), .int y_token_54, .int (nI t9x_53), .int y_value_55])), (t1, .inr (7, [.ref u1, .int (nI ln)])), (u1, .inl (cs 0, 200, .inl a_b))]) [1, 2, 3] rfl
            have hDc := hD.part (cx := [(h0, .inr (4, [.ref t1, .ref t2, .ref t3, .int i_ruleCount, .int fk_56, .int fp_57, .int (nI e_52), .int y_token_54, .int (nI t9x_53), .int y_value_55])), (t1, .inr (7, [.ref u1, .int (nI ln)])), (u1, .inl (cs 0, 200, .inl a_b))]) [1, 2, 3] (by decide) rfl
            have hKc := hK
            have hFc := va_freeP (cx := [(h0, .inr (4, [.ref t1, .ref t2, .ref t3, .int i_ruleCount, .int fk_56, .int fp_57, .int (nI e_52), .int y_token_54, .int (nI t9x_53), .int y_value_55])), (t1, .inr (7, [.ref u1, .int (nI ln)])), (u1, .inl (cs 0, 200, .inl a_b))]) hD hS hA [1, 2, 3] rfl
            refine va_calli (va_runV (As := []) (rest := []) ⟨hx, hb, hml, hown, hts⟩ (s_X4_readSemicolon l dC dI cs L ka ix ad n0 n6 n2 S f h0 t1 t2 t3 i_ruleCount fk_56 fp_57 y_token_54 (nI t9x_53) y_value_55 u1 ln a_b e_52 H.size hT (by omega) (by omega) hBt) (cwV 0 hts gX4_readRule_X4_readSemicolon rfl rfl rfl (by decide +kernel) ⟨Nat.le_of_ble_eq_true rfl, Nat.le_of_ble_eq_true rfl⟩) ⟨c_blind, va_recv hKc hPc (ci := 4) (q0 := 0) rfl rfl, c_pre hPc hKc hDc hN⟩ rfl rfl hl.1 rfl (lv_room (Nat.le_of_ble_eq_true rfl)) dX4_readRule_62 ⟨Nat.le_of_ble_eq_true rfl, Nat.le_of_ble_eq_true rfl⟩) hS (fun q _ h => hFc q h) hFc (fun r_62 u9 t9 H1 locs ht hvm hw hB hz1 hk1 hS => ?_)
            obtain ⟨e_63, t9x_64, y_token_65, y_value_66, fk_67, fp_68, hf_x_69, hf_x_70, hP1, hK1, hD1⟩ := hB
            rw [ht] at hP1
            have hK1 := va_K.moved hvm.symm hK1
            obtain ⟨hP, hD⟩ := va_joinP (X := [(t3, .inl (cs 1, 6, .inl f_t_48)), (h0, .inr (4, [.ref t1, .ref t2, .ref t3, .int i_ruleCount, .int fk_56, .int fp_57, .int (nI e_52), .int y_token_54, .int (nI t9x_53), .int y_value_55])), (t1, .inr (7, [.ref u1, .int (nI ln)])), (u1, .inl (cs 0, 200, .inl a_b)), (t2, .inr (5, [.ref n1])), (n1, .inl (cs 0, 6, .inl f_n_58))]) (cx := [(h0, .inr (4, [.ref t1, .ref t2, .ref t3, .int i_ruleCount, .int fk_56, .int fp_57, .int (nI e_52), .int y_token_54, .int (nI t9x_53), .int y_value_55])), (t1, .inr (7, [.ref u1, .int (nI ln)])), (u1, .inl (cs 0, 200, .inl a_b))]) (wr := [(t3, .inl (cs 1, 6, .inl f_t_48)), (t2, .inr (5, [.ref n1])), (n1, .inl (cs 0, 6, .inl f_n_58))]) (rx := [(h0, .inr (4, [.ref t1, .ref t2, .ref t3, .int i_ruleCount, .int fk_67, .int fp_68, .int (nI e_63), .int y_token_65, .int (nI t9x_64), .int y_value_66])), (t1, .inr (7, [.ref u1, .int (nI ln)])), (u1, .inl (cs 0, 200, .inl a_b))]) (pl := va_pl L f) (pl1 := va_pl L f) hP hD [1, 2, 3] [0, 4, 5] rfl rfl (by decide) (by decide) hk1 hFc hP1 hD1
            generalize H1 = H at hP hS ⊢
            have hP : va_P (dC, dI) vwCl ([(t3, .inl (cs 1, 6, .inl f_t_48)), (t2, .inr (5, [.ref n1])), (n1, .inl (cs 0, 6, .inl f_n_58)), (h0, .inr (4, [.ref t1, .ref t2, .ref t3, .int i_ruleCount, .int fk_67, .int fp_68, .int (nI e_63), .int y_token_65, .int (nI t9x_64), .int y_value_66])), (t1, .inr (7, [.ref u1, .int (nI ln)])), (u1, .inl (cs 0, 200, .inl a_b))] ++ va_pl L f) H := hP
            have hD : va_D A ([(t3, .inl (cs 1, 6, .inl f_t_48)), (t2, .inr (5, [.ref n1])), (n1, .inl (cs 0, 6, .inl f_n_58)), (h0, .inr (4, [.ref t1, .ref t2, .ref t3, .int i_ruleCount, .int fk_67, .int fp_68, .int (nI e_63), .int y_token_65, .int (nI t9x_64), .int y_value_66])), (t1, .inr (7, [.ref u1, .int (nI ln)])), (u1, .inl (cs 0, 200, .inl a_b))] ++ va_pl L f) := hD
            refine W.widen (k := 0) (n := 0) (Nat.le_of_ble_eq_true rfl) (Nat.le_of_ble_eq_true rfl) ?_
            try dsimp only at hw
            subst hw
            refine lv_if_eq (tgt := 72) hx hb dX4_readRule_65 (by decide) (fun c_71 => ?_) (fun c_71 => ?_)
            · refine lv_iconst (v := 0) hx hb dX4_readRule_72 (by decide) ?_
              have hP9 := hP.part (cx := [(h0, .inr (4, [.ref t1, .ref t2, .ref t3, .int i_ruleCount, .int fk_67, .int fp_68, .int (nI e_63), .int y_token_65, .int (nI t9x_64), .int y_value_66])), (t1, .inr (7, [.ref u1, .int (nI ln)])), (u1, .inl (cs 0, 200, .inl a_b)), (t2, .inr (5, [.ref n1])), (n1, .inl (cs 0, 6, .inl f_n_58)), (t3, .inl (cs 1, 6, .inl f_t_48))]) [3, 4, 5, 1, 2, 0] rfl
              have hD9 := hD.part (cx := [(h0, .inr (4, [.ref t1, .ref t2, .ref t3, .int i_ruleCount, .int fk_67, .int fp_68, .int (nI e_63), .int y_token_65, .int (nI t9x_64), .int y_value_66])), (t1, .inr (7, [.ref u1, .int (nI ln)])), (u1, .inl (cs 0, 200, .inl a_b)), (t2, .inr (5, [.ref n1])), (n1, .inl (cs 0, 6, .inl f_n_58)), (t3, .inl (cs 1, 6, .inl f_t_48))]) [3, 4, 5, 1, 2, 0] (by decide) rfl
              have hK9 := hK.sub (tys' := []) [] rfl
              refine W.widen (k := 0) (n := 0) (Nat.le_of_ble_eq_true rfl) (Nat.le_of_ble_eq_true rfl) ?_
              exact W.zret (v := 0) hx hb hr rfl (fun t9 ht hW => ⟨⟨_, 0, rfl, rfl, e_63, t9x_64, y_token_65, y_value_66, fk_67, fp_68, f_n_58, f_t_48, ⟨by omega, by omega⟩, (RR_d hBt (HD_3 hTC (by have h9 := hW7; rw [nI_inJ (n := 3) c_3 (by omega) (by decide)] at h9; exact h9) hf_x_37 hq1 ek1 h1k1 (by omega)) hf_x_60 c_61 hf_x_70 c_71), by rw [ht]; exact hP9, va_K.moved hW.alike hK9, hD9⟩, hS.F ht⟩) hS.2.2 dX4_readRule_73
            · refine lv_iconst (v := 1) hx hb dX4_readRule_68 (by decide) ?_
              refine lv_goto (tgt := 73) hx hb dX4_readRule_69 (by decide) ?_
              have hP9 := hP.part (cx := [(h0, .inr (4, [.ref t1, .ref t2, .ref t3, .int i_ruleCount, .int fk_67, .int fp_68, .int (nI e_63), .int y_token_65, .int (nI t9x_64), .int y_value_66])), (t1, .inr (7, [.ref u1, .int (nI ln)])), (u1, .inl (cs 0, 200, .inl a_b)), (t2, .inr (5, [.ref n1])), (n1, .inl (cs 0, 6, .inl f_n_58)), (t3, .inl (cs 1, 6, .inl f_t_48))]) [3, 4, 5, 1, 2, 0] rfl
              have hD9 := hD.part (cx := [(h0, .inr (4, [.ref t1, .ref t2, .ref t3, .int i_ruleCount, .int fk_67, .int fp_68, .int (nI e_63), .int y_token_65, .int (nI t9x_64), .int y_value_66])), (t1, .inr (7, [.ref u1, .int (nI ln)])), (u1, .inl (cs 0, 200, .inl a_b)), (t2, .inr (5, [.ref n1])), (n1, .inl (cs 0, 6, .inl f_n_58)), (t3, .inl (cs 1, 6, .inl f_t_48))]) [3, 4, 5, 1, 2, 0] (by decide) rfl
              have hK9 := hK.sub (tys' := []) [] rfl
              refine W.widen (k := 0) (n := 0) (Nat.le_of_ble_eq_true rfl) (Nat.le_of_ble_eq_true rfl) ?_
              exact W.zret (v := 1) hx hb hr rfl (fun t9 ht hW => ⟨⟨_, 1, rfl, rfl, e_63, t9x_64, y_token_65, y_value_66, fk_67, fp_68, f_n_58, f_t_48, ⟨by omega, by omega⟩, (RR_y hBt (HD_3 hTC (by have h9 := hW7; rw [nI_inJ (n := 3) c_3 (by omega) (by decide)] at h9; exact h9) hf_x_37 hq1 ek1 h1k1 (by omega)) (by have h9 := hf_x_49; rw [hq4] at h9; exact h9) c_50 hf_x_60 c_61 hf_x_70 c_71), by rw [ht]; exact hP9, va_K.moved hW.alike hK9, hD9⟩, hS.F ht⟩) hS.2.2 dX4_readRule_73
      · refine lv_iconst (v := 0) hx hb dX4_readRule_34 (by decide) ?_
        have hP9 := hP.part (cx := [(h0, .inr (4, [.ref t1, .ref t2, .ref t3, .int i_ruleCount, .int fk_39, .int fp_40, .int (nI e_32), .int y_token_34, .int (nI t9x_33), .int y_value_35])), (t1, .inr (7, [.ref u1, .int (nI ln)])), (u1, .inl (cs 0, 200, .inl a_b)), (t2, .inr (5, [.ref n1])), (n1, .inl (cs 0, 6, .inl a_n)), (t3, .inl (cs 1, 6, .inl a_t))]) [5, 3, 4, 0, 1, 2] rfl
        have hD9 := hD.part (cx := [(h0, .inr (4, [.ref t1, .ref t2, .ref t3, .int i_ruleCount, .int fk_39, .int fp_40, .int (nI e_32), .int y_token_34, .int (nI t9x_33), .int y_value_35])), (t1, .inr (7, [.ref u1, .int (nI ln)])), (u1, .inl (cs 0, 200, .inl a_b)), (t2, .inr (5, [.ref n1])), (n1, .inl (cs 0, 6, .inl a_n)), (t3, .inl (cs 1, 6, .inl a_t))]) [5, 3, 4, 0, 1, 2] (by decide) rfl
        have hK9 := hK.sub (tys' := []) [] rfl
        refine W.widen (k := 0) (n := 0) (Nat.le_of_ble_eq_true rfl) (Nat.le_of_ble_eq_true rfl) ?_
        exact W.zret (v := 0) hx hb hr rfl (fun t9 ht hW => ⟨⟨_, 0, rfl, rfl, e_32, t9x_33, y_token_34, y_value_35, fk_39, fp_40, a_n, a_t, ⟨by omega, by omega⟩, (RR_h (NW_n hf_x_41 c_42).2 (HN_2 (Uq_C hBt) hTC (by have h9 := hW7; rw [nI_inJ (n := 3) c_3 (by omega) (by decide)] at h9; exact h9) hf_x_37 (fun z => (NW_n hf_x_41 c_42).1 ⟨z.1, va13.mpr z.2⟩))), by rw [ht]; exact hP9, va_K.moved hW.alike hK9, hD9⟩, hS.F ht⟩) hS.2.2 dX4_readRule_35
  · refine W.eq (g2 := F0 m 4 ls [.int (-1)]) rfl ?_
    refine lv_istore_n (lv' := [(1, .int (-1)), (0, .ref h0)]) hx hb dX4_readRule_4 rfl hl (by decide) rfl (fun ls hl => ?_)
    refine lv_iload_n hx hb dX4_readRule_5 rfl (lv_at hl 0 rfl) ?_
    refine lv_iconst (v := (-1)) hx hb dX4_readRule_6 (by decide) ?_
    refine lv_icmp_ne (tgt := 16) hx hb dX4_readRule_7 (by decide) (fun c_72 => by first | exact absurd c_72 (by decide) | exact absurd (by decide) c_72) (fun _ => ?_)
    refine lv_aload_n hx hb dX4_readRule_10 rfl (lv_at hl 1 rfl) ?_
    refine lv_iconst (v := 2) hx hb dX4_readRule_11 (by decide) ?_
    have hPc := hP.part (cx := [(h0, .inr (4, [.ref t1, .ref t2, .ref t3, .int i_ruleCount, .int i_faultKind, .int i_faultPlace, .int (nI e8), .int i_token, .int (nI t8), .int i_value]))]) [0] rfl
    have hDc := hD.part (cx := [(h0, .inr (4, [.ref t1, .ref t2, .ref t3, .int i_ruleCount, .int i_faultKind, .int i_faultPlace, .int (nI e8), .int i_token, .int (nI t8), .int i_value]))]) [0] (by decide) rfl
    have hKc := hK
    have hFc := va_freeP (cx := [(h0, .inr (4, [.ref t1, .ref t2, .ref t3, .int i_ruleCount, .int i_faultKind, .int i_faultPlace, .int (nI e8), .int i_token, .int (nI t8), .int i_value]))]) hD hS hA [0] rfl
    refine va_calli (va_runV (As := [.int 2]) (rest := []) ⟨hx, hb, hml, hown, hts⟩ (s_X4_stopAtToken l dC dI cs L ka ix ad n0 n6 n2 S f h0 t1 t2 t3 i_ruleCount i_faultKind i_faultPlace (nI e8) i_token (nI t8) i_value 2 s.heap.size hT (by decide)) (cwV 1 hts gX4_readRule_X4_stopAtToken rfl rfl rfl (by decide +kernel) ⟨Nat.le_of_ble_eq_true rfl, Nat.le_of_ble_eq_true rfl⟩) ⟨c_blind, va_recv hKc hPc (ci := 4) (q0 := 0) rfl rfl, c_pre hPc hKc hDc hN⟩ rfl rfl hl.1 rfl (lv_room (Nat.le_of_ble_eq_true rfl)) dX4_readRule_12 ⟨Nat.le_of_ble_eq_true rfl, Nat.le_of_ble_eq_true rfl⟩) hS (fun q _ h => hFc q h) hFc (fun r_73 u9 t9 H1 locs ht hvm hw hB hz1 hk1 hS => ?_)
    obtain ⟨fk_74, hf_x_75, hP1, hK1, hD1⟩ := hB
    rw [ht] at hP1
    have hK1 := va_K.moved hvm.symm hK1
    obtain ⟨hP, hD⟩ := va_joinP (X := [(h0, .inr (4, [.ref t1, .ref t2, .ref t3, .int i_ruleCount, .int i_faultKind, .int i_faultPlace, .int (nI e8), .int i_token, .int (nI t8), .int i_value])), (t1, .inr (7, [.ref u1, .int (nI ln)])), (u1, .inl (cs 0, 200, .inl a_b)), (t2, .inr (5, [.ref n1])), (n1, .inl (cs 0, 6, .inl a_n)), (t3, .inl (cs 1, 6, .inl a_t))]) (cx := [(h0, .inr (4, [.ref t1, .ref t2, .ref t3, .int i_ruleCount, .int i_faultKind, .int i_faultPlace, .int (nI e8), .int i_token, .int (nI t8), .int i_value]))]) (wr := [(t1, .inr (7, [.ref u1, .int (nI ln)])), (u1, .inl (cs 0, 200, .inl a_b)), (t2, .inr (5, [.ref n1])), (n1, .inl (cs 0, 6, .inl a_n)), (t3, .inl (cs 1, 6, .inl a_t))]) (rx := [(h0, .inr (4, [.ref t1, .ref t2, .ref t3, .int i_ruleCount, .int fk_74, .int (nI t8), .int (nI e8), .int i_token, .int (nI t8), .int i_value]))]) (pl := va_pl L f) (pl1 := va_pl L f) hP hD [0] [1, 2, 3, 4, 5] rfl rfl (by decide) (by decide) hk1 hFc hP1 hD1
    generalize H1 = H at hP hS ⊢
    have hP : va_P (dC, dI) vwCl ([(t1, .inr (7, [.ref u1, .int (nI ln)])), (u1, .inl (cs 0, 200, .inl a_b)), (t2, .inr (5, [.ref n1])), (n1, .inl (cs 0, 6, .inl a_n)), (t3, .inl (cs 1, 6, .inl a_t)), (h0, .inr (4, [.ref t1, .ref t2, .ref t3, .int i_ruleCount, .int fk_74, .int (nI t8), .int (nI e8), .int i_token, .int (nI t8), .int i_value]))] ++ va_pl L f) H := hP
    have hD : va_D A ([(t1, .inr (7, [.ref u1, .int (nI ln)])), (u1, .inl (cs 0, 200, .inl a_b)), (t2, .inr (5, [.ref n1])), (n1, .inl (cs 0, 6, .inl a_n)), (t3, .inl (cs 1, 6, .inl a_t)), (h0, .inr (4, [.ref t1, .ref t2, .ref t3, .int i_ruleCount, .int fk_74, .int (nI t8), .int (nI e8), .int i_token, .int (nI t8), .int i_value]))] ++ va_pl L f) := hD
    refine W.widen (k := 0) (n := 0) (Nat.le_of_ble_eq_true rfl) (Nat.le_of_ble_eq_true rfl) ?_
    try dsimp only at hw
    subst hw
    have hP9 := hP.part (cx := [(h0, .inr (4, [.ref t1, .ref t2, .ref t3, .int i_ruleCount, .int fk_74, .int (nI t8), .int (nI e8), .int i_token, .int (nI t8), .int i_value])), (t1, .inr (7, [.ref u1, .int (nI ln)])), (u1, .inl (cs 0, 200, .inl a_b)), (t2, .inr (5, [.ref n1])), (n1, .inl (cs 0, 6, .inl a_n)), (t3, .inl (cs 1, 6, .inl a_t))]) [5, 0, 1, 2, 3, 4] rfl
    have hD9 := hD.part (cx := [(h0, .inr (4, [.ref t1, .ref t2, .ref t3, .int i_ruleCount, .int fk_74, .int (nI t8), .int (nI e8), .int i_token, .int (nI t8), .int i_value])), (t1, .inr (7, [.ref u1, .int (nI ln)])), (u1, .inl (cs 0, 200, .inl a_b)), (t2, .inr (5, [.ref n1])), (n1, .inl (cs 0, 6, .inl a_n)), (t3, .inl (cs 1, 6, .inl a_t))]) [5, 0, 1, 2, 3, 4] (by decide) rfl
    have hK9 := hK.sub (tys' := []) [] rfl
    refine W.widen (k := 0) (n := 0) (Nat.le_of_ble_eq_true rfl) (Nat.le_of_ble_eq_true rfl) ?_
    exact W.zret (v := 0) hx hb hr rfl (fun t9 ht hW => ⟨⟨_, 0, rfl, rfl, e8, t8, i_token, i_value, fk_74, (nI t8), a_n, a_t, ⟨by omega, by omega⟩, (RR_h hf_x_75 (HN_1 (Uq_C hBt) hTC hN7)), by rw [ht]; exact hP9, va_K.moved hW.alike hK9, hD9⟩, hS.F ht⟩) hS.2.2 dX4_readRule_15

def RTi (P : Nat → Int32) (k t e : Nat) (tk va fk : Int32) (f z : Nat → Int32) : Prop := fk = 0 ∧ ∃ i, PRc (TC P) P k i z f ∧ TC P i tk t e va
theorem RT_s {P : Nat → Int32} {k i t e : Nat} {f z f2 z2 : Nat → Int32} {fk rv tk va fk2 : Int32} (h0 : fk = 0) (h : PRc (TC P) P k i z f) (r : RRf P i z f fk rv tk t e va fk2 f2 z2) (c : ¬ rv = 0) : RTi P (k + 1) t e tk va fk2 f2 z2 := by
  rcases r with ⟨_, a, kk, x, i4, b1, b2, b3, b4⟩ | ⟨a, _⟩
  · rw [b2, b3]
    exact ⟨a.trans h0, i4, PRc_s h b1, b4⟩
  · exact absurd a c
theorem RT_n {P : Nat → Int32} {n k i t e t2 e2 : Nat} {f z f2 z2 f1 : Nat → Int32} {fk rv tk va fk2 tk2 va2 : Int32} (hB : Byt P n) (h : PRc (TC P) P k i z f) (hT : TC P i tk2 t2 e2 va2) (r : RRf P i z f fk rv tk t e va fk2 f2 z2) (c : rv = 0) (c2 : ¬ tk2 = 0) : STx (TC P) P fk2 f1 := by
  rcases r with ⟨a, _⟩ | ⟨_, a, b⟩
  · rw [c] at a; exact absurd a (by decide)
  · exact STx_n h (no_E (Uq_C hB) hT c2) b a
theorem RT_y {P : Nat → Int32} {k t e : Nat} {f z : Nat → Int32} {fk tk va : Int32} (h : RTi P k t e tk va fk f z) (c : tk = 0) : STx (TC P) P fk f := by
  obtain ⟨h0, i, h1, h2⟩ := h
  subst c; subst h0
  exact STx_y h1 ⟨t, e, va, h2⟩ (fun _ _ => rfl)
theorem RT_6 {P : Nat → Int32} {k t e : Nat} {f z : Nat → Int32} {fk tk va : Int32} (h : RTi P k t e tk va fk f z) : k ≤ 6 := by
  obtain ⟨_, i, h1, _⟩ := h
  exact PRc_6 h1

set_option maxHeartbeats 4000000 in
set_option maxRecDepth 100000 in
theorem s_X4_readText (l : Launch) (dC : Nat → ClassId) (dI : Nat → Nat → Nat) (cs : Nat → ClassId) (L : List Nat) (ka : Nat → Nat) (ix : Nat → Nat) (ad : Nat → Nat → Nat) (n0 : Nat) (n6 : Nat) (n2 : Nat) (S : Nat → Nat → Nat → Int32) (f : Nat → va_E) (adK : Nat → Nat) (adV : Nat → Nat) (h0 : Nat) (t1 : Nat) (t2 : Nat) (t3 : Nat) (i_ruleCount : Int32) (i_faultKind : Int32) (i_faultPlace : Int32) (i_place : Int32) (i_token : Int32) (i_tokenPlace : Int32) (i_value : Int32) (u1 : Nat) (ln : Nat) (a_b : Nat → Int32) (n1 : Nat) (a_n : Nat → Int32) (a_t : Nat → Int32) (sz : Nat) (hT : tB L ka ix ad cs n0 n6 n2 S f) (hln : ln ≤ 200) (hBt : Byt (PBy a_b ln) ln) (hpl : i_place = 0) (hfk : i_faultKind = 0) (hat : ∀ j, j < 6 → a_t j = 0) (han : ∀ j, j < 6 → a_n j = v00 j) : Met l yX4_readText wsX4_readText ({ frames := 7, cells := 0, slots := 0, locals := 154 }) (va_Pc [.ref h0] (fun U => cP dC dI ([(h0, .inr (4, [.ref t1, .ref t2, .ref t3, .int i_ruleCount, .int i_faultKind, .int i_faultPlace, .int i_place, .int i_token, .int i_tokenPlace, .int i_value])), (t1, .inr (7, [.ref u1, .int (nI ln)])), (u1, .inl (cs 0, 200, .inl a_b)), (t2, .inr (5, [.ref n1])), (n1, .inl (cs 0, 6, .inl a_n)), (t3, .inl (cs 1, 6, .inl a_t))] ++ va_pl L f) (tyC cs) sz U ∧ EV adK adV (va_A ([(h0, .inr (4, [.ref t1, .ref t2, .ref t3, .int i_ruleCount, .int i_faultKind, .int i_faultPlace, .int i_place, .int i_token, .int i_tokenPlace, .int i_value])), (t1, .inr (7, [.ref u1, .int (nI ln)])), (u1, .inl (cs 0, 200, .inl a_b)), (t2, .inr (5, [.ref n1])), (n1, .inl (cs 0, 6, .inl a_n)), (t3, .inl (cs 1, 6, .inl a_t))] ++ va_pl L f) sz) U U.heap ∧ SR adK U)) (va_Qv (fun (_ : Unit) => True) (fun (_ : Unit) t9 => ∃ (y_ruleCount : Int32) (y_faultKind : Int32) (y_faultPlace : Int32) (y_place : Int32) (y_token : Int32) (y_tokenPlace : Int32) (y_value : Int32) (f_n : Nat → Int32) (f_t : Nat → Int32), (STx (TC (PBy a_b ln)) (PBy a_b ln) y_faultKind f_n) ∧ cQ dC dI ([(h0, .inr (4, [.ref t1, .ref t2, .ref t3, .int y_ruleCount, .int y_faultKind, .int y_faultPlace, .int y_place, .int y_token, .int y_tokenPlace, .int y_value])), (t1, .inr (7, [.ref u1, .int (nI ln)])), (u1, .inl (cs 0, 200, .inl a_b)), (t2, .inr (5, [.ref n1])), (n1, .inl (cs 0, 6, .inl f_n)), (t3, .inl (cs 1, 6, .inl f_t))] ++ va_pl L f) [] (va_A ([(h0, .inr (4, [.ref t1, .ref t2, .ref t3, .int i_ruleCount, .int i_faultKind, .int i_faultPlace, .int i_place, .int i_token, .int i_tokenPlace, .int i_value])), (t1, .inr (7, [.ref u1, .int (nI ln)])), (u1, .inl (cs 0, 200, .inl a_b)), (t2, .inr (5, [.ref n1])), (n1, .inl (cs 0, 6, .inl a_n)), (t3, .inl (cs 1, 6, .inl a_t))] ++ va_pl L f) sz) t9) (va_A ([(h0, .inr (4, [.ref t1, .ref t2, .ref t3, .int i_ruleCount, .int i_faultKind, .int i_faultPlace, .int i_place, .int i_token, .int i_tokenPlace, .int i_value])), (t1, .inr (7, [.ref u1, .int (nI ln)])), (u1, .inl (cs 0, 200, .inl a_b)), (t2, .inr (5, [.ref n1])), (n1, .inl (cs 0, 6, .inl a_n)), (t3, .inl (cs 1, 6, .inl a_t))] ++ va_pl L f) sz)) 0 0 (va_A ([(h0, .inr (4, [.ref t1, .ref t2, .ref t3, .int i_ruleCount, .int i_faultKind, .int i_faultPlace, .int i_place, .int i_token, .int i_tokenPlace, .int i_value])), (t1, .inr (7, [.ref u1, .int (nI ln)])), (u1, .inl (cs 0, 200, .inl a_b)), (t2, .inr (5, [.ref n1])), (n1, .inl (cs 0, 6, .inl a_n)), (t3, .inl (cs 1, 6, .inl a_t))] ++ va_pl L f) sz) := by
  refine Met.ofW (cc := cX4_readText) (maxL := 2) (ret := none) (by decide) rfl ?_
  intro p e s m args below meth c s₁ B hml hv
  obtain ⟨rfl, ⟨hsz, hP, hK, hD0, hN⟩, hE, hR⟩ := hv
  have hx := B.exec
  have hb := B.bytes
  have hr := B.returns
  have hts := atoms_spec (ws := wsX4_readText) B.pre
  have hown : s.vm.findClass RX4 = some m.cls := findClass_of_methodNamed B.named
  have hlocks := B.notSynchronized
  subst hsz
  have hin4 : ∀ w ∈ u_ws RX4 TX4 10, w ∈ wsX4_readText := by decide +kernel
  have hD := hD0.self (sz := s.heap.size)
  generalize hAe : va_A ([(h0, .inr (4, [.ref t1, .ref t2, .ref t3, .int i_ruleCount, .int i_faultKind, .int i_faultPlace, .int i_place, .int i_token, .int i_tokenPlace, .int i_value])), (t1, .inr (7, [.ref u1, .int (nI ln)])), (u1, .inl (cs 0, 200, .inl a_b)), (t2, .inr (5, [.ref n1])), (n1, .inl (cs 0, 6, .inl a_n)), (t3, .inl (cs 1, 6, .inl a_t))] ++ va_pl L f) s.heap.size = A at hD hE ⊢
  have hA : ∀ q : Nat, s.heap.size ≤ q → A q := fun q h => by rw [← hAe]; exact Or.inr h
  have hS : va_S A s.heap s.heap [] := va_S.rf
  have hP : va_P (dC, dI) vwCl ([(h0, .inr (4, [.ref t1, .ref t2, .ref t3, .int i_ruleCount, .int i_faultKind, .int i_faultPlace, .int i_place, .int i_token, .int i_tokenPlace, .int i_value])), (t1, .inr (7, [.ref u1, .int (nI ln)])), (u1, .inl (cs 0, 200, .inl a_b)), (t2, .inr (5, [.ref n1])), (n1, .inl (cs 0, 6, .inl a_n)), (t3, .inl (cs 1, 6, .inl a_t))] ++ va_pl L f) s.heap := hP
  have hl := lv_entry ([.ref h0]) (n := 2) (Nat.le_of_ble_eq_true rfl)
  rw [lg_entry_eq]
  generalize (lg_sl ([.ref h0]) ++ List.replicate (2 - (lg_sl ([.ref h0])).length) Slot.unset).toArray = ls at hl ⊢
  have hl : lv_has ls 2 [(0, .ref h0)] := hl
  obtain rfl : i_place = nI 0 := hpl.trans nI_0.symm
  refine lv_aload_n hx hb dX4_readText_0 rfl (lv_at hl 0 rfl) ?_
  have hPc := hP.part (cx := [(h0, .inr (4, [.ref t1, .ref t2, .ref t3, .int i_ruleCount, .int i_faultKind, .int i_faultPlace, .int (nI 0), .int i_token, .int i_tokenPlace, .int i_value])), (t1, .inr (7, [.ref u1, .int (nI ln)])), (u1, .inl (cs 0, 200, .inl a_b))]) [0, 1, 2] rfl
  have hDc := hD.part (cx := [(h0, .inr (4, [.ref t1, .ref t2, .ref t3, .int i_ruleCount, .int i_faultKind, .int i_faultPlace, .int (nI 0), .int i_token, .int i_tokenPlace, .int i_value])), (t1, .inr (7, [.ref u1, .int (nI ln)])), (u1, .inl (cs 0, 200, .inl a_b))]) [0, 1, 2] (by decide) rfl
  have hKc := hK
  have hFc := va_freeP (cx := [(h0, .inr (4, [.ref t1, .ref t2, .ref t3, .int i_ruleCount, .int i_faultKind, .int i_faultPlace, .int (nI 0), .int i_token, .int i_tokenPlace, .int i_value])), (t1, .inr (7, [.ref u1, .int (nI ln)])), (u1, .inl (cs 0, 200, .inl a_b))]) hD hS hA [0, 1, 2] rfl
  refine va_callv (va_runV (As := []) (rest := []) ⟨hx, hb, hml, hown, hts⟩ (s_X4_readToken l dC dI cs L ka ix ad n0 n6 n2 S f h0 t1 t2 t3 i_ruleCount i_faultKind i_faultPlace i_token i_tokenPlace i_value u1 ln a_b 0 s.heap.size hT (by omega) (by omega) hBt) (cwV 0 hts gX4_readText_X4_readToken rfl rfl rfl (by decide +kernel) ⟨Nat.le_of_ble_eq_true rfl, Nat.le_of_ble_eq_true rfl⟩) ⟨c_blind, va_recv hKc hPc (ci := 4) (q0 := 0) rfl rfl, c_pre hPc hKc hDc hN⟩ rfl rfl hl.1 rfl (lv_room (Nat.le_of_ble_eq_true rfl)) dX4_readText_1 ⟨Nat.le_of_ble_eq_true rfl, Nat.le_of_ble_eq_true rfl⟩) hS (fun q _ h => hFc q h) hFc (fun u9 t9 H1 locs ht hvm hw hB hz1 hk1 hS => ?_)
  obtain ⟨e_2, t9x_3, y_token_4, y_value_5, hf_x_6, hf_x_7, hP1, hK1, hD1⟩ := hB
  rw [ht] at hP1
  have hK1 := va_K.moved hvm.symm hK1
  obtain ⟨hP, hD⟩ := va_joinP (X := [(h0, .inr (4, [.ref t1, .ref t2, .ref t3, .int i_ruleCount, .int i_faultKind, .int i_faultPlace, .int (nI 0), .int i_token, .int i_tokenPlace, .int i_value])), (t1, .inr (7, [.ref u1, .int (nI ln)])), (u1, .inl (cs 0, 200, .inl a_b)), (t2, .inr (5, [.ref n1])), (n1, .inl (cs 0, 6, .inl a_n)), (t3, .inl (cs 1, 6, .inl a_t))]) (cx := [(h0, .inr (4, [.ref t1, .ref t2, .ref t3, .int i_ruleCount, .int i_faultKind, .int i_faultPlace, .int (nI 0), .int i_token, .int i_tokenPlace, .int i_value])), (t1, .inr (7, [.ref u1, .int (nI ln)])), (u1, .inl (cs 0, 200, .inl a_b))]) (wr := [(t2, .inr (5, [.ref n1])), (n1, .inl (cs 0, 6, .inl a_n)), (t3, .inl (cs 1, 6, .inl a_t))]) (rx := [(h0, .inr (4, [.ref t1, .ref t2, .ref t3, .int i_ruleCount, .int i_faultKind, .int i_faultPlace, .int (nI e_2), .int y_token_4, .int (nI t9x_3), .int y_value_5])), (t1, .inr (7, [.ref u1, .int (nI ln)])), (u1, .inl (cs 0, 200, .inl a_b))]) (pl := va_pl L f) (pl1 := va_pl L f) hP hD [0, 1, 2] [3, 4, 5] rfl rfl (by decide) (by decide) hk1 hFc hP1 hD1
  generalize H1 = H at hP hS ⊢
  have hP : va_P (dC, dI) vwCl ([(t2, .inr (5, [.ref n1])), (n1, .inl (cs 0, 6, .inl a_n)), (t3, .inl (cs 1, 6, .inl a_t)), (h0, .inr (4, [.ref t1, .ref t2, .ref t3, .int i_ruleCount, .int i_faultKind, .int i_faultPlace, .int (nI e_2), .int y_token_4, .int (nI t9x_3), .int y_value_5])), (t1, .inr (7, [.ref u1, .int (nI ln)])), (u1, .inl (cs 0, 200, .inl a_b))] ++ va_pl L f) H := hP
  have hD : va_D A ([(t2, .inr (5, [.ref n1])), (n1, .inl (cs 0, 6, .inl a_n)), (t3, .inl (cs 1, 6, .inl a_t)), (h0, .inr (4, [.ref t1, .ref t2, .ref t3, .int i_ruleCount, .int i_faultKind, .int i_faultPlace, .int (nI e_2), .int y_token_4, .int (nI t9x_3), .int y_value_5])), (t1, .inr (7, [.ref u1, .int (nI ln)])), (u1, .inl (cs 0, 200, .inl a_b))] ++ va_pl L f) := hD
  refine W.widen (k := 0) (n := 0) (Nat.le_of_ble_eq_true rfl) (Nat.le_of_ble_eq_true rfl) ?_
  refine lv_iconst (v := 0) hx hb dX4_readText_4 (by decide) ?_
  refine lv_istore_n (lv' := [(1, .int 0), (0, .ref h0)]) hx hb dX4_readText_5 rfl hl (by decide) rfl (fun ls hl => ?_)
  have HL : ∀ (n k : Nat) (zr : Int32) (zk : Int32) (zf : Int32) (zp : Int32) (zv : Int32) (e7 : Nat) (t7 : Nat) (g_n : Nat → Int32) (g_t : Nat → Int32), k ≤ 7 → 7 + 1 ≤ k + n → (e7 ≤ ln ∧ t7 ≤ e7) → (RTi (PBy a_b ln) k t7 e7 zk zv zf g_n g_t) → ∀ (H : Heap) (locs : List Loc), va_P (dC, dI) vwCl ([(h0, .inr (4, [.ref t1, .ref t2, .ref t3, .int zr, .int zf, .int zp, .int (nI e7), .int zk, .int (nI t7), .int zv])), (t1, .inr (7, [.ref u1, .int (nI ln)])), (u1, .inl (cs 0, 200, .inl a_b)), (t2, .inr (5, [.ref n1])), (n1, .inl (cs 0, 6, .inl g_n)), (t3, .inl (cs 1, 6, .inl g_t))] ++ va_pl L f) H → va_D A ([(h0, .inr (4, [.ref t1, .ref t2, .ref t3, .int zr, .int zf, .int zp, .int (nI e7), .int zk, .int (nI t7), .int zv])), (t1, .inr (7, [.ref u1, .int (nI ln)])), (u1, .inl (cs 0, 200, .inl a_b)), (t2, .inr (5, [.ref n1])), (n1, .inl (cs 0, 6, .inl g_n)), (t3, .inl (cs 1, 6, .inl g_t))] ++ va_pl L f) → va_S A s.heap H locs → ∀ ls : Array Slot, lv_has ls 2 [(0, .ref h0), (1, .int (nI k))] → W p l e (headSpec wsX4_readText ({ frames := 7, cells := 0, slots := 0, locals := 154 })).room s m ([.ref h0]).toArray below meth c H locs 0 0 (MQ below (va_Qv (fun (_ : Unit) => True) (fun (_ : Unit) t9 => ∃ (y_ruleCount : Int32) (y_faultKind : Int32) (y_faultPlace : Int32) (y_place : Int32) (y_token : Int32) (y_tokenPlace : Int32) (y_value : Int32) (f_n : Nat → Int32) (f_t : Nat → Int32), (STx (TC (PBy a_b ln)) (PBy a_b ln) y_faultKind f_n) ∧ cQ dC dI ([(h0, .inr (4, [.ref t1, .ref t2, .ref t3, .int y_ruleCount, .int y_faultKind, .int y_faultPlace, .int y_place, .int y_token, .int y_tokenPlace, .int y_value])), (t1, .inr (7, [.ref u1, .int (nI ln)])), (u1, .inl (cs 0, 200, .inl a_b)), (t2, .inr (5, [.ref n1])), (n1, .inl (cs 0, 6, .inl f_n)), (t3, .inl (cs 1, 6, .inl f_t))] ++ va_pl L f) [] A t9) A) ([.ref h0]).toArray s 0 0 A) (F0 m 6 ls []) := by
    intro n
    induction n with
    | zero => intro k zr zk zf zp zv e7 t7 g_n g_t h1 h2; exact absurd h2 (by omega)
    | succ n ih =>
      intro k zr zk zf zp zv e7 t7 g_n g_t hk hn hb7 hRT H locs hP hD hS ls hl
      refine lv_iload_n hx hb dX4_readText_6 rfl (lv_at hl 1 rfl) ?_
      refine lv_bipush (v := 6) hx hb dX4_readText_7 (by decide) ?_
      refine lv_icmp_gt (tgt := 43) hx hb dX4_readText_9 (by decide) (fun c_8 => ?_) (fun c_8 => ?_)
      · have hP9 := hP.part (cx := [(h0, .inr (4, [.ref t1, .ref t2, .ref t3, .int zr, .int zf, .int zp, .int (nI e7), .int zk, .int (nI t7), .int zv])), (t1, .inr (7, [.ref u1, .int (nI ln)])), (u1, .inl (cs 0, 200, .inl a_b)), (t2, .inr (5, [.ref n1])), (n1, .inl (cs 0, 6, .inl g_n)), (t3, .inl (cs 1, 6, .inl g_t))]) [0, 1, 2, 3, 4, 5] rfl
        have hD9 := hD.part (cx := [(h0, .inr (4, [.ref t1, .ref t2, .ref t3, .int zr, .int zf, .int zp, .int (nI e7), .int zk, .int (nI t7), .int zv])), (t1, .inr (7, [.ref u1, .int (nI ln)])), (u1, .inl (cs 0, 200, .inl a_b)), (t2, .inr (5, [.ref n1])), (n1, .inl (cs 0, 6, .inl g_n)), (t3, .inl (cs 1, 6, .inl g_t))]) [0, 1, 2, 3, 4, 5] (by decide) rfl
        have hK9 := hK.sub (tys' := []) [] rfl
        refine W.widen (k := 0) (n := 0) (Nat.le_of_ble_eq_true rfl) (Nat.le_of_ble_eq_true rfl) ?_
        exact W.vret hx hb hr (fun t9 ht hW => ⟨⟨(), rfl, trivial, zr, zf, zp, (nI e7), zk, (nI t7), zv, g_n, g_t, (absurd (RT_6 hRT) (by have h9 := (nI_ltI (a := 6) (b := k) (by decide) (by omega)).mp c_8; omega)), by rw [ht]; exact hP9, va_K.moved hW.alike hK9, hD9⟩, hS.F ht⟩) hS.2.2 dX4_readText_43
      · refine lv_aload_n hx hb dX4_readText_12 rfl (lv_at hl 0 rfl) ?_
        refine va_get (D := (dC, dI)) (ci := 4) (v := .int zk) (C := RX4) (T := TX4) (N := 10) hx hb hts hin4 hown hK hP 0 rfl rfl 7 (by decide) (hts (.fieldLink RX4 29 "YamRiders$StatuteReader" "token" "I") (by decide +kernel)) (fun _ h9 => h9) rfl dX4_readText_13 ?_
        refine lv_if_eq (tgt := 26) hx hb dX4_readText_16 (by decide) (fun c_9 => ?_) (fun c_9 => ?_)
        · have hP9 := hP.part (cx := [(h0, .inr (4, [.ref t1, .ref t2, .ref t3, .int zr, .int zf, .int zp, .int (nI e7), .int zk, .int (nI t7), .int zv])), (t1, .inr (7, [.ref u1, .int (nI ln)])), (u1, .inl (cs 0, 200, .inl a_b)), (t2, .inr (5, [.ref n1])), (n1, .inl (cs 0, 6, .inl g_n)), (t3, .inl (cs 1, 6, .inl g_t))]) [0, 1, 2, 3, 4, 5] rfl
          have hD9 := hD.part (cx := [(h0, .inr (4, [.ref t1, .ref t2, .ref t3, .int zr, .int zf, .int zp, .int (nI e7), .int zk, .int (nI t7), .int zv])), (t1, .inr (7, [.ref u1, .int (nI ln)])), (u1, .inl (cs 0, 200, .inl a_b)), (t2, .inr (5, [.ref n1])), (n1, .inl (cs 0, 6, .inl g_n)), (t3, .inl (cs 1, 6, .inl g_t))]) [0, 1, 2, 3, 4, 5] (by decide) rfl
          have hK9 := hK.sub (tys' := []) [] rfl
          refine W.widen (k := 0) (n := 0) (Nat.le_of_ble_eq_true rfl) (Nat.le_of_ble_eq_true rfl) ?_
          exact W.vret hx hb hr (fun t9 ht hW => ⟨⟨(), rfl, trivial, zr, zf, zp, (nI e7), zk, (nI t7), zv, g_n, g_t, (RT_y hRT c_9), by rw [ht]; exact hP9, va_K.moved hW.alike hK9, hD9⟩, hS.F ht⟩) hS.2.2 dX4_readText_26
        · obtain ⟨hf7, i7, hPR7, hTC7⟩ := hRT
          refine lv_aload_n hx hb dX4_readText_19 rfl (lv_at hl 0 rfl) ?_
          have hPc := hP.part (cx := [(h0, .inr (4, [.ref t1, .ref t2, .ref t3, .int zr, .int zf, .int zp, .int (nI e7), .int zk, .int (nI t7), .int zv])), (t1, .inr (7, [.ref u1, .int (nI ln)])), (u1, .inl (cs 0, 200, .inl a_b)), (t2, .inr (5, [.ref n1])), (n1, .inl (cs 0, 6, .inl g_n)), (t3, .inl (cs 1, 6, .inl g_t))]) [0, 1, 2, 3, 4, 5] rfl
          have hDc := hD.part (cx := [(h0, .inr (4, [.ref t1, .ref t2, .ref t3, .int zr, .int zf, .int zp, .int (nI e7), .int zk, .int (nI t7), .int zv])), (t1, .inr (7, [.ref u1, .int (nI ln)])), (u1, .inl (cs 0, 200, .inl a_b)), (t2, .inr (5, [.ref n1])), (n1, .inl (cs 0, 6, .inl g_n)), (t3, .inl (cs 1, 6, .inl g_t))]) [0, 1, 2, 3, 4, 5] (by decide) rfl
          have hKc := hK
          have hFc := va_freeP (cx := [(h0, .inr (4, [.ref t1, .ref t2, .ref t3, .int zr, .int zf, .int zp, .int (nI e7), .int zk, .int (nI t7), .int zv])), (t1, .inr (7, [.ref u1, .int (nI ln)])), (u1, .inl (cs 0, 200, .inl a_b)), (t2, .inr (5, [.ref n1])), (n1, .inl (cs 0, 6, .inl g_n)), (t3, .inl (cs 1, 6, .inl g_t))]) hD hS hA [0, 1, 2, 3, 4, 5] rfl
          refine va_calli (va_runV (As := []) (rest := []) ⟨hx, hb, hml, hown, hts⟩ (s_X4_readRule l dC dI cs L ka ix ad n0 n6 n2 S f adK adV h0 t1 t2 t3 zr zf zp zk zv u1 ln a_b n1 g_n g_t e7 t7 i7 H.size hT (by omega) ⟨by omega, by omega⟩ hBt hTC7) (cwV 0 hts gX4_readText_X4_readRule rfl rfl rfl (by decide +kernel) ⟨Nat.le_of_ble_eq_true rfl, Nat.le_of_ble_eq_true rfl⟩) ⟨e_blind, va_recv hKc hPc (ci := 4) (q0 := 0) rfl rfl, e_pre hPc hKc hDc hN (hE.kept hS.2.1) hFc hR⟩ rfl rfl hl.1 rfl (lv_room (Nat.le_of_ble_eq_true rfl)) dX4_readText_20 ⟨Nat.le_of_ble_eq_true rfl, Nat.le_of_ble_eq_true rfl⟩) hS (fun q _ h => hFc q h) hFc (fun r_10 u9 t9 H1 locs ht hvm hw hB hz1 hk1 hS => ?_)
          obtain ⟨e_11, t9x_12, y_token_13, y_value_14, fk_15, fp_16, f_n_17, f_t_18, hf_x_19, hf_x_20, hP1, hK1, hD1⟩ := hB
          rw [ht] at hP1
          have hK1 := va_K.moved hvm.symm hK1
          obtain ⟨hP, hD⟩ := va_joinP (X := [(h0, .inr (4, [.ref t1, .ref t2, .ref t3, .int zr, .int zf, .int zp, .int (nI e7), .int zk, .int (nI t7), .int zv])), (t1, .inr (7, [.ref u1, .int (nI ln)])), (u1, .inl (cs 0, 200, .inl a_b)), (t2, .inr (5, [.ref n1])), (n1, .inl (cs 0, 6, .inl g_n)), (t3, .inl (cs 1, 6, .inl g_t))]) (cx := [(h0, .inr (4, [.ref t1, .ref t2, .ref t3, .int zr, .int zf, .int zp, .int (nI e7), .int zk, .int (nI t7), .int zv])), (t1, .inr (7, [.ref u1, .int (nI ln)])), (u1, .inl (cs 0, 200, .inl a_b)), (t2, .inr (5, [.ref n1])), (n1, .inl (cs 0, 6, .inl g_n)), (t3, .inl (cs 1, 6, .inl g_t))]) (wr := []) (rx := [(h0, .inr (4, [.ref t1, .ref t2, .ref t3, .int zr, .int fk_15, .int fp_16, .int (nI e_11), .int y_token_13, .int (nI t9x_12), .int y_value_14])), (t1, .inr (7, [.ref u1, .int (nI ln)])), (u1, .inl (cs 0, 200, .inl a_b)), (t2, .inr (5, [.ref n1])), (n1, .inl (cs 0, 6, .inl f_n_17)), (t3, .inl (cs 1, 6, .inl f_t_18))]) (pl := va_pl L f) (pl1 := va_pl L f) hP hD [0, 1, 2, 3, 4, 5] [] rfl rfl (by decide) (by decide) hk1 hFc hP1 hD1
          generalize H1 = H at hP hS ⊢
          have hP : va_P (dC, dI) vwCl ([(h0, .inr (4, [.ref t1, .ref t2, .ref t3, .int zr, .int fk_15, .int fp_16, .int (nI e_11), .int y_token_13, .int (nI t9x_12), .int y_value_14])), (t1, .inr (7, [.ref u1, .int (nI ln)])), (u1, .inl (cs 0, 200, .inl a_b)), (t2, .inr (5, [.ref n1])), (n1, .inl (cs 0, 6, .inl f_n_17)), (t3, .inl (cs 1, 6, .inl f_t_18))] ++ va_pl L f) H := hP
          have hD : va_D A ([(h0, .inr (4, [.ref t1, .ref t2, .ref t3, .int zr, .int fk_15, .int fp_16, .int (nI e_11), .int y_token_13, .int (nI t9x_12), .int y_value_14])), (t1, .inr (7, [.ref u1, .int (nI ln)])), (u1, .inl (cs 0, 200, .inl a_b)), (t2, .inr (5, [.ref n1])), (n1, .inl (cs 0, 6, .inl f_n_17)), (t3, .inl (cs 1, 6, .inl f_t_18))] ++ va_pl L f) := hD
          refine W.widen (k := 0) (n := 0) (Nat.le_of_ble_eq_true rfl) (Nat.le_of_ble_eq_true rfl) ?_
          try dsimp only at hw
          subst hw
          refine lv_if_ne (tgt := 27) hx hb dX4_readText_23 (by decide) (fun c_21 => ?_) (fun c_21 => ?_)
          · refine lv_aload_n hx hb dX4_readText_27 rfl (lv_at hl 0 rfl) ?_
            refine lv_dup hx hb dX4_readText_28 rfl ?_
            refine va_get (D := (dC, dI)) (ci := 4) (v := .int zr) (C := RX4) (T := TX4) (N := 10) hx hb hts hin4 hown hK hP 0 rfl rfl 3 (by decide) (hts (.fieldLink RX4 37 "YamRiders$StatuteReader" "ruleCount" "I") (by decide +kernel)) (fun _ h9 => h9) rfl dX4_readText_29 ?_
            refine lv_iconst (v := 1) hx hb dX4_readText_32 (by decide) ?_
            refine lv_iadd hx hb dX4_readText_33 ?_
            refine va_put (D := (dC, dI)) (ci := 4) (v := .int (zr + 1)) (ty := (tyX4 3)) (C := RX4) (T := TX4) (N := 10) hx hb hts hin4 tyX4 tyX4_ok nmX4 hown hK hP hD hS 0 rfl rfl 3 (by decide) (hts (.fieldLink RX4 37 "YamRiders$StatuteReader" "ruleCount" "I") (by decide +kernel)) (fun _ h9 => h9) rfl (by decide +kernel) rfl rfl (Nat.le_of_ble_eq_true rfl) dX4_readText_34 (fun H locs hP hD hS => ?_)
            have hP : va_P (dC, dI) vwCl ([(h0, .inr (4, [.ref t1, .ref t2, .ref t3, .int (zr + 1), .int fk_15, .int fp_16, .int (nI e_11), .int y_token_13, .int (nI t9x_12), .int y_value_14])), (t1, .inr (7, [.ref u1, .int (nI ln)])), (u1, .inl (cs 0, 200, .inl a_b)), (t2, .inr (5, [.ref n1])), (n1, .inl (cs 0, 6, .inl f_n_17)), (t3, .inl (cs 1, 6, .inl f_t_18))] ++ va_pl L f) H := hP
            have hD : va_D A ([(h0, .inr (4, [.ref t1, .ref t2, .ref t3, .int (zr + 1), .int fk_15, .int fp_16, .int (nI e_11), .int y_token_13, .int (nI t9x_12), .int y_value_14])), (t1, .inr (7, [.ref u1, .int (nI ln)])), (u1, .inl (cs 0, 200, .inl a_b)), (t2, .inr (5, [.ref n1])), (n1, .inl (cs 0, 6, .inl f_n_17)), (t3, .inl (cs 1, 6, .inl f_t_18))] ++ va_pl L f) := hD
            refine lv_iinc (v := nI (k + 1)) (lv' := [(1, .int (nI (k + 1))), (0, .ref h0)]) hx hb dX4_readText_37 hl (k := 1) rfl (by exact (nI_1 k)) (by decide) rfl (fun ls hl => ?_)
            refine lv_goto (tgt := 6) hx hb dX4_readText_40 (by decide) ?_
            have hk6 : k ≤ 6 := gt_n (n := 6) c_8 (by decide) (by omega)
            exact ih (k + 1) (zr + 1) y_token_13 fk_15 fp_16 y_value_14 e_11 t9x_12 f_n_17 f_t_18 (by omega) (by omega) ⟨by omega, by omega⟩ (RT_s hf7 hPR7 hf_x_20 c_21) _ _ (hP.part (cx := _) [0, 1, 2, 3, 4, 5] rfl) (hD.part (cx := _) [0, 1, 2, 3, 4, 5] (by decide) rfl) hS ls (lv_sub hl [1, 0] rfl)
          · have hP9 := hP.part (cx := [(h0, .inr (4, [.ref t1, .ref t2, .ref t3, .int zr, .int fk_15, .int fp_16, .int (nI e_11), .int y_token_13, .int (nI t9x_12), .int y_value_14])), (t1, .inr (7, [.ref u1, .int (nI ln)])), (u1, .inl (cs 0, 200, .inl a_b)), (t2, .inr (5, [.ref n1])), (n1, .inl (cs 0, 6, .inl f_n_17)), (t3, .inl (cs 1, 6, .inl f_t_18))]) [0, 1, 2, 3, 4, 5] rfl
            have hD9 := hD.part (cx := [(h0, .inr (4, [.ref t1, .ref t2, .ref t3, .int zr, .int fk_15, .int fp_16, .int (nI e_11), .int y_token_13, .int (nI t9x_12), .int y_value_14])), (t1, .inr (7, [.ref u1, .int (nI ln)])), (u1, .inl (cs 0, 200, .inl a_b)), (t2, .inr (5, [.ref n1])), (n1, .inl (cs 0, 6, .inl f_n_17)), (t3, .inl (cs 1, 6, .inl f_t_18))]) [0, 1, 2, 3, 4, 5] (by decide) rfl
            have hK9 := hK.sub (tys' := []) [] rfl
            refine W.widen (k := 0) (n := 0) (Nat.le_of_ble_eq_true rfl) (Nat.le_of_ble_eq_true rfl) ?_
            exact W.vret hx hb hr (fun t9 ht hW => ⟨⟨(), rfl, trivial, zr, fk_15, fp_16, (nI e_11), y_token_13, (nI t9x_12), y_value_14, f_n_17, f_t_18, (RT_n hBt hPR7 hTC7 hf_x_20 c_21 c_9), by rw [ht]; exact hP9, va_K.moved hW.alike hK9, hD9⟩, hS.F ht⟩) hS.2.2 dX4_readText_26
  exact HL 8 0 i_ruleCount y_token_4 i_faultKind i_faultPlace y_value_5 e_2 t9x_3 a_n a_t (by omega) (by omega) ⟨by omega, by omega⟩ ⟨hfk, 0, ⟨g00, v00, ⟨rfl, rfl, rfl⟩, hat, han⟩, hf_x_7⟩ _ _ (hP.part (cx := _) [3, 4, 5, 0, 1, 2] rfl) (hD.part (cx := _) [3, 4, 5, 0, 1, 2] (by decide) rfl) hS ls (lv_sub hl [1, 0] rfl)
