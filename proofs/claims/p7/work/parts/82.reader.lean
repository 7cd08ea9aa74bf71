set_option maxHeartbeats 4000000 in
set_option maxRecDepth 100000 in
theorem e_X4_isBlank (l : Launch) (dC : Nat → ClassId) (dI : Nat → Nat → Nat) (cs : Nat → ClassId) (L : List Nat) (ka : Nat → Nat) (ix : Nat → Nat) (ad : Nat → Nat → Nat) (n0 : Nat) (n6 : Nat) (n2 : Nat) (S : Nat → Nat → Nat → Int32) (f : Nat → va_E) (p0 : Int32) (sz : Nat) (hT : tB L ka ix ad cs n0 n6 n2 S f) : Met l yX4_isBlank wsX4_isBlank ({ frames := 0, cells := 0, slots := 0, locals := 0 }) (va_Pc [.int p0] (cP dC dI ([] ++ va_pl L f) (tyC cs) sz)) (vp_Si (fun r => r = 0 ∨ r = 1)) 0 0 (fun _ => False) := by
  refine Met.ofW (cc := cX4_isBlank) (maxL := 1) (ret := (some .boolean)) (by decide) rfl ?_
  intro p e s m args below meth c s₁ B hml hv
  obtain ⟨rfl, hsz, hP, hK, hD0, hN⟩ := hv
  have hx := B.exec
  have hb := B.bytes
  have hr := B.returns
  have hts := atoms_spec (ws := wsX4_isBlank) B.pre
  have hown : s.vm.findClass RX4 = some m.cls := findClass_of_methodNamed B.named
  have hlocks := B.notSynchronized
  subst hsz
  have hD := hD0
  have hP : va_P (dC, dI) vwCl ([] ++ va_pl L f) s.heap := hP
  have hl := lv_entry ([.int p0]) (n := 1) (Nat.le_of_ble_eq_true rfl)
  rw [lg_entry_eq]
  generalize (lg_sl ([.int p0]) ++ List.replicate (1 - (lg_sl ([.int p0])).length) Slot.unset).toArray = ls at hl ⊢
  have hl : lv_has ls 1 [(0, .int p0)] := hl
  refine lv_iload_n hx hb dX4_isBlank_0 rfl (lv_at hl 0 rfl) ?_
  refine lv_bipush (v := 32) hx hb dX4_isBlank_1 (by decide) ?_
  refine lv_icmp_eq (tgt := 12) hx hb dX4_isBlank_3 (by decide) (fun c_1 => ?_) (fun c_1 => ?_)
  · refine lv_iconst (v := 1) hx hb dX4_isBlank_12 (by decide) ?_
    refine lv_goto (tgt := 17) hx hb dX4_isBlank_13 (by decide) ?_
    exact W.zret (v := 1) hx hb hr rfl (fun t9 ht hW => ⟨_, rfl, (Or.inr rfl), ht⟩) (fun q h => nomatch h) dX4_isBlank_17
  · refine lv_iload_n hx hb dX4_isBlank_6 rfl (lv_at hl 0 rfl) ?_
    refine lv_bipush (v := 10) hx hb dX4_isBlank_7 (by decide) ?_
    refine lv_icmp_ne (tgt := 16) hx hb dX4_isBlank_9 (by decide) (fun c_2 => ?_) (fun c_2 => ?_)
    · refine lv_iconst (v := 0) hx hb dX4_isBlank_16 (by decide) ?_
      exact W.zret (v := 0) hx hb hr rfl (fun t9 ht hW => ⟨_, rfl, (Or.inl rfl), ht⟩) (fun q h => nomatch h) dX4_isBlank_17
    · refine lv_iconst (v := 1) hx hb dX4_isBlank_12 (by decide) ?_
      refine lv_goto (tgt := 17) hx hb dX4_isBlank_13 (by decide) ?_
      exact W.zret (v := 1) hx hb hr rfl (fun t9 ht hW => ⟨_, rfl, (Or.inr rfl), ht⟩) (fun q h => nomatch h) dX4_isBlank_17

set_option maxHeartbeats 4000000 in
set_option maxRecDepth 100000 in
theorem e_X4_isSmallLetter (l : Launch) (dC : Nat → ClassId) (dI : Nat → Nat → Nat) (cs : Nat → ClassId) (L : List Nat) (ka : Nat → Nat) (ix : Nat → Nat) (ad : Nat → Nat → Nat) (n0 : Nat) (n6 : Nat) (n2 : Nat) (S : Nat → Nat → Nat → Int32) (f : Nat → va_E) (p0 : Int32) (sz : Nat) (hT : tB L ka ix ad cs n0 n6 n2 S f) : Met l yX4_isSmallLetter wsX4_isSmallLetter ({ frames := 0, cells := 0, slots := 0, locals := 0 }) (va_Pc [.int p0] (cP dC dI ([] ++ va_pl L f) (tyC cs) sz)) (vp_Si (fun r => r = 0 ∨ r = 1)) 0 0 (fun _ => False) := by
  refine Met.ofW (cc := cX4_isSmallLetter) (maxL := 1) (ret := (some .boolean)) (by decide) rfl ?_
  intro p e s m args below meth c s₁ B hml hv
  obtain ⟨rfl, hsz, hP, hK, hD0, hN⟩ := hv
  have hx := B.exec
  have hb := B.bytes
  have hr := B.returns
  have hts := atoms_spec (ws := wsX4_isSmallLetter) B.pre
  have hown : s.vm.findClass RX4 = some m.cls := findClass_of_methodNamed B.named
  have hlocks := B.notSynchronized
  subst hsz
  have hD := hD0
  have hP : va_P (dC, dI) vwCl ([] ++ va_pl L f) s.heap := hP
  have hl := lv_entry ([.int p0]) (n := 1) (Nat.le_of_ble_eq_true rfl)
  rw [lg_entry_eq]
  generalize (lg_sl ([.int p0]) ++ List.replicate (1 - (lg_sl ([.int p0])).length) Slot.unset).toArray = ls at hl ⊢
  have hl : lv_has ls 1 [(0, .int p0)] := hl
  refine lv_iload_n hx hb dX4_isSmallLetter_0 rfl (lv_at hl 0 rfl) ?_
  refine lv_bipush (v := 97) hx hb dX4_isSmallLetter_1 (by decide) ?_
  refine lv_icmp_lt (tgt := 16) hx hb dX4_isSmallLetter_3 (by decide) (fun c_1 => ?_) (fun c_1 => ?_)
  · refine lv_iconst (v := 0) hx hb dX4_isSmallLetter_16 (by decide) ?_
    exact W.zret (v := 0) hx hb hr rfl (fun t9 ht hW => ⟨_, rfl, (Or.inl rfl), ht⟩) (fun q h => nomatch h) dX4_isSmallLetter_17
  · refine lv_iload_n hx hb dX4_isSmallLetter_6 rfl (lv_at hl 0 rfl) ?_
    refine lv_bipush (v := 122) hx hb dX4_isSmallLetter_7 (by decide) ?_
    refine lv_icmp_gt (tgt := 16) hx hb dX4_isSmallLetter_9 (by decide) (fun c_2 => ?_) (fun c_2 => ?_)
    · refine lv_iconst (v := 0) hx hb dX4_isSmallLetter_16 (by decide) ?_
      exact W.zret (v := 0) hx hb hr rfl (fun t9 ht hW => ⟨_, rfl, (Or.inl rfl), ht⟩) (fun q h => nomatch h) dX4_isSmallLetter_17
    · refine lv_iconst (v := 1) hx hb dX4_isSmallLetter_12 (by decide) ?_
      refine lv_goto (tgt := 17) hx hb dX4_isSmallLetter_13 (by decide) ?_
      exact W.zret (v := 1) hx hb hr rfl (fun t9 ht hW => ⟨_, rfl, (Or.inr rfl), ht⟩) (fun q h => nomatch h) dX4_isSmallLetter_17

set_option maxHeartbeats 4000000 in
set_option maxRecDepth 100000 in
theorem e_X4_isDigit (l : Launch) (dC : Nat → ClassId) (dI : Nat → Nat → Nat) (cs : Nat → ClassId) (L : List Nat) (ka : Nat → Nat) (ix : Nat → Nat) (ad : Nat → Nat → Nat) (n0 : Nat) (n6 : Nat) (n2 : Nat) (S : Nat → Nat → Nat → Int32) (f : Nat → va_E) (p0 : Int32) (sz : Nat) (hT : tB L ka ix ad cs n0 n6 n2 S f) : Met l yX4_isDigit wsX4_isDigit ({ frames := 0, cells := 0, slots := 0, locals := 0 }) (va_Pc [.int p0] (cP dC dI ([] ++ va_pl L f) (tyC cs) sz)) (vp_Si (fun r => r = 0 ∨ r = 1)) 0 0 (fun _ => False) := by
  refine Met.ofW (cc := cX4_isDigit) (maxL := 1) (ret := (some .boolean)) (by decide) rfl ?_
  intro p e s m args below meth c s₁ B hml hv
  obtain ⟨rfl, hsz, hP, hK, hD0, hN⟩ := hv
  have hx := B.exec
  have hb := B.bytes
  have hr := B.returns
  have hts := atoms_spec (ws := wsX4_isDigit) B.pre
  have hown : s.vm.findClass RX4 = some m.cls := findClass_of_methodNamed B.named
  have hlocks := B.notSynchronized
  subst hsz
  have hD := hD0
  have hP : va_P (dC, dI) vwCl ([] ++ va_pl L f) s.heap := hP
  have hl := lv_entry ([.int p0]) (n := 1) (Nat.le_of_ble_eq_true rfl)
  rw [lg_entry_eq]
  generalize (lg_sl ([.int p0]) ++ List.replicate (1 - (lg_sl ([.int p0])).length) Slot.unset).toArray = ls at hl ⊢
  have hl : lv_has ls 1 [(0, .int p0)] := hl
  refine lv_iload_n hx hb dX4_isDigit_0 rfl (lv_at hl 0 rfl) ?_
  refine lv_bipush (v := 48) hx hb dX4_isDigit_1 (by decide) ?_
  refine lv_icmp_lt (tgt := 16) hx hb dX4_isDigit_3 (by decide) (fun c_1 => ?_) (fun c_1 => ?_)
  · refine lv_iconst (v := 0) hx hb dX4_isDigit_16 (by decide) ?_
    exact W.zret (v := 0) hx hb hr rfl (fun t9 ht hW => ⟨_, rfl, (Or.inl rfl), ht⟩) (fun q h => nomatch h) dX4_isDigit_17
  · refine lv_iload_n hx hb dX4_isDigit_6 rfl (lv_at hl 0 rfl) ?_
    refine lv_bipush (v := 57) hx hb dX4_isDigit_7 (by decide) ?_
    refine lv_icmp_gt (tgt := 16) hx hb dX4_isDigit_9 (by decide) (fun c_2 => ?_) (fun c_2 => ?_)
    · refine lv_iconst (v := 0) hx hb dX4_isDigit_16 (by decide) ?_
      exact W.zret (v := 0) hx hb hr rfl (fun t9 ht hW => ⟨_, rfl, (Or.inl rfl), ht⟩) (fun q h => nomatch h) dX4_isDigit_17
    · refine lv_iconst (v := 1) hx hb dX4_isDigit_12 (by decide) ?_
      refine lv_goto (tgt := 17) hx hb dX4_isDigit_13 (by decide) ?_
      exact W.zret (v := 1) hx hb hr rfl (fun t9 ht hW => ⟨_, rfl, (Or.inr rfl), ht⟩) (fun q h => nomatch h) dX4_isDigit_17

set_option maxHeartbeats 4000000 in
set_option maxRecDepth 100000 in
theorem e_X4_isLetterOrDigit (l : Launch) (dC : Nat → ClassId) (dI : Nat → Nat → Nat) (cs : Nat → ClassId) (L : List Nat) (ka : Nat → Nat) (ix : Nat → Nat) (ad : Nat → Nat → Nat) (n0 : Nat) (n6 : Nat) (n2 : Nat) (S : Nat → Nat → Nat → Int32) (f : Nat → va_E) (p0 : Int32) (sz : Nat) (hT : tB L ka ix ad cs n0 n6 n2 S f) : Met l yX4_isLetterOrDigit wsX4_isLetterOrDigit ({ frames := 0, cells := 0, slots := 0, locals := 0 }) (va_Pc [.int p0] (cP dC dI ([] ++ va_pl L f) (tyC cs) sz)) (vp_Si (fun r => r = 0 ∨ r = 1)) 0 0 (fun _ => False) := by
  refine Met.ofW (cc := cX4_isLetterOrDigit) (maxL := 1) (ret := (some .boolean)) (by decide) rfl ?_
  intro p e s m args below meth c s₁ B hml hv
  obtain ⟨rfl, hsz, hP, hK, hD0, hN⟩ := hv
  have hx := B.exec
  have hb := B.bytes
  have hr := B.returns
  have hts := atoms_spec (ws := wsX4_isLetterOrDigit) B.pre
  have hown : s.vm.findClass RX4 = some m.cls := findClass_of_methodNamed B.named
  have hlocks := B.notSynchronized
  subst hsz
  have hD := hD0
  have hP : va_P (dC, dI) vwCl ([] ++ va_pl L f) s.heap := hP
  have hl := lv_entry ([.int p0]) (n := 1) (Nat.le_of_ble_eq_true rfl)
  rw [lg_entry_eq]
  generalize (lg_sl ([.int p0]) ++ List.replicate (1 - (lg_sl ([.int p0])).length) Slot.unset).toArray = ls at hl ⊢
  have hl : lv_has ls 1 [(0, .int p0)] := hl
  refine lv_iload_n hx hb dX4_isLetterOrDigit_0 rfl (lv_at hl 0 rfl) ?_
  refine lv_bipush (v := 97) hx hb dX4_isLetterOrDigit_1 (by decide) ?_
  refine lv_icmp_lt (tgt := 12) hx hb dX4_isLetterOrDigit_3 (by decide) (fun c_1 => ?_) (fun c_1 => ?_)
  · refine lv_iload_n hx hb dX4_isLetterOrDigit_12 rfl (lv_at hl 0 rfl) ?_
    refine lv_bipush (v := 65) hx hb dX4_isLetterOrDigit_13 (by decide) ?_
    refine lv_icmp_lt (tgt := 24) hx hb dX4_isLetterOrDigit_15 (by decide) (fun c_2 => ?_) (fun c_2 => ?_)
    · refine lv_iload_n hx hb dX4_isLetterOrDigit_24 rfl (lv_at hl 0 rfl) ?_
      refine lv_bipush (v := 48) hx hb dX4_isLetterOrDigit_25 (by decide) ?_
      refine lv_icmp_lt (tgt := 40) hx hb dX4_isLetterOrDigit_27 (by decide) (fun c_3 => ?_) (fun c_3 => ?_)
      · refine lv_iconst (v := 0) hx hb dX4_isLetterOrDigit_40 (by decide) ?_
        exact W.zret (v := 0) hx hb hr rfl (fun t9 ht hW => ⟨_, rfl, (Or.inl rfl), ht⟩) (fun q h => nomatch h) dX4_isLetterOrDigit_41
      · refine lv_iload_n hx hb dX4_isLetterOrDigit_30 rfl (lv_at hl 0 rfl) ?_
        refine lv_bipush (v := 57) hx hb dX4_isLetterOrDigit_31 (by decide) ?_
        refine lv_icmp_gt (tgt := 40) hx hb dX4_isLetterOrDigit_33 (by decide) (fun c_4 => ?_) (fun c_4 => ?_)
        · refine lv_iconst (v := 0) hx hb dX4_isLetterOrDigit_40 (by decide) ?_
          exact W.zret (v := 0) hx hb hr rfl (fun t9 ht hW => ⟨_, rfl, (Or.inl rfl), ht⟩) (fun q h => nomatch h) dX4_isLetterOrDigit_41
        · refine lv_iconst (v := 1) hx hb dX4_isLetterOrDigit_36 (by decide) ?_
          refine lv_goto (tgt := 41) hx hb dX4_isLetterOrDigit_37 (by decide) ?_
          exact W.zret (v := 1) hx hb hr rfl (fun t9 ht hW => ⟨_, rfl, (Or.inr rfl), ht⟩) (fun q h => nomatch h) dX4_isLetterOrDigit_41
    · refine lv_iload_n hx hb dX4_isLetterOrDigit_18 rfl (lv_at hl 0 rfl) ?_
      refine lv_bipush (v := 90) hx hb dX4_isLetterOrDigit_19 (by decide) ?_
      refine lv_icmp_le (tgt := 36) hx hb dX4_isLetterOrDigit_21 (by decide) (fun c_5 => ?_) (fun c_5 => ?_)
      · refine lv_iconst (v := 1) hx hb dX4_isLetterOrDigit_36 (by decide) ?_
        refine lv_goto (tgt := 41) hx hb dX4_isLetterOrDigit_37 (by decide) ?_
        exact W.zret (v := 1) hx hb hr rfl (fun t9 ht hW => ⟨_, rfl, (Or.inr rfl), ht⟩) (fun q h => nomatch h) dX4_isLetterOrDigit_41
      · refine lv_iload_n hx hb dX4_isLetterOrDigit_24 rfl (lv_at hl 0 rfl) ?_
        refine lv_bipush (v := 48) hx hb dX4_isLetterOrDigit_25 (by decide) ?_
        refine lv_icmp_lt (tgt := 40) hx hb dX4_isLetterOrDigit_27 (by decide) (fun c_6 => ?_) (fun c_6 => ?_)
        · refine lv_iconst (v := 0) hx hb dX4_isLetterOrDigit_40 (by decide) ?_
          exact W.zret (v := 0) hx hb hr rfl (fun t9 ht hW => ⟨_, rfl, (Or.inl rfl), ht⟩) (fun q h => nomatch h) dX4_isLetterOrDigit_41
        · refine lv_iload_n hx hb dX4_isLetterOrDigit_30 rfl (lv_at hl 0 rfl) ?_
          refine lv_bipush (v := 57) hx hb dX4_isLetterOrDigit_31 (by decide) ?_
          refine lv_icmp_gt (tgt := 40) hx hb dX4_isLetterOrDigit_33 (by decide) (fun c_7 => ?_) (fun c_7 => ?_)
          · refine lv_iconst (v := 0) hx hb dX4_isLetterOrDigit_40 (by decide) ?_
            exact W.zret (v := 0) hx hb hr rfl (fun t9 ht hW => ⟨_, rfl, (Or.inl rfl), ht⟩) (fun q h => nomatch h) dX4_isLetterOrDigit_41
          · refine lv_iconst (v := 1) hx hb dX4_isLetterOrDigit_36 (by decide) ?_
            refine lv_goto (tgt := 41) hx hb dX4_isLetterOrDigit_37 (by decide) ?_
            exact W.zret (v := 1) hx hb hr rfl (fun t9 ht hW => ⟨_, rfl, (Or.inr rfl), ht⟩) (fun q h => nomatch h) dX4_isLetterOrDigit_41
  · refine lv_iload_n hx hb dX4_isLetterOrDigit_6 rfl (lv_at hl 0 rfl) ?_
    refine lv_bipush (v := 122) hx hb dX4_isLetterOrDigit_7 (by decide) ?_
    refine lv_icmp_le (tgt := 36) hx hb dX4_isLetterOrDigit_9 (by decide) (fun c_8 => ?_) (fun c_8 => ?_)
    · refine lv_iconst (v := 1) hx hb dX4_isLetterOrDigit_36 (by decide) ?_
      refine lv_goto (tgt := 41) hx hb dX4_isLetterOrDigit_37 (by decide) ?_
      exact W.zret (v := 1) hx hb hr rfl (fun t9 ht hW => ⟨_, rfl, (Or.inr rfl), ht⟩) (fun q h => nomatch h) dX4_isLetterOrDigit_41
    · refine lv_iload_n hx hb dX4_isLetterOrDigit_12 rfl (lv_at hl 0 rfl) ?_
      refine lv_bipush (v := 65) hx hb dX4_isLetterOrDigit_13 (by decide) ?_
      refine lv_icmp_lt (tgt := 24) hx hb dX4_isLetterOrDigit_15 (by decide) (fun c_9 => ?_) (fun c_9 => ?_)
      · refine lv_iload_n hx hb dX4_isLetterOrDigit_24 rfl (lv_at hl 0 rfl) ?_
        refine lv_bipush (v := 48) hx hb dX4_isLetterOrDigit_25 (by decide) ?_
        refine lv_icmp_lt (tgt := 40) hx hb dX4_isLetterOrDigit_27 (by decide) (fun c_10 => ?_) (fun c_10 => ?_)
        · refine lv_iconst (v := 0) hx hb dX4_isLetterOrDigit_40 (by decide) ?_
          exact W.zret (v := 0) hx hb hr rfl (fun t9 ht hW => ⟨_, rfl, (Or.inl rfl), ht⟩) (fun q h => nomatch h) dX4_isLetterOrDigit_41
        · refine lv_iload_n hx hb dX4_isLetterOrDigit_30 rfl (lv_at hl 0 rfl) ?_
          refine lv_bipush (v := 57) hx hb dX4_isLetterOrDigit_31 (by decide) ?_
          refine lv_icmp_gt (tgt := 40) hx hb dX4_isLetterOrDigit_33 (by decide) (fun c_11 => ?_) (fun c_11 => ?_)
          · refine lv_iconst (v := 0) hx hb dX4_isLetterOrDigit_40 (by decide) ?_
            exact W.zret (v := 0) hx hb hr rfl (fun t9 ht hW => ⟨_, rfl, (Or.inl rfl), ht⟩) (fun q h => nomatch h) dX4_isLetterOrDigit_41
          · refine lv_iconst (v := 1) hx hb dX4_isLetterOrDigit_36 (by decide) ?_
            refine lv_goto (tgt := 41) hx hb dX4_isLetterOrDigit_37 (by decide) ?_
            exact W.zret (v := 1) hx hb hr rfl (fun t9 ht hW => ⟨_, rfl, (Or.inr rfl), ht⟩) (fun q h => nomatch h) dX4_isLetterOrDigit_41
      · refine lv_iload_n hx hb dX4_isLetterOrDigit_18 rfl (lv_at hl 0 rfl) ?_
        refine lv_bipush (v := 90) hx hb dX4_isLetterOrDigit_19 (by decide) ?_
        refine lv_icmp_le (tgt := 36) hx hb dX4_isLetterOrDigit_21 (by decide) (fun c_12 => ?_) (fun c_12 => ?_)
        · refine lv_iconst (v := 1) hx hb dX4_isLetterOrDigit_36 (by decide) ?_
          refine lv_goto (tgt := 41) hx hb dX4_isLetterOrDigit_37 (by decide) ?_
          exact W.zret (v := 1) hx hb hr rfl (fun t9 ht hW => ⟨_, rfl, (Or.inr rfl), ht⟩) (fun q h => nomatch h) dX4_isLetterOrDigit_41
        · refine lv_iload_n hx hb dX4_isLetterOrDigit_24 rfl (lv_at hl 0 rfl) ?_
          refine lv_bipush (v := 48) hx hb dX4_isLetterOrDigit_25 (by decide) ?_
          refine lv_icmp_lt (tgt := 40) hx hb dX4_isLetterOrDigit_27 (by decide) (fun c_13 => ?_) (fun c_13 => ?_)
          · refine lv_iconst (v := 0) hx hb dX4_isLetterOrDigit_40 (by decide) ?_
            exact W.zret (v := 0) hx hb hr rfl (fun t9 ht hW => ⟨_, rfl, (Or.inl rfl), ht⟩) (fun q h => nomatch h) dX4_isLetterOrDigit_41
          · refine lv_iload_n hx hb dX4_isLetterOrDigit_30 rfl (lv_at hl 0 rfl) ?_
            refine lv_bipush (v := 57) hx hb dX4_isLetterOrDigit_31 (by decide) ?_
            refine lv_icmp_gt (tgt := 40) hx hb dX4_isLetterOrDigit_33 (by decide) (fun c_14 => ?_) (fun c_14 => ?_)
            · refine lv_iconst (v := 0) hx hb dX4_isLetterOrDigit_40 (by decide) ?_
              exact W.zret (v := 0) hx hb hr rfl (fun t9 ht hW => ⟨_, rfl, (Or.inl rfl), ht⟩) (fun q h => nomatch h) dX4_isLetterOrDigit_41
            · refine lv_iconst (v := 1) hx hb dX4_isLetterOrDigit_36 (by decide) ?_
              refine lv_goto (tgt := 41) hx hb dX4_isLetterOrDigit_37 (by decide) ?_
              exact W.zret (v := 1) hx hb hr rfl (fun t9 ht hW => ⟨_, rfl, (Or.inr rfl), ht⟩) (fun q h => nomatch h) dX4_isLetterOrDigit_41

set_option maxHeartbeats 4000000 in
set_option maxRecDepth 100000 in
theorem e_X5_leastFor (l : Launch) (dC : Nat → ClassId) (dI : Nat → Nat → Nat) (cs : Nat → ClassId) (L : List Nat) (ka : Nat → Nat) (ix : Nat → Nat) (ad : Nat → Nat → Nat) (n0 : Nat) (n6 : Nat) (n2 : Nat) (S : Nat → Nat → Nat → Int32) (f : Nat → va_E) (p0 : Int32) (sz : Nat) (hT : tB L ka ix ad cs n0 n6 n2 S f) : Met l yX5_leastFor wsX5_leastFor ({ frames := 0, cells := 0, slots := 0, locals := 0 }) (va_Pc [.int p0] (cP dC dI ([] ++ va_pl L f) (tyC cs) sz)) (vp_Si (fun _ => True)) 0 0 (fun _ => False) := by
  refine Met.ofW (cc := cX5_leastFor) (maxL := 1) (ret := (some .int)) (by decide) rfl ?_
  intro p e s m args below meth c s₁ B hml hv
  obtain ⟨rfl, hsz, hP, hK, hD0, hN⟩ := hv
  have hx := B.exec
  have hb := B.bytes
  have hr := B.returns
  have hts := atoms_spec (ws := wsX5_leastFor) B.pre
  have hown : s.vm.findClass RX5 = some m.cls := findClass_of_methodNamed B.named
  have hlocks := B.notSynchronized
  subst hsz
  have hD := hD0
  have hP : va_P (dC, dI) vwCl ([] ++ va_pl L f) s.heap := hP
  have hl := lv_entry ([.int p0]) (n := 1) (Nat.le_of_ble_eq_true rfl)
  rw [lg_entry_eq]
  generalize (lg_sl ([.int p0]) ++ List.replicate (1 - (lg_sl ([.int p0])).length) Slot.unset).toArray = ls at hl ⊢
  have hl : lv_has ls 1 [(0, .int p0)] := hl
  refine lv_iload_n hx hb dX5_leastFor_0 rfl (lv_at hl 0 rfl) ?_
  refine lv_if_ne (tgt := 8) hx hb dX5_leastFor_1 (by decide) (fun c_1 => ?_) (fun c_1 => ?_)
  · refine lv_iconst (v := 0) hx hb dX5_leastFor_8 (by decide) ?_
    exact W.iret (v := 0) hx hb hr (fun t9 ht hW => ⟨_, rfl, trivial, ht⟩) (fun q h => nomatch h) dX5_leastFor_9
  · refine lv_iconst (v := 1) hx hb dX5_leastFor_4 (by decide) ?_
    refine lv_goto (tgt := 9) hx hb dX5_leastFor_5 (by decide) ?_
    exact W.iret (v := 1) hx hb hr (fun t9 ht hW => ⟨_, rfl, trivial, ht⟩) (fun q h => nomatch h) dX5_leastFor_9

set_option maxHeartbeats 4000000 in
set_option maxRecDepth 100000 in
theorem e_X5_mostFor (l : Launch) (dC : Nat → ClassId) (dI : Nat → Nat → Nat) (cs : Nat → ClassId) (L : List Nat) (ka : Nat → Nat) (ix : Nat → Nat) (ad : Nat → Nat → Nat) (n0 : Nat) (n6 : Nat) (n2 : Nat) (S : Nat → Nat → Nat → Int32) (f : Nat → va_E) (p0 : Int32) (sz : Nat) (hT : tB L ka ix ad cs n0 n6 n2 S f) : Met l yX5_mostFor wsX5_mostFor ({ frames := 0, cells := 0, slots := 0, locals := 0 }) (va_Pc [.int p0] (cP dC dI ([] ++ va_pl L f) (tyC cs) sz)) (vp_Si (fun _ => True)) 0 0 (fun _ => False) := by
  refine Met.ofW (cc := cX5_mostFor) (maxL := 1) (ret := (some .int)) (by decide) rfl ?_
  intro p e s m args below meth c s₁ B hml hv
  obtain ⟨rfl, hsz, hP, hK, hD0, hN⟩ := hv
  have hx := B.exec
  have hb := B.bytes
  have hr := B.returns
  have hts := atoms_spec (ws := wsX5_mostFor) B.pre
  have hown : s.vm.findClass RX5 = some m.cls := findClass_of_methodNamed B.named
  have hlocks := B.notSynchronized
  subst hsz
  have hD := hD0
  have hP : va_P (dC, dI) vwCl ([] ++ va_pl L f) s.heap := hP
  have hl := lv_entry ([.int p0]) (n := 1) (Nat.le_of_ble_eq_true rfl)
  rw [lg_entry_eq]
  generalize (lg_sl ([.int p0]) ++ List.replicate (1 - (lg_sl ([.int p0])).length) Slot.unset).toArray = ls at hl ⊢
  have hl : lv_has ls 1 [(0, .int p0)] := hl
  refine lv_iload_n hx hb dX5_mostFor_0 rfl (lv_at hl 0 rfl) ?_
  refine lv_if_ne (tgt := 7) hx hb dX5_mostFor_1 (by decide) (fun c_1 => ?_) (fun c_1 => ?_)
  · refine lv_iload_n hx hb dX5_mostFor_7 rfl (lv_at hl 0 rfl) ?_
    refine lv_iconst (v := 3) hx hb dX5_mostFor_8 (by decide) ?_
    refine lv_icmp_ge (tgt := 17) hx hb dX5_mostFor_9 (by decide) (fun c_2 => ?_) (fun c_2 => ?_)
    · refine lv_bipush (v := 20) hx hb dX5_mostFor_17 (by decide) ?_
      exact W.iret (v := 20) hx hb hr (fun t9 ht hW => ⟨_, rfl, trivial, ht⟩) (fun q h => nomatch h) dX5_mostFor_19
    · refine lv_bipush (v := 50) hx hb dX5_mostFor_12 (by decide) ?_
      refine lv_goto (tgt := 19) hx hb dX5_mostFor_14 (by decide) ?_
      exact W.iret (v := 50) hx hb hr (fun t9 ht hW => ⟨_, rfl, trivial, ht⟩) (fun q h => nomatch h) dX5_mostFor_19
  · refine lv_bipush (v := 9) hx hb dX5_mostFor_4 (by decide) ?_
    exact W.iret (v := 9) hx hb hr (fun t9 ht hW => ⟨_, rfl, trivial, ht⟩) (fun q h => nomatch h) dX5_mostFor_6

theorem tl_in9 {x : Int32} (h1 : ¬ x < 0) (h2 : ¬ 6 ≤ x) : vp_in x 6 := in_nI (n := 6) h1 h2 (by decide)

set_option maxHeartbeats 4000000 in
set_option maxRecDepth 100000 in
theorem e_X5_tell (l : Launch) (dC : Nat → ClassId) (dI : Nat → Nat → Nat) (cs : Nat → ClassId) (L : List Nat) (ka : Nat → Nat) (ix : Nat → Nat) (ad : Nat → Nat → Nat) (n0 : Nat) (n6 : Nat) (n2 : Nat) (S : Nat → Nat → Nat → Int32) (f : Nat → va_E) (h0 : Nat) (n1 : Nat) (a_n : Nat → Int32) (p0 : Int32) (p1 : Int32) (sz : Nat) (hT : tB L ka ix ad cs n0 n6 n2 S f) : Met l yX5_tell wsX5_tell ({ frames := 0, cells := 0, slots := 0, locals := 0 }) (va_Pc [.ref h0, .int p0, .int p1] (cP dC dI ([(h0, .inr (5, [.ref n1])), (n1, .inl (cs 0, 6, .inl a_n))] ++ va_pl L f) (tyC cs) sz)) (va_Qv (fun (_ : Unit) => True) (fun (_ : Unit) t9 => ∃ (f_n : Nat → Int32), cQ dC dI ([(h0, .inr (5, [.ref n1])), (n1, .inl (cs 0, 6, .inl f_n))] ++ va_pl L f) [] (va_A ([(h0, .inr (5, [.ref n1])), (n1, .inl (cs 0, 6, .inl a_n))] ++ va_pl L f) sz) t9) (va_A ([(h0, .inr (5, [.ref n1])), (n1, .inl (cs 0, 6, .inl a_n))] ++ va_pl L f) sz)) 0 0 (va_A ([(h0, .inr (5, [.ref n1])), (n1, .inl (cs 0, 6, .inl a_n))] ++ va_pl L f) sz) := by
  refine Met.ofW (cc := cX5_tell) (maxL := 3) (ret := none) (by decide) rfl ?_
  intro p e s m args below meth c s₁ B hml hv
  obtain ⟨rfl, hsz, hP, hK, hD0, hN⟩ := hv
  have hx := B.exec
  have hb := B.bytes
  have hr := B.returns
  have hts := atoms_spec (ws := wsX5_tell) B.pre
  have hown : s.vm.findClass RX5 = some m.cls := findClass_of_methodNamed B.named
  have hlocks := B.notSynchronized
  subst hsz
  have hin5 : ∀ w ∈ u_ws RX5 TX5 1, w ∈ wsX5_tell := by decide +kernel
  have hD := hD0.self (sz := s.heap.size)
  generalize hAe : va_A ([(h0, .inr (5, [.ref n1])), (n1, .inl (cs 0, 6, .inl a_n))] ++ va_pl L f) s.heap.size = A at hD ⊢
  have hA : ∀ q : Nat, s.heap.size ≤ q → A q := fun q h => by rw [← hAe]; exact Or.inr h
  have hS : va_S A s.heap s.heap [] := va_S.rf
  have hP : va_P (dC, dI) vwCl ([(h0, .inr (5, [.ref n1])), (n1, .inl (cs 0, 6, .inl a_n))] ++ va_pl L f) s.heap := hP
  have hl := lv_entry ([.ref h0, .int p0, .int p1]) (n := 3) (Nat.le_of_ble_eq_true rfl)
  rw [lg_entry_eq]
  generalize (lg_sl ([.ref h0, .int p0, .int p1]) ++ List.replicate (3 - (lg_sl ([.ref h0, .int p0, .int p1])).length) Slot.unset).toArray = ls at hl ⊢
  have hl : lv_has ls 3 [(0, .ref h0), (1, .int p0), (2, .int p1)] := hl
  refine lv_iload_n hx hb dX5_tell_0 rfl (lv_at hl 1 rfl) ?_
  refine lv_if_lt (tgt := 17) hx hb dX5_tell_1 (by decide) (fun c_1 => ?_) (fun c_1 => ?_)
  · have hP9 := hP.part (cx := [(h0, .inr (5, [.ref n1])), (n1, .inl (cs 0, 6, .inl a_n))]) [0, 1] rfl
    have hD9 := hD.part (cx := [(h0, .inr (5, [.ref n1])), (n1, .inl (cs 0, 6, .inl a_n))]) [0, 1] (by decide) rfl
    have hK9 := hK.sub (tys' := []) [] rfl
    refine W.widen (k := 0) (n := 0) (Nat.le_of_ble_eq_true rfl) (Nat.le_of_ble_eq_true rfl) ?_
    exact W.vret hx hb hr (fun t9 ht hW => ⟨⟨(), rfl, trivial, a_n, by rw [ht]; exact hP9, va_K.moved hW.alike hK9, hD9⟩, hS.F ht⟩) hS.2.2 dX5_tell_17
  · refine lv_iload_n hx hb dX5_tell_4 rfl (lv_at hl 1 rfl) ?_
    refine lv_bipush (v := 6) hx hb dX5_tell_5 (by decide) ?_
    refine lv_icmp_ge (tgt := 17) hx hb dX5_tell_7 (by decide) (fun c_2 => ?_) (fun c_2 => ?_)
    · have hP9 := hP.part (cx := [(h0, .inr (5, [.ref n1])), (n1, .inl (cs 0, 6, .inl a_n))]) [0, 1] rfl
      have hD9 := hD.part (cx := [(h0, .inr (5, [.ref n1])), (n1, .inl (cs 0, 6, .inl a_n))]) [0, 1] (by decide) rfl
      have hK9 := hK.sub (tys' := []) [] rfl
      refine W.widen (k := 0) (n := 0) (Nat.le_of_ble_eq_true rfl) (Nat.le_of_ble_eq_true rfl) ?_
      exact W.vret hx hb hr (fun t9 ht hW => ⟨⟨(), rfl, trivial, a_n, by rw [ht]; exact hP9, va_K.moved hW.alike hK9, hD9⟩, hS.F ht⟩) hS.2.2 dX5_tell_17
    · refine lv_aload_n hx hb dX5_tell_10 rfl (lv_at hl 0 rfl) ?_
      refine va_get (D := (dC, dI)) (ci := 5) (v := .ref n1) (C := RX5) (T := TX5) (N := 1) hx hb hts hin5 hown hK hP 0 rfl rfl 0 (by decide) (hts (.fieldLink RX5 11 "YamRiders$Statutes" "numbers" "[I") (by decide +kernel)) (fun _ h9 => h9) rfl dX5_tell_11 ?_
      refine lv_iload_n hx hb dX5_tell_14 rfl (lv_at hl 1 rfl) ?_
      refine lv_iload_n hx hb dX5_tell_15 rfl (lv_at hl 2 rfl) ?_
      refine va_iast hx hb hK hP hD hS 1 0 rfl rfl (in_nI c_1 c_2 (by first | decide | omega)) dX5_tell_16 (fun H locs hP hD hS => ?_)
      have hP : va_P (dC, dI) vwCl ([(h0, .inr (5, [.ref n1])), (n1, .inl (cs 0, 6, .inl (upd a_n p0.toNatClampNeg p1)))] ++ va_pl L f) H := hP
      have hD : va_D A ([(h0, .inr (5, [.ref n1])), (n1, .inl (cs 0, 6, .inl (upd a_n p0.toNatClampNeg p1)))] ++ va_pl L f) := hD
      obtain ⟨f_3, ef_3⟩ : ∃ w9 : Nat → Int32, w9 = upd a_n p0.toNatClampNeg p1 := ⟨_, rfl⟩
      rw [← ef_3] at hP hD
      have hP9 := hP.part (cx := [(h0, .inr (5, [.ref n1])), (n1, .inl (cs 0, 6, .inl f_3))]) [0, 1] rfl
      have hD9 := hD.part (cx := [(h0, .inr (5, [.ref n1])), (n1, .inl (cs 0, 6, .inl f_3))]) [0, 1] (by decide) rfl
      have hK9 := hK.sub (tys' := []) [] rfl
      refine W.widen (k := 0) (n := 0) (Nat.le_of_ble_eq_true rfl) (Nat.le_of_ble_eq_true rfl) ?_
      exact W.vret hx hb hr (fun t9 ht hW => ⟨⟨(), rfl, trivial, f_3, by rw [ht]; exact hP9, va_K.moved hW.alike hK9, hD9⟩, hS.F ht⟩) hS.2.2 dX5_tell_17

set_option maxHeartbeats 4000000 in
set_option maxRecDepth 100000 in
theorem e_X4_stopAtToken (l : Launch) (dC : Nat → ClassId) (dI : Nat → Nat → Nat) (cs : Nat → ClassId) (L : List Nat) (ka : Nat → Nat) (ix : Nat → Nat) (ad : Nat → Nat → Nat) (n0 : Nat) (n6 : Nat) (n2 : Nat) (S : Nat → Nat → Nat → Int32) (f : Nat → va_E) (h0 : Nat) (t1 : Nat) (t2 : Nat) (t3 : Nat) (i_ruleCount : Int32) (i_faultKind : Int32) (i_faultPlace : Int32) (i_place : Int32) (i_token : Int32) (i_tokenPlace : Int32) (i_value : Int32) (p0 : Int32) (sz : Nat) (hT : tB L ka ix ad cs n0 n6 n2 S f) : Met l yX4_stopAtToken wsX4_stopAtToken ({ frames := 0, cells := 0, slots := 0, locals := 0 }) (va_Pc [.ref h0, .int p0] (cP dC dI ([(h0, .inr (4, [.ref t1, .ref t2, .ref t3, .int i_ruleCount, .int i_faultKind, .int i_faultPlace, .int i_place, .int i_token, .int i_tokenPlace, .int i_value]))] ++ va_pl L f) (tyC cs) sz)) (va_Qi (fun (r : Int32) (_ : Unit) => r = 0 ∨ r = 1) (fun (_ : Unit) t9 => ∃ (y_ruleCount : Int32) (y_faultKind : Int32) (y_faultPlace : Int32) (y_place : Int32) (y_token : Int32) (y_tokenPlace : Int32) (y_value : Int32), cQ dC dI ([(h0, .inr (4, [.ref t1, .ref t2, .ref t3, .int y_ruleCount, .int y_faultKind, .int y_faultPlace, .int y_place, .int y_token, .int y_tokenPlace, .int y_value]))] ++ va_pl L f) [] (va_A ([(h0, .inr (4, [.ref t1, .ref t2, .ref t3, .int i_ruleCount, .int i_faultKind, .int i_faultPlace, .int i_place, .int i_token, .int i_tokenPlace, .int i_value]))] ++ va_pl L f) sz) t9) (va_A ([(h0, .inr (4, [.ref t1, .ref t2, .ref t3, .int i_ruleCount, .int i_faultKind, .int i_faultPlace, .int i_place, .int i_token, .int i_tokenPlace, .int i_value]))] ++ va_pl L f) sz)) 0 0 (va_A ([(h0, .inr (4, [.ref t1, .ref t2, .ref t3, .int i_ruleCount, .int i_faultKind, .int i_faultPlace, .int i_place, .int i_token, .int i_tokenPlace, .int i_value]))] ++ va_pl L f) sz) := by
  refine Met.ofW (cc := cX4_stopAtToken) (maxL := 2) (ret := (some .boolean)) (by decide) rfl ?_
  intro p e s m args below meth c s₁ B hml hv
  obtain ⟨rfl, hsz, hP, hK, hD0, hN⟩ := hv
  have hx := B.exec
  have hb := B.bytes
  have hr := B.returns
  have hts := atoms_spec (ws := wsX4_stopAtToken) B.pre
  have hown : s.vm.findClass RX4 = some m.cls := findClass_of_methodNamed B.named
  have hlocks := B.notSynchronized
  subst hsz
  have hin4 : ∀ w ∈ u_ws RX4 TX4 10, w ∈ wsX4_stopAtToken := by decide +kernel
  have hD := hD0.self (sz := s.heap.size)
  generalize hAe : va_A ([(h0, .inr (4, [.ref t1, .ref t2, .ref t3, .int i_ruleCount, .int i_faultKind, .int i_faultPlace, .int i_place, .int i_token, .int i_tokenPlace, .int i_value]))] ++ va_pl L f) s.heap.size = A at hD ⊢
  have hA : ∀ q : Nat, s.heap.size ≤ q → A q := fun q h => by rw [← hAe]; exact Or.inr h
  have hS : va_S A s.heap s.heap [] := va_S.rf
  have hP : va_P (dC, dI) vwCl ([(h0, .inr (4, [.ref t1, .ref t2, .ref t3, .int i_ruleCount, .int i_faultKind, .int i_faultPlace, .int i_place, .int i_token, .int i_tokenPlace, .int i_value]))] ++ va_pl L f) s.heap := hP
  have hl := lv_entry ([.ref h0, .int p0]) (n := 2) (Nat.le_of_ble_eq_true rfl)
  rw [lg_entry_eq]
  generalize (lg_sl ([.ref h0, .int p0]) ++ List.replicate (2 - (lg_sl ([.ref h0, .int p0])).length) Slot.unset).toArray = ls at hl ⊢
  have hl : lv_has ls 2 [(0, .ref h0), (1, .int p0)] := hl
  refine lv_aload_n hx hb dX4_stopAtToken_0 rfl (lv_at hl 0 rfl) ?_
  refine lv_aload_n hx hb dX4_stopAtToken_1 rfl (lv_at hl 0 rfl) ?_
  refine va_get (D := (dC, dI)) (ci := 4) (v := .int i_token) (C := RX4) (T := TX4) (N := 10) hx hb hts hin4 hown hK hP 0 rfl rfl 7 (by decide) (hts (.fieldLink RX4 29 "YamRiders$StatuteReader" "token" "I") (by decide +kernel)) (fun _ h9 => h9) rfl dX4_stopAtToken_2 ?_
  refine lv_iconst (v := 4) hx hb dX4_stopAtToken_5 (by decide) ?_
  refine lv_icmp_ne (tgt := 13) hx hb dX4_stopAtToken_6 (by decide) (fun c_1 => ?_) (fun c_1 => ?_)
  · refine lv_iload_n hx hb dX4_stopAtToken_13 rfl (lv_at hl 1 rfl) ?_
    refine va_put (D := (dC, dI)) (ci := 4) (v := .int p0) (ty := (tyX4 4)) (C := RX4) (T := TX4) (N := 10) hx hb hts hin4 tyX4 tyX4_ok nmX4 hown hK hP hD hS 0 rfl rfl 4 (by decide) (hts (.fieldLink RX4 87 "YamRiders$StatuteReader" "faultKind" "I") (by decide +kernel)) (fun _ h9 => h9) rfl (by decide +kernel) rfl rfl (Nat.le_of_ble_eq_true rfl) dX4_stopAtToken_14 (fun H locs hP hD hS => ?_)
    have hP : va_P (dC, dI) vwCl ([(h0, .inr (4, [.ref t1, .ref t2, .ref t3, .int i_ruleCount, .int p0, .int i_faultPlace, .int i_place, .int i_token, .int i_tokenPlace, .int i_value]))] ++ va_pl L f) H := hP
    have hD : va_D A ([(h0, .inr (4, [.ref t1, .ref t2, .ref t3, .int i_ruleCount, .int p0, .int i_faultPlace, .int i_place, .int i_token, .int i_tokenPlace, .int i_value]))] ++ va_pl L f) := hD
    refine lv_aload_n hx hb dX4_stopAtToken_17 rfl (lv_at hl 0 rfl) ?_
    refine lv_aload_n hx hb dX4_stopAtToken_18 rfl (lv_at hl 0 rfl) ?_
    refine va_get (D := (dC, dI)) (ci := 4) (v := .int i_tokenPlace) (C := RX4) (T := TX4) (N := 10) hx hb hts hin4 hown hK hP 0 rfl rfl 8 (by decide) (hts (.fieldLink RX4 90 "YamRiders$StatuteReader" "tokenPlace" "I") (by decide +kernel)) (fun _ h9 => h9) rfl dX4_stopAtToken_19 ?_
    refine va_put (D := (dC, dI)) (ci := 4) (v := .int i_tokenPlace) (ty := (tyX4 5)) (C := RX4) (T := TX4) (N := 10) hx hb hts hin4 tyX4 tyX4_ok nmX4 hown hK hP hD hS 0 rfl rfl 5 (by decide) (hts (.fieldLink RX4 93 "YamRiders$StatuteReader" "faultPlace" "I") (by decide +kernel)) (fun _ h9 => h9) rfl (by decide +kernel) rfl rfl (Nat.le_of_ble_eq_true rfl) dX4_stopAtToken_22 (fun H locs hP hD hS => ?_)
    have hP : va_P (dC, dI) vwCl ([(h0, .inr (4, [.ref t1, .ref t2, .ref t3, .int i_ruleCount, .int p0, .int i_tokenPlace, .int i_place, .int i_token, .int i_tokenPlace, .int i_value]))] ++ va_pl L f) H := hP
    have hD : va_D A ([(h0, .inr (4, [.ref t1, .ref t2, .ref t3, .int i_ruleCount, .int p0, .int i_tokenPlace, .int i_place, .int i_token, .int i_tokenPlace, .int i_value]))] ++ va_pl L f) := hD
    refine lv_iconst (v := 0) hx hb dX4_stopAtToken_25 (by decide) ?_
    have hP9 := hP.part (cx := [(h0, .inr (4, [.ref t1, .ref t2, .ref t3, .int i_ruleCount, .int p0, .int i_tokenPlace, .int i_place, .int i_token, .int i_tokenPlace, .int i_value]))]) [0] rfl
    have hD9 := hD.part (cx := [(h0, .inr (4, [.ref t1, .ref t2, .ref t3, .int i_ruleCount, .int p0, .int i_tokenPlace, .int i_place, .int i_token, .int i_tokenPlace, .int i_value]))]) [0] (by decide) rfl
    have hK9 := hK.sub (tys' := []) [] rfl
    refine W.widen (k := 0) (n := 0) (Nat.le_of_ble_eq_true rfl) (Nat.le_of_ble_eq_true rfl) ?_
    exact W.zret (v := 0) hx hb hr rfl (fun t9 ht hW => ⟨⟨_, (), rfl, (Or.inl rfl), i_ruleCount, p0, i_tokenPlace, i_place, i_token, i_tokenPlace, i_value, by rw [ht]; exact hP9, va_K.moved hW.alike hK9, hD9⟩, hS.F ht⟩) hS.2.2 dX4_stopAtToken_26
  · refine lv_iconst (v := 1) hx hb dX4_stopAtToken_9 (by decide) ?_
    refine lv_goto (tgt := 14) hx hb dX4_stopAtToken_10 (by decide) ?_
    refine va_put (D := (dC, dI)) (ci := 4) (v := .int 1) (ty := (tyX4 4)) (C := RX4) (T := TX4) (N := 10) hx hb hts hin4 tyX4 tyX4_ok nmX4 hown hK hP hD hS 0 rfl rfl 4 (by decide) (hts (.fieldLink RX4 87 "YamRiders$StatuteReader" "faultKind" "I") (by decide +kernel)) (fun _ h9 => h9) rfl (by decide +kernel) rfl rfl (Nat.le_of_ble_eq_true rfl) dX4_stopAtToken_14 (fun H locs hP hD hS => ?_)
    have hP : va_P (dC, dI) vwCl ([(h0, .inr (4, [.ref t1, .ref t2, .ref t3, .int i_ruleCount, .int 1, .int i_faultPlace, .int i_place, .int i_token, .int i_tokenPlace, .int i_value]))] ++ va_pl L f) H := hP
    have hD : va_D A ([(h0, .inr (4, [.ref t1, .ref t2, .ref t3, .int i_ruleCount, .int 1, .int i_faultPlace, .int i_place, .int i_token, .int i_tokenPlace, .int i_value]))] ++ va_pl L f) := hD
    refine lv_aload_n hx hb dX4_stopAtToken_17 rfl (lv_at hl 0 rfl) ?_
    refine lv_aload_n hx hb dX4_stopAtToken_18 rfl (lv_at hl 0 rfl) ?_
    refine va_get (D := (dC, dI)) (ci := 4) (v := .int i_tokenPlace) (C := RX4) (T := TX4) (N := 10) hx hb hts hin4 hown hK hP 0 rfl rfl 8 (by decide) (hts (.fieldLink RX4 90 "YamRiders$StatuteReader" "tokenPlace" "I") (by decide +kernel)) (fun _ h9 => h9) rfl dX4_stopAtToken_19 ?_
    refine va_put (D := (dC, dI)) (ci := 4) (v := .int i_tokenPlace) (ty := (tyX4 5)) (C := RX4) (T := TX4) (N := 10) hx hb hts hin4 tyX4 tyX4_ok nmX4 hown hK hP hD hS 0 rfl rfl 5 (by decide) (hts (.fieldLink RX4 93 "YamRiders$StatuteReader" "faultPlace" "I") (by decide +kernel)) (fun _ h9 => h9) rfl (by decide +kernel) rfl rfl (Nat.le_of_ble_eq_true rfl) dX4_stopAtToken_22 (fun H locs hP hD hS => ?_)
    have hP : va_P (dC, dI) vwCl ([(h0, .inr (4, [.ref t1, .ref t2, .ref t3, .int i_ruleCount, .int 1, .int i_tokenPlace, .int i_place, .int i_token, .int i_tokenPlace, .int i_value]))] ++ va_pl L f) H := hP
    have hD : va_D A ([(h0, .inr (4, [.ref t1, .ref t2, .ref t3, .int i_ruleCount, .int 1, .int i_tokenPlace, .int i_place, .int i_token, .int i_tokenPlace, .int i_value]))] ++ va_pl L f) := hD
    refine lv_iconst (v := 0) hx hb dX4_stopAtToken_25 (by decide) ?_
    have hP9 := hP.part (cx := [(h0, .inr (4, [.ref t1, .ref t2, .ref t3, .int i_ruleCount, .int 1, .int i_tokenPlace, .int i_place, .int i_token, .int i_tokenPlace, .int i_value]))]) [0] rfl
    have hD9 := hD.part (cx := [(h0, .inr (4, [.ref t1, .ref t2, .ref t3, .int i_ruleCount, .int 1, .int i_tokenPlace, .int i_place, .int i_token, .int i_tokenPlace, .int i_value]))]) [0] (by decide) rfl
    have hK9 := hK.sub (tys' := []) [] rfl
    refine W.widen (k := 0) (n := 0) (Nat.le_of_ble_eq_true rfl) (Nat.le_of_ble_eq_true rfl) ?_
    exact W.zret (v := 0) hx hb hr rfl (fun t9 ht hW => ⟨⟨_, (), rfl, (Or.inl rfl), i_ruleCount, 1, i_tokenPlace, i_place, i_token, i_tokenPlace, i_value, by rw [ht]; exact hP9, va_K.moved hW.alike hK9, hD9⟩, hS.F ht⟩) hS.2.2 dX4_stopAtToken_26

set_option maxHeartbeats 4000000 in
set_option maxRecDepth 100000 in
theorem e_X4_isNumberWithin (l : Launch) (dC : Nat → ClassId) (dI : Nat → Nat → Nat) (cs : Nat → ClassId) (L : List Nat) (ka : Nat → Nat) (ix : Nat → Nat) (ad : Nat → Nat → Nat) (n0 : Nat) (n6 : Nat) (n2 : Nat) (S : Nat → Nat → Nat → Int32) (f : Nat → va_E) (h0 : Nat) (t1 : Nat) (t2 : Nat) (t3 : Nat) (i_ruleCount : Int32) (i_faultKind : Int32) (i_faultPlace : Int32) (i_place : Int32) (i_token : Int32) (i_tokenPlace : Int32) (i_value : Int32) (p0 : Int32) (p1 : Int32) (sz : Nat) (hT : tB L ka ix ad cs n0 n6 n2 S f) : Met l yX4_isNumberWithin wsX4_isNumberWithin ({ frames := 1, cells := 0, slots := 0, locals := 21 }) (va_Pc [.ref h0, .int p0, .int p1] (cP dC dI ([(h0, .inr (4, [.ref t1, .ref t2, .ref t3, .int i_ruleCount, .int i_faultKind, .int i_faultPlace, .int i_place, .int i_token, .int i_tokenPlace, .int i_value]))] ++ va_pl L f) (tyC cs) sz)) (va_Qi (fun (r : Int32) (_ : Unit) => r = 0 ∨ r = 1) (fun (_ : Unit) t9 => ∃ (y_ruleCount : Int32) (y_faultKind : Int32) (y_faultPlace : Int32) (y_place : Int32) (y_token : Int32) (y_tokenPlace : Int32) (y_value : Int32), cQ dC dI ([(h0, .inr (4, [.ref t1, .ref t2, .ref t3, .int y_ruleCount, .int y_faultKind, .int y_faultPlace, .int y_place, .int y_token, .int y_tokenPlace, .int y_value]))] ++ va_pl L f) [] (va_A ([(h0, .inr (4, [.ref t1, .ref t2, .ref t3, .int i_ruleCount, .int i_faultKind, .int i_faultPlace, .int i_place, .int i_token, .int i_tokenPlace, .int i_value]))] ++ va_pl L f) sz) t9) (va_A ([(h0, .inr (4, [.ref t1, .ref t2, .ref t3, .int i_ruleCount, .int i_faultKind, .int i_faultPlace, .int i_place, .int i_token, .int i_tokenPlace, .int i_value]))] ++ va_pl L f) sz)) 0 0 (va_A ([(h0, .inr (4, [.ref t1, .ref t2, .ref t3, .int i_ruleCount, .int i_faultKind, .int i_faultPlace, .int i_place, .int i_token, .int i_tokenPlace, .int i_value]))] ++ va_pl L f) sz) := by
  refine Met.ofW (cc := cX4_isNumberWithin) (maxL := 3) (ret := (some .boolean)) (by decide) rfl ?_
  intro p e s m args below meth c s₁ B hml hv
  obtain ⟨rfl, hsz, hP, hK, hD0, hN⟩ := hv
  have hx := B.exec
  have hb := B.bytes
  have hr := B.returns
  have hts := atoms_spec (ws := wsX4_isNumberWithin) B.pre
  have hown : s.vm.findClass RX4 = some m.cls := findClass_of_methodNamed B.named
  have hlocks := B.notSynchronized
  subst hsz
  have hin4 : ∀ w ∈ u_ws RX4 TX4 10, w ∈ wsX4_isNumberWithin := by decide +kernel
  have hD := hD0.self (sz := s.heap.size)
  generalize hAe : va_A ([(h0, .inr (4, [.ref t1, .ref t2, .ref t3, .int i_ruleCount, .int i_faultKind, .int i_faultPlace, .int i_place, .int i_token, .int i_tokenPlace, .int i_value]))] ++ va_pl L f) s.heap.size = A at hD ⊢
  have hA : ∀ q : Nat, s.heap.size ≤ q → A q := fun q h => by rw [← hAe]; exact Or.inr h
  have hS : va_S A s.heap s.heap [] := va_S.rf
  have hP : va_P (dC, dI) vwCl ([(h0, .inr (4, [.ref t1, .ref t2, .ref t3, .int i_ruleCount, .int i_faultKind, .int i_faultPlace, .int i_place, .int i_token, .int i_tokenPlace, .int i_value]))] ++ va_pl L f) s.heap := hP
  have hl := lv_entry ([.ref h0, .int p0, .int p1]) (n := 3) (Nat.le_of_ble_eq_true rfl)
  rw [lg_entry_eq]
  generalize (lg_sl ([.ref h0, .int p0, .int p1]) ++ List.replicate (3 - (lg_sl ([.ref h0, .int p0, .int p1])).length) Slot.unset).toArray = ls at hl ⊢
  have hl : lv_has ls 3 [(0, .ref h0), (1, .int p0), (2, .int p1)] := hl
  refine lv_aload_n hx hb dX4_isNumberWithin_0 rfl (lv_at hl 0 rfl) ?_
  refine va_get (D := (dC, dI)) (ci := 4) (v := .int i_token) (C := RX4) (T := TX4) (N := 10) hx hb hts hin4 hown hK hP 0 rfl rfl 7 (by decide) (hts (.fieldLink RX4 29 "YamRiders$StatuteReader" "token" "I") (by decide +kernel)) (fun _ h9 => h9) rfl dX4_isNumberWithin_1 ?_
  refine lv_iconst (v := 2) hx hb dX4_isNumberWithin_4 (by decide) ?_
  refine lv_icmp_eq (tgt := 14) hx hb dX4_isNumberWithin_5 (by decide) (fun c_1 => ?_) (fun c_1 => ?_)
  · refine lv_aload_n hx hb dX4_isNumberWithin_14 rfl (lv_at hl 0 rfl) ?_
    refine va_get (D := (dC, dI)) (ci := 4) (v := .int i_value) (C := RX4) (T := TX4) (N := 10) hx hb hts hin4 hown hK hP 0 rfl rfl 9 (by decide) (hts (.fieldLink RX4 52 "YamRiders$StatuteReader" "value" "I") (by decide +kernel)) (fun _ h9 => h9) rfl dX4_isNumberWithin_15 ?_
    refine lv_iload_n hx hb dX4_isNumberWithin_18 rfl (lv_at hl 1 rfl) ?_
    refine lv_icmp_lt (tgt := 30) hx hb dX4_isNumberWithin_19 (by decide) (fun c_2 => ?_) (fun c_2 => ?_)
    · refine lv_aload_n hx hb dX4_isNumberWithin_30 rfl (lv_at hl 0 rfl) ?_
      refine lv_iconst (v := 3) hx hb dX4_isNumberWithin_31 (by decide) ?_
      have hPc := hP.part (cx := [(h0, .inr (4, [.ref t1, .ref t2, .ref t3, .int i_ruleCount, .int i_faultKind, .int i_faultPlace, .int i_place, .int i_token, .int i_tokenPlace, .int i_value]))]) [0] rfl
      have hDc := hD.part (cx := [(h0, .inr (4, [.ref t1, .ref t2, .ref t3, .int i_ruleCount, .int i_faultKind, .int i_faultPlace, .int i_place, .int i_token, .int i_tokenPlace, .int i_value]))]) [0] (by decide) rfl
      have hKc := hK
      have hFc := va_freeP (cx := [(h0, .inr (4, [.ref t1, .ref t2, .ref t3, .int i_ruleCount, .int i_faultKind, .int i_faultPlace, .int i_place, .int i_token, .int i_tokenPlace, .int i_value]))]) hD hS hA [0] rfl
      refine va_calli (va_runV (As := [.int 3]) (rest := []) ⟨hx, hb, hml, hown, hts⟩ (e_X4_stopAtToken l dC dI cs L ka ix ad n0 n6 n2 S f h0 t1 t2 t3 i_ruleCount i_faultKind i_faultPlace i_place i_token i_tokenPlace i_value 3 s.heap.size hT) (cwV 1 hts gX4_isNumberWithin_X4_stopAtToken rfl rfl rfl (by decide +kernel) ⟨Nat.le_of_ble_eq_true rfl, Nat.le_of_ble_eq_true rfl⟩) ⟨c_blind, va_recv hKc hPc (ci := 4) (q0 := 0) rfl rfl, c_pre hPc hKc hDc hN⟩ rfl rfl hl.1 rfl (lv_room (Nat.le_of_ble_eq_true rfl)) dX4_isNumberWithin_32 ⟨Nat.le_of_ble_eq_true rfl, Nat.le_of_ble_eq_true rfl⟩) hS (fun q _ h => hFc q h) hFc (fun r_3 u9 t9 H1 locs ht hvm hw hB hz1 hk1 hS => ?_)
      obtain ⟨y_ruleCount_4, y_faultKind_5, y_faultPlace_6, y_place_7, y_token_8, y_tokenPlace_9, y_value_10, hP1, hK1, hD1⟩ := hB
      rw [ht] at hP1
      have hK1 := va_K.moved hvm.symm hK1
      obtain ⟨hP, hD⟩ := va_joinP (X := [(h0, .inr (4, [.ref t1, .ref t2, .ref t3, .int i_ruleCount, .int i_faultKind, .int i_faultPlace, .int i_place, .int i_token, .int i_tokenPlace, .int i_value]))]) (cx := [(h0, .inr (4, [.ref t1, .ref t2, .ref t3, .int i_ruleCount, .int i_faultKind, .int i_faultPlace, .int i_place, .int i_token, .int i_tokenPlace, .int i_value]))]) (wr := []) (rx := [(h0, .inr (4, [.ref t1, .ref t2, .ref t3, .int y_ruleCount_4, .int y_faultKind_5, .int y_faultPlace_6, .int y_place_7, .int y_token_8, .int y_tokenPlace_9, .int y_value_10]))]) (pl := va_pl L f) (pl1 := va_pl L f) hP hD [0] [] rfl rfl (by decide) (by decide) hk1 hFc hP1 hD1
      generalize H1 = H at hP hS ⊢
      have hP : va_P (dC, dI) vwCl ([(h0, .inr (4, [.ref t1, .ref t2, .ref t3, .int y_ruleCount_4, .int y_faultKind_5, .int y_faultPlace_6, .int y_place_7, .int y_token_8, .int y_tokenPlace_9, .int y_value_10]))] ++ va_pl L f) H := hP
      have hD : va_D A ([(h0, .inr (4, [.ref t1, .ref t2, .ref t3, .int y_ruleCount_4, .int y_faultKind_5, .int y_faultPlace_6, .int y_place_7, .int y_token_8, .int y_tokenPlace_9, .int y_value_10]))] ++ va_pl L f) := hD
      refine W.widen (k := 0) (n := 0) (Nat.le_of_ble_eq_true rfl) (Nat.le_of_ble_eq_true rfl) ?_
      have hw_11 := hw
      have hP9 := hP.part (cx := [(h0, .inr (4, [.ref t1, .ref t2, .ref t3, .int y_ruleCount_4, .int y_faultKind_5, .int y_faultPlace_6, .int y_place_7, .int y_token_8, .int y_tokenPlace_9, .int y_value_10]))]) [0] rfl
      have hD9 := hD.part (cx := [(h0, .inr (4, [.ref t1, .ref t2, .ref t3, .int y_ruleCount_4, .int y_faultKind_5, .int y_faultPlace_6, .int y_place_7, .int y_token_8, .int y_tokenPlace_9, .int y_value_10]))]) [0] (by decide) rfl
      have hK9 := hK.sub (tys' := []) [] rfl
      refine W.widen (k := 0) (n := 0) (Nat.le_of_ble_eq_true rfl) (Nat.le_of_ble_eq_true rfl) ?_
      exact W.zret (v := r_3) hx hb hr (nz01 hw_11) (fun t9 ht hW => ⟨⟨_, (), rfl, hw_11, y_ruleCount_4, y_faultKind_5, y_faultPlace_6, y_place_7, y_token_8, y_tokenPlace_9, y_value_10, by rw [ht]; exact hP9, va_K.moved hW.alike hK9, hD9⟩, hS.F ht⟩) hS.2.2 dX4_isNumberWithin_35
    · refine lv_aload_n hx hb dX4_isNumberWithin_22 rfl (lv_at hl 0 rfl) ?_
      refine va_get (D := (dC, dI)) (ci := 4) (v := .int i_value) (C := RX4) (T := TX4) (N := 10) hx hb hts hin4 hown hK hP 0 rfl rfl 9 (by decide) (hts (.fieldLink RX4 52 "YamRiders$StatuteReader" "value" "I") (by decide +kernel)) (fun _ h9 => h9) rfl dX4_isNumberWithin_23 ?_
      refine lv_iload_n hx hb dX4_isNumberWithin_26 rfl (lv_at hl 2 rfl) ?_
      refine lv_icmp_le (tgt := 36) hx hb dX4_isNumberWithin_27 (by decide) (fun c_12 => ?_) (fun c_12 => ?_)
      · refine lv_iconst (v := 1) hx hb dX4_isNumberWithin_36 (by decide) ?_
        have hP9 := hP.part (cx := [(h0, .inr (4, [.ref t1, .ref t2, .ref t3, .int i_ruleCount, .int i_faultKind, .int i_faultPlace, .int i_place, .int i_token, .int i_tokenPlace, .int i_value]))]) [0] rfl
        have hD9 := hD.part (cx := [(h0, .inr (4, [.ref t1, .ref t2, .ref t3, .int i_ruleCount, .int i_faultKind, .int i_faultPlace, .int i_place, .int i_token, .int i_tokenPlace, .int i_value]))]) [0] (by decide) rfl
        have hK9 := hK.sub (tys' := []) [] rfl
        refine W.widen (k := 0) (n := 0) (Nat.le_of_ble_eq_true rfl) (Nat.le_of_ble_eq_true rfl) ?_
        exact W.zret (v := 1) hx hb hr rfl (fun t9 ht hW => ⟨⟨_, (), rfl, (Or.inr rfl), i_ruleCount, i_faultKind, i_faultPlace, i_place, i_token, i_tokenPlace, i_value, by rw [ht]; exact hP9, va_K.moved hW.alike hK9, hD9⟩, hS.F ht⟩) hS.2.2 dX4_isNumberWithin_37
      · refine lv_aload_n hx hb dX4_isNumberWithin_30 rfl (lv_at hl 0 rfl) ?_
        refine lv_iconst (v := 3) hx hb dX4_isNumberWithin_31 (by decide) ?_
        have hPc := hP.part (cx := [(h0, .inr (4, [.ref t1, .ref t2, .ref t3, .int i_ruleCount, .int i_faultKind, .int i_faultPlace, .int i_place, .int i_token, .int i_tokenPlace, .int i_value]))]) [0] rfl
        have hDc := hD.part (cx := [(h0, .inr (4, [.ref t1, .ref t2, .ref t3, .int i_ruleCount, .int i_faultKind, .int i_faultPlace, .int i_place, .int i_token, .int i_tokenPlace, .int i_value]))]) [0] (by decide) rfl
        have hKc := hK
        have hFc := va_freeP (cx := [(h0, .inr (4, [.ref t1, .ref t2, .ref t3, .int i_ruleCount, .int i_faultKind, .int i_faultPlace, .int i_place, .int i_token, .int i_tokenPlace, .int i_value]))]) hD hS hA [0] rfl
        refine va_calli (va_runV (As := [.int 3]) (rest := []) ⟨hx, hb, hml, hown, hts⟩ (e_X4_stopAtToken l dC dI cs L ka ix ad n0 n6 n2 S f h0 t1 t2 t3 i_ruleCount i_faultKind i_faultPlace i_place i_token i_tokenPlace i_value 3 s.heap.size hT) (cwV 1 hts gX4_isNumberWithin_X4_stopAtToken rfl rfl rfl (by decide +kernel) ⟨Nat.le_of_ble_eq_true rfl, Nat.le_of_ble_eq_true rfl⟩) ⟨c_blind, va_recv hKc hPc (ci := 4) (q0 := 0) rfl rfl, c_pre hPc hKc hDc hN⟩ rfl rfl hl.1 rfl (lv_room (Nat.le_of_ble_eq_true rfl)) dX4_isNumberWithin_32 ⟨Nat.le_of_ble_eq_true rfl, Nat.le_of_ble_eq_true rfl⟩) hS (fun q _ h => hFc q h) hFc (fun r_13 u9 t9 H1 locs ht hvm hw hB hz1 hk1 hS => ?_)
        obtain ⟨y_ruleCount_14, y_faultKind_15, y_faultPlace_16, y_place_17, y_token_18, y_tokenPlace_19, y_value_20, hP1, hK1, hD1⟩ := hB
        rw [ht] at hP1
        have hK1 := va_K.moved hvm.symm hK1
        obtain ⟨hP, hD⟩ := va_joinP (X := [(h0, .inr (4, [.ref t1, .ref t2, .ref t3, .int i_ruleCount, .int i_faultKind, .int i_faultPlace, .int i_place, .int i_token, .int i_tokenPlace, .int i_value]))]) (cx := [(h0, .inr (4, [.ref t1, .ref t2, .ref t3, .int i_ruleCount, .int i_faultKind, .int i_faultPlace, .int i_place, .int i_token, .int i_tokenPlace, .int i_value]))]) (wr := []) (rx := [(h0, .inr (4, [.ref t1, .ref t2, .ref t3, .int y_ruleCount_14, .int y_faultKind_15, .int y_faultPlace_16, .int y_place_17, .int y_token_18, .int y_tokenPlace_19, .int y_value_20]))]) (pl := va_pl L f) (pl1 := va_pl L f) hP hD [0] [] rfl rfl (by decide) (by decide) hk1 hFc hP1 hD1
        generalize H1 = H at hP hS ⊢
        have hP : va_P (dC, dI) vwCl ([(h0, .inr (4, [.ref t1, .ref t2, .ref t3, .int y_ruleCount_14, .int y_faultKind_15, .int y_faultPlace_16, .int y_place_17, .int y_token_18, .int y_tokenPlace_19, .int y_value_20]))] ++ va_pl L f) H := hP
        have hD : va_D A ([(h0, .inr (4, [.ref t1, .ref t2, .ref t3, .int y_ruleCount_14, .int y_faultKind_15, .int y_faultPlace_16, .int y_place_17, .int y_token_18, .int y_tokenPlace_19, .int y_value_20]))] ++ va_pl L f) := hD
        refine W.widen (k := 0) (n := 0) (Nat.le_of_ble_eq_true rfl) (Nat.le_of_ble_eq_true rfl) ?_
        have hw_21 := hw
        have hP9 := hP.part (cx := [(h0, .inr (4, [.ref t1, .ref t2, .ref t3, .int y_ruleCount_14, .int y_faultKind_15, .int y_faultPlace_16, .int y_place_17, .int y_token_18, .int y_tokenPlace_19, .int y_value_20]))]) [0] rfl
        have hD9 := hD.part (cx := [(h0, .inr (4, [.ref t1, .ref t2, .ref t3, .int y_ruleCount_14, .int y_faultKind_15, .int y_faultPlace_16, .int y_place_17, .int y_token_18, .int y_tokenPlace_19, .int y_value_20]))]) [0] (by decide) rfl
        have hK9 := hK.sub (tys' := []) [] rfl
        refine W.widen (k := 0) (n := 0) (Nat.le_of_ble_eq_true rfl) (Nat.le_of_ble_eq_true rfl) ?_
        exact W.zret (v := r_13) hx hb hr (nz01 hw_21) (fun t9 ht hW => ⟨⟨_, (), rfl, hw_21, y_ruleCount_14, y_faultKind_15, y_faultPlace_16, y_place_17, y_token_18, y_tokenPlace_19, y_value_20, by rw [ht]; exact hP9, va_K.moved hW.alike hK9, hD9⟩, hS.F ht⟩) hS.2.2 dX4_isNumberWithin_35
  · refine lv_aload_n hx hb dX4_isNumberWithin_8 rfl (lv_at hl 0 rfl) ?_
    refine lv_iconst (v := 2) hx hb dX4_isNumberWithin_9 (by decide) ?_
    have hPc := hP.part (cx := [(h0, .inr (4, [.ref t1, .ref t2, .ref t3, .int i_ruleCount, .int i_faultKind, .int i_faultPlace, .int i_place, .int i_token, .int i_tokenPlace, .int i_value]))]) [0] rfl
    have hDc := hD.part (cx := [(h0, .inr (4, [.ref t1, .ref t2, .ref t3, .int i_ruleCount, .int i_faultKind, .int i_faultPlace, .int i_place, .int i_token, .int i_tokenPlace, .int i_value]))]) [0] (by decide) rfl
    have hKc := hK
    have hFc := va_freeP (cx := [(h0, .inr (4, [.ref t1, .ref t2, .ref t3, .int i_ruleCount, .int i_faultKind, .int i_faultPlace, .int i_place, .int i_token, .int i_tokenPlace, .int i_value]))]) hD hS hA [0] rfl
    refine va_calli (va_runV (As := [.int 2]) (rest := []) ⟨hx, hb, hml, hown, hts⟩ (e_X4_stopAtToken l dC dI cs L ka ix ad n0 n6 n2 S f h0 t1 t2 t3 i_ruleCount i_faultKind i_faultPlace i_place i_token i_tokenPlace i_value 2 s.heap.size hT) (cwV 1 hts gX4_isNumberWithin_X4_stopAtToken rfl rfl rfl (by decide +kernel) ⟨Nat.le_of_ble_eq_true rfl, Nat.le_of_ble_eq_true rfl⟩) ⟨c_blind, va_recv hKc hPc (ci := 4) (q0 := 0) rfl rfl, c_pre hPc hKc hDc hN⟩ rfl rfl hl.1 rfl (lv_room (Nat.le_of_ble_eq_true rfl)) dX4_isNumberWithin_10 ⟨Nat.le_of_ble_eq_true rfl, Nat.le_of_ble_eq_true rfl⟩) hS (fun q _ h => hFc q h) hFc (fun r_22 u9 t9 H1 locs ht hvm hw hB hz1 hk1 hS => ?_)
    obtain ⟨y_ruleCount_23, y_faultKind_24, y_faultPlace_25, y_place_26, y_token_27, y_tokenPlace_28, y_value_29, hP1, hK1, hD1⟩ := hB
    rw [ht] at hP1
    have hK1 := va_K.moved hvm.symm hK1
    obtain ⟨hP, hD⟩ := va_joinP (X := [(h0, .inr (4, [.ref t1, .ref t2, .ref t3, .int i_ruleCount, .int i_faultKind, .int i_faultPlace, .int i_place, .int i_token, .int i_tokenPlace, .int i_value]))]) (cx := [(h0, .inr (4, [.ref t1, .ref t2, .ref t3, .int i_ruleCount, .int i_faultKind, .int i_faultPlace, .int i_place, .int i_token, .int i_tokenPlace, .int i_value]))]) (wr := []) (rx := [(h0, .inr (4, [.ref t1, .ref t2, .ref t3, .int y_ruleCount_23, .int y_faultKind_24, .int y_faultPlace_25, .int y_place_26, .int y_token_27, .int y_tokenPlace_28, .int y_value_29]))]) (pl := va_pl L f) (pl1 := va_pl L f) hP hD [0] [] rfl rfl (by decide) (by decide) hk1 hFc hP1 hD1
    generalize H1 = H at hP hS ⊢
    have hP : va_P (dC, dI) vwCl ([(h0, .inr (4, [.ref t1, .ref t2, .ref t3, .int y_ruleCount_23, .int y_faultKind_24, .int y_faultPlace_25, .int y_place_26, .int y_token_27, .int y_tokenPlace_28, .int y_value_29]))] ++ va_pl L f) H := hP
    have hD : va_D A ([(h0, .inr (4, [.ref t1, .ref t2, .ref t3, .int y_ruleCount_23, .int y_faultKind_24, .int y_faultPlace_25, .int y_place_26, .int y_token_27, .int y_tokenPlace_28, .int y_value_29]))] ++ va_pl L f) := hD
    refine W.widen (k := 0) (n := 0) (Nat.le_of_ble_eq_true rfl) (Nat.le_of_ble_eq_true rfl) ?_
    have hw_30 := hw
    have hP9 := hP.part (cx := [(h0, .inr (4, [.ref t1, .ref t2, .ref t3, .int y_ruleCount_23, .int y_faultKind_24, .int y_faultPlace_25, .int y_place_26, .int y_token_27, .int y_tokenPlace_28, .int y_value_29]))]) [0] rfl
    have hD9 := hD.part (cx := [(h0, .inr (4, [.ref t1, .ref t2, .ref t3, .int y_ruleCount_23, .int y_faultKind_24, .int y_faultPlace_25, .int y_place_26, .int y_token_27, .int y_tokenPlace_28, .int y_value_29]))]) [0] (by decide) rfl
    have hK9 := hK.sub (tys' := []) [] rfl
    refine W.widen (k := 0) (n := 0) (Nat.le_of_ble_eq_true rfl) (Nat.le_of_ble_eq_true rfl) ?_
    exact W.zret (v := r_22) hx hb hr (nz01 hw_30) (fun t9 ht hW => ⟨⟨_, (), rfl, hw_30, y_ruleCount_23, y_faultKind_24, y_faultPlace_25, y_place_26, y_token_27, y_tokenPlace_28, y_value_29, by rw [ht]; exact hP9, va_K.moved hW.alike hK9, hD9⟩, hS.F ht⟩) hS.2.2 dX4_isNumberWithin_13

set_option maxHeartbeats 4000000 in
set_option maxRecDepth 100000 in
theorem e_X4_readWordOrNumber (l : Launch) (dC : Nat → ClassId) (dI : Nat → Nat → Nat) (cs : Nat → ClassId) (L : List Nat) (ka : Nat → Nat) (ix : Nat → Nat) (ad : Nat → Nat → Nat) (n0 : Nat) (n6 : Nat) (n2 : Nat) (S : Nat → Nat → Nat → Int32) (f : Nat → va_E) (h0 : Nat) (t1 : Nat) (t2 : Nat) (t3 : Nat) (i_ruleCount : Int32) (i_faultKind : Int32) (i_faultPlace : Int32) (i_place : Int32) (i_token : Int32) (i_tokenPlace : Int32) (i_value : Int32) (u1 : Nat) (i_len : Int32) (a_b : Nat → Int32) (sz : Nat) (hT : tB L ka ix ad cs n0 n6 n2 S f) : Met l yX4_readWordOrNumber wsX4_readWordOrNumber ({ frames := 1, cells := 0, slots := 0, locals := 21 }) (va_Pc [.ref h0] (cP dC dI ([(h0, .inr (4, [.ref t1, .ref t2, .ref t3, .int i_ruleCount, .int i_faultKind, .int i_faultPlace, .int i_place, .int i_token, .int i_tokenPlace, .int i_value])), (t1, .inr (7, [.ref u1, .int i_len])), (u1, .inl (cs 0, 200, .inl a_b))] ++ va_pl L f) (tyC cs) sz)) (va_Qv (fun (_ : Unit) => True) (fun (_ : Unit) t9 => ∃ (y_ruleCount : Int32) (y_faultKind : Int32) (y_faultPlace : Int32) (y_place : Int32) (y_token : Int32) (y_tokenPlace : Int32) (y_value : Int32), cQ dC dI ([(h0, .inr (4, [.ref t1, .ref t2, .ref t3, .int y_ruleCount, .int y_faultKind, .int y_faultPlace, .int y_place, .int y_token, .int y_tokenPlace, .int y_value])), (t1, .inr (7, [.ref u1, .int i_len])), (u1, .inl (cs 0, 200, .inl a_b))] ++ va_pl L f) [] (va_A ([(h0, .inr (4, [.ref t1, .ref t2, .ref t3, .int i_ruleCount, .int i_faultKind, .int i_faultPlace, .int i_place, .int i_token, .int i_tokenPlace, .int i_value])), (t1, .inr (7, [.ref u1, .int i_len])), (u1, .inl (cs 0, 200, .inl a_b))] ++ va_pl L f) sz) t9) (va_A ([(h0, .inr (4, [.ref t1, .ref t2, .ref t3, .int i_ruleCount, .int i_faultKind, .int i_faultPlace, .int i_place, .int i_token, .int i_tokenPlace, .int i_value])), (t1, .inr (7, [.ref u1, .int i_len])), (u1, .inl (cs 0, 200, .inl a_b))] ++ va_pl L f) sz)) 0 0 (va_A ([(h0, .inr (4, [.ref t1, .ref t2, .ref t3, .int i_ruleCount, .int i_faultKind, .int i_faultPlace, .int i_place, .int i_token, .int i_tokenPlace, .int i_value])), (t1, .inr (7, [.ref u1, .int i_len])), (u1, .inl (cs 0, 200, .inl a_b))] ++ va_pl L f) sz) := by
  refine Met.ofW (cc := cX4_readWordOrNumber) (maxL := 4) (ret := none) (by decide) rfl ?_
  intro p e s m args below meth c s₁ B hml hv
  obtain ⟨rfl, hsz, hP, hK, hD0, hN⟩ := hv
  have hx := B.exec
  have hb := B.bytes
  have hr := B.returns
  have hts := atoms_spec (ws := wsX4_readWordOrNumber) B.pre
  have hown : s.vm.findClass RX4 = some m.cls := findClass_of_methodNamed B.named
  have hlocks := B.notSynchronized
  subst hsz
  have hin4 : ∀ w ∈ u_ws RX4 TX4 10, w ∈ wsX4_readWordOrNumber := by decide +kernel
  have hin7 : ∀ w ∈ u_ws RX7 TX7 2, w ∈ wsX4_readWordOrNumber := by decide +kernel
  have hD := hD0.self (sz := s.heap.size)
  generalize hAe : va_A ([(h0, .inr (4, [.ref t1, .ref t2, .ref t3, .int i_ruleCount, .int i_faultKind, .int i_faultPlace, .int i_place, .int i_token, .int i_tokenPlace, .int i_value])), (t1, .inr (7, [.ref u1, .int i_len])), (u1, .inl (cs 0, 200, .inl a_b))] ++ va_pl L f) s.heap.size = A at hD ⊢
  have hA : ∀ q : Nat, s.heap.size ≤ q → A q := fun q h => by rw [← hAe]; exact Or.inr h
  have hS : va_S A s.heap s.heap [] := va_S.rf
  have hP : va_P (dC, dI) vwCl ([(h0, .inr (4, [.ref t1, .ref t2, .ref t3, .int i_ruleCount, .int i_faultKind, .int i_faultPlace, .int i_place, .int i_token, .int i_tokenPlace, .int i_value])), (t1, .inr (7, [.ref u1, .int i_len])), (u1, .inl (cs 0, 200, .inl a_b))] ++ va_pl L f) s.heap := hP
  have hl := lv_entry ([.ref h0]) (n := 4) (Nat.le_of_ble_eq_true rfl)
  rw [lg_entry_eq]
  generalize (lg_sl ([.ref h0]) ++ List.replicate (4 - (lg_sl ([.ref h0])).length) Slot.unset).toArray = ls at hl ⊢
  have hl : lv_has ls 4 [(0, .ref h0)] := hl
  refine lv_iconst (v := 0) hx hb dX4_readWordOrNumber_0 (by decide) ?_
  refine lv_istore_n (lv' := [(1, .int 0), (0, .ref h0)]) hx hb dX4_readWordOrNumber_1 rfl hl (by decide) rfl (fun ls hl => ?_)
  refine lv_iconst (v := 0) hx hb dX4_readWordOrNumber_2 (by decide) ?_
  refine lv_istore_n (lv' := [(2, .int 0), (1, .int 0), (0, .ref h0)]) hx hb dX4_readWordOrNumber_3 rfl hl (by decide) rfl (fun ls hl => ?_)
  refine lv_aload_n hx hb dX4_readWordOrNumber_4 rfl (lv_at hl 2 rfl) ?_
  refine lv_iconst (v := 0) hx hb dX4_readWordOrNumber_5 (by decide) ?_
  refine va_put (D := (dC, dI)) (ci := 4) (v := .int 0) (ty := (tyX4 9)) (C := RX4) (T := TX4) (N := 10) hx hb hts hin4 tyX4 tyX4_ok nmX4 hown hK hP hD hS 0 rfl rfl 9 (by decide) (hts (.fieldLink RX4 52 "YamRiders$StatuteReader" "value" "I") (by decide +kernel)) (fun _ h9 => h9) rfl (by decide +kernel) rfl rfl (Nat.le_of_ble_eq_true rfl) dX4_readWordOrNumber_6 (fun H locs hP hD hS => ?_)
  have hP : va_P (dC, dI) vwCl ([(h0, .inr (4, [.ref t1, .ref t2, .ref t3, .int i_ruleCount, .int i_faultKind, .int i_faultPlace, .int i_place, .int i_token, .int i_tokenPlace, .int 0])), (t1, .inr (7, [.ref u1, .int i_len])), (u1, .inl (cs 0, 200, .inl a_b))] ++ va_pl L f) H := hP
  have hD : va_D A ([(h0, .inr (4, [.ref t1, .ref t2, .ref t3, .int i_ruleCount, .int i_faultKind, .int i_faultPlace, .int i_place, .int i_token, .int i_tokenPlace, .int 0])), (t1, .inr (7, [.ref u1, .int i_len])), (u1, .inl (cs 0, 200, .inl a_b))] ++ va_pl L f) := hD
  have HL_a : ∀ (n_a : Nat) (x9 : Int32) (x1 : Int32) (x2 : Int32) (va8 : Int32), rk9 i_len x9 + 1 ≤ n_a → ∀ (H : Heap) (locs : List Loc), va_P (dC, dI) vwCl ([(h0, .inr (4, [.ref t1, .ref t2, .ref t3, .int i_ruleCount, .int i_faultKind, .int i_faultPlace, .int x9, .int i_token, .int i_tokenPlace, .int va8])), (t1, .inr (7, [.ref u1, .int i_len])), (u1, .inl (cs 0, 200, .inl a_b))] ++ va_pl L f) H → va_D A ([(h0, .inr (4, [.ref t1, .ref t2, .ref t3, .int i_ruleCount, .int i_faultKind, .int i_faultPlace, .int x9, .int i_token, .int i_tokenPlace, .int va8])), (t1, .inr (7, [.ref u1, .int i_len])), (u1, .inl (cs 0, 200, .inl a_b))] ++ va_pl L f) → va_S A s.heap H locs → ∀ ls : Array Slot, lv_has ls 4 [(0, .ref h0), (1, .int x1), (2, .int x2)] → W p l e (headSpec wsX4_readWordOrNumber ({ frames := 1, cells := 0, slots := 0, locals := 21 })).room s m ([.ref h0]).toArray below meth c H locs 0 0 (MQ below (va_Qv (fun (_ : Unit) => True) (fun (_ : Unit) t9 => ∃ (y_ruleCount : Int32) (y_faultKind : Int32) (y_faultPlace : Int32) (y_place : Int32) (y_token : Int32) (y_tokenPlace : Int32) (y_value : Int32), cQ dC dI ([(h0, .inr (4, [.ref t1, .ref t2, .ref t3, .int y_ruleCount, .int y_faultKind, .int y_faultPlace, .int y_place, .int y_token, .int y_tokenPlace, .int y_value])), (t1, .inr (7, [.ref u1, .int i_len])), (u1, .inl (cs 0, 200, .inl a_b))] ++ va_pl L f) [] A t9) A) ([.ref h0]).toArray s 0 0 A) (F0 m 9 ls []) := by
    intro n_a
    induction n_a with
    | zero => intro x9 x1 x2 va8 hfu; exact absurd hfu (by omega)
    | succ n_a ih_a =>
      intro x9 x1 x2 va8 hfu_a H locs hP hD hS ls hl
      refine lv_aload_n hx hb dX4_readWordOrNumber_9 rfl (lv_at hl 0 rfl) ?_
      refine va_get (D := (dC, dI)) (ci := 4) (v := .int x9) (C := RX4) (T := TX4) (N := 10) hx hb hts hin4 hown hK hP 0 rfl rfl 6 (by decide) (hts (.fieldLink RX4 96 "YamRiders$StatuteReader" "place" "I") (by decide +kernel)) (fun _ h9 => h9) rfl dX4_readWordOrNumber_10 ?_
      refine lv_aload_n hx hb dX4_readWordOrNumber_13 rfl (lv_at hl 0 rfl) ?_
      refine va_get (D := (dC, dI)) (ci := 4) (v := .ref t1) (C := RX4) (T := TX4) (N := 10) hx hb hts hin4 hown hK hP 0 rfl rfl 0 (by decide) (hts (.fieldLink RX4 22 "YamRiders$StatuteReader" "tape" "LYamRiders$Tape;") (by decide +kernel)) (fun _ h9 => h9) rfl dX4_readWordOrNumber_14 ?_
      refine va_getN (D := (dC, dI)) (ci := 7) (v := .int i_len) (C := RX7) (T := TX7) (N := 2) hx hb hts hin7 hown hK hP 1 rfl rfl 1 (by decide) (hN.nx (.fieldLinkNest RX4 99 "YamRiders$Tape" "length" "I" "YamRiders") (by decide +kernel)) (fun _ h9 => h9) rfl dX4_readWordOrNumber_17 ?_
      refine lv_icmp_ge (tgt := 113) hx hb dX4_readWordOrNumber_20 (by decide) (fun c_1 => ?_) (fun c_1 => ?_)
      · refine lv_aload_n hx hb dX4_readWordOrNumber_113 rfl (lv_at hl 0 rfl) ?_
        refine va_get (D := (dC, dI)) (ci := 4) (v := .int x9) (C := RX4) (T := TX4) (N := 10) hx hb hts hin4 hown hK hP 0 rfl rfl 6 (by decide) (hts (.fieldLink RX4 96 "YamRiders$StatuteReader" "place" "I") (by decide +kernel)) (fun _ h9 => h9) rfl dX4_readWordOrNumber_114 ?_
        refine lv_aload_n hx hb dX4_readWordOrNumber_117 rfl (lv_at hl 0 rfl) ?_
        refine va_get (D := (dC, dI)) (ci := 4) (v := .int i_tokenPlace) (C := RX4) (T := TX4) (N := 10) hx hb hts hin4 hown hK hP 0 rfl rfl 8 (by decide) (hts (.fieldLink RX4 90 "YamRiders$StatuteReader" "tokenPlace" "I") (by decide +kernel)) (fun _ h9 => h9) rfl dX4_readWordOrNumber_118 ?_
        refine lv_isub hx hb dX4_readWordOrNumber_121 ?_
        refine lv_topi (fun v_2 ev_2 => ?_)
        refine lv_istore_n (lv' := [(3, .int v_2), (0, .ref h0), (1, .int x1), (2, .int x2)]) hx hb dX4_readWordOrNumber_122 rfl hl (by decide) rfl (fun ls hl => ?_)
        refine lv_iload_n hx hb dX4_readWordOrNumber_123 rfl (lv_at hl 0 rfl) ?_
        refine lv_if_le (tgt := 140) hx hb dX4_readWordOrNumber_124 (by decide) (fun c_3 => ?_) (fun c_3 => ?_)
        · refine lv_iload_n hx hb dX4_readWordOrNumber_140 rfl (lv_at hl 0 rfl) ?_
          refine lv_if_le (tgt := 162) hx hb dX4_readWordOrNumber_141 (by decide) (fun _ => ?_) (fun c_4 => by first | exact absurd c_4 c_3 | exact absurd c_3 c_4)
          refine lv_aload_n hx hb dX4_readWordOrNumber_162 rfl (lv_at hl 1 rfl) ?_
          refine lv_iconst (v := 4) hx hb dX4_readWordOrNumber_163 (by decide) ?_
          refine va_put (D := (dC, dI)) (ci := 4) (v := .int 4) (ty := (tyX4 7)) (C := RX4) (T := TX4) (N := 10) hx hb hts hin4 tyX4 tyX4_ok nmX4 hown hK hP hD hS 0 rfl rfl 7 (by decide) (hts (.fieldLink RX4 29 "YamRiders$StatuteReader" "token" "I") (by decide +kernel)) (fun _ h9 => h9) rfl (by decide +kernel) rfl rfl (Nat.le_of_ble_eq_true rfl) dX4_readWordOrNumber_164 (fun H locs hP hD hS => ?_)
          have hP : va_P (dC, dI) vwCl ([(h0, .inr (4, [.ref t1, .ref t2, .ref t3, .int i_ruleCount, .int i_faultKind, .int i_faultPlace, .int x9, .int 4, .int i_tokenPlace, .int va8])), (t1, .inr (7, [.ref u1, .int i_len])), (u1, .inl (cs 0, 200, .inl a_b))] ++ va_pl L f) H := hP
          have hD : va_D A ([(h0, .inr (4, [.ref t1, .ref t2, .ref t3, .int i_ruleCount, .int i_faultKind, .int i_faultPlace, .int x9, .int 4, .int i_tokenPlace, .int va8])), (t1, .inr (7, [.ref u1, .int i_len])), (u1, .inl (cs 0, 200, .inl a_b))] ++ va_pl L f) := hD
          have hP9 := hP.part (cx := [(h0, .inr (4, [.ref t1, .ref t2, .ref t3, .int i_ruleCount, .int i_faultKind, .int i_faultPlace, .int x9, .int 4, .int i_tokenPlace, .int va8])), (t1, .inr (7, [.ref u1, .int i_len])), (u1, .inl (cs 0, 200, .inl a_b))]) [0, 1, 2] rfl
          have hD9 := hD.part (cx := [(h0, .inr (4, [.ref t1, .ref t2, .ref t3, .int i_ruleCount, .int i_faultKind, .int i_faultPlace, .int x9, .int 4, .int i_tokenPlace, .int va8])), (t1, .inr (7, [.ref u1, .int i_len])), (u1, .inl (cs 0, 200, .inl a_b))]) [0, 1, 2] (by decide) rfl
          have hK9 := hK.sub (tys' := []) [] rfl
          refine W.widen (k := 0) (n := 0) (Nat.le_of_ble_eq_true rfl) (Nat.le_of_ble_eq_true rfl) ?_
          exact W.vret hx hb hr (fun t9 ht hW => ⟨⟨(), rfl, trivial, i_ruleCount, i_faultKind, i_faultPlace, x9, 4, i_tokenPlace, va8, by rw [ht]; exact hP9, va_K.moved hW.alike hK9, hD9⟩, hS.F ht⟩) hS.2.2 dX4_readWordOrNumber_167
        · refine lv_iload_n hx hb dX4_readWordOrNumber_127 rfl (lv_at hl 2 rfl) ?_
          refine lv_iload_n hx hb dX4_readWordOrNumber_128 rfl (lv_at hl 0 rfl) ?_
          refine lv_icmp_ne (tgt := 140) hx hb dX4_readWordOrNumber_129 (by decide) (fun c_5 => ?_) (fun c_5 => ?_)
          · refine lv_iload_n hx hb dX4_readWordOrNumber_140 rfl (lv_at hl 0 rfl) ?_
            refine lv_if_le (tgt := 162) hx hb dX4_readWordOrNumber_141 (by decide) (fun c_6 => by first | exact absurd c_6 c_3 | exact absurd c_3 c_6) (fun _ => ?_)
            refine lv_iload_n hx hb dX4_readWordOrNumber_144 rfl (lv_at hl 0 rfl) ?_
            refine lv_iconst (v := 3) hx hb dX4_readWordOrNumber_145 (by decide) ?_
            refine lv_icmp_gt (tgt := 162) hx hb dX4_readWordOrNumber_146 (by decide) (fun c_7 => ?_) (fun c_7 => ?_)
            · refine lv_aload_n hx hb dX4_readWordOrNumber_162 rfl (lv_at hl 1 rfl) ?_
              refine lv_iconst (v := 4) hx hb dX4_readWordOrNumber_163 (by decide) ?_
              refine va_put (D := (dC, dI)) (ci := 4) (v := .int 4) (ty := (tyX4 7)) (C := RX4) (T := TX4) (N := 10) hx hb hts hin4 tyX4 tyX4_ok nmX4 hown hK hP hD hS 0 rfl rfl 7 (by decide) (hts (.fieldLink RX4 29 "YamRiders$StatuteReader" "token" "I") (by decide +kernel)) (fun _ h9 => h9) rfl (by decide +kernel) rfl rfl (Nat.le_of_ble_eq_true rfl) dX4_readWordOrNumber_164 (fun H locs hP hD hS => ?_)
              have hP : va_P (dC, dI) vwCl ([(h0, .inr (4, [.ref t1, .ref t2, .ref t3, .int i_ruleCount, .int i_faultKind, .int i_faultPlace, .int x9, .int 4, .int i_tokenPlace, .int va8])), (t1, .inr (7, [.ref u1, .int i_len])), (u1, .inl (cs 0, 200, .inl a_b))] ++ va_pl L f) H := hP
              have hD : va_D A ([(h0, .inr (4, [.ref t1, .ref t2, .ref t3, .int i_ruleCount, .int i_faultKind, .int i_faultPlace, .int x9, .int 4, .int i_tokenPlace, .int va8])), (t1, .inr (7, [.ref u1, .int i_len])), (u1, .inl (cs 0, 200, .inl a_b))] ++ va_pl L f) := hD
              have hP9 := hP.part (cx := [(h0, .inr (4, [.ref t1, .ref t2, .ref t3, .int i_ruleCount, .int i_faultKind, .int i_faultPlace, .int x9, .int 4, .int i_tokenPlace, .int va8])), (t1, .inr (7, [.ref u1, .int i_len])), (u1, .inl (cs 0, 200, .inl a_b))]) [0, 1, 2] rfl
              have hD9 := hD.part (cx := [(h0, .inr (4, [.ref t1, .ref t2, .ref t3, .int i_ruleCount, .int i_faultKind, .int i_faultPlace, .int x9, .int 4, .int i_tokenPlace, .int va8])), (t1, .inr (7, [.ref u1, .int i_len])), (u1, .inl (cs 0, 200, .inl a_b))]) [0, 1, 2] (by decide) rfl
              have hK9 := hK.sub (tys' := []) [] rfl
              refine W.widen (k := 0) (n := 0) (Nat.le_of_ble_eq_true rfl) (Nat.le_of_ble_eq_true rfl) ?_
              exact W.vret hx hb hr (fun t9 ht hW => ⟨⟨(), rfl, trivial, i_ruleCount, i_faultKind, i_faultPlace, x9, 4, i_tokenPlace, va8, by rw [ht]; exact hP9, va_K.moved hW.alike hK9, hD9⟩, hS.F ht⟩) hS.2.2 dX4_readWordOrNumber_167
            · refine lv_iload_n hx hb dX4_readWordOrNumber_149 rfl (lv_at hl 3 rfl) ?_
              refine lv_iload_n hx hb dX4_readWordOrNumber_150 rfl (lv_at hl 0 rfl) ?_
              refine lv_icmp_ne (tgt := 162) hx hb dX4_readWordOrNumber_151 (by decide) (fun c_8 => ?_) (fun c_8 => ?_)
              · refine lv_aload_n hx hb dX4_readWordOrNumber_162 rfl (lv_at hl 1 rfl) ?_
                refine lv_iconst (v := 4) hx hb dX4_readWordOrNumber_163 (by decide) ?_
                refine va_put (D := (dC, dI)) (ci := 4) (v := .int 4) (ty := (tyX4 7)) (C := RX4) (T := TX4) (N := 10) hx hb hts hin4 tyX4 tyX4_ok nmX4 hown hK hP hD hS 0 rfl rfl 7 (by decide) (hts (.fieldLink RX4 29 "YamRiders$StatuteReader" "token" "I") (by decide +kernel)) (fun _ h9 => h9) rfl (by decide +kernel) rfl rfl (Nat.le_of_ble_eq_true rfl) dX4_readWordOrNumber_164 (fun H locs hP hD hS => ?_)
                have hP : va_P (dC, dI) vwCl ([(h0, .inr (4, [.ref t1, .ref t2, .ref t3, .int i_ruleCount, .int i_faultKind, .int i_faultPlace, .int x9, .int 4, .int i_tokenPlace, .int va8])), (t1, .inr (7, [.ref u1, .int i_len])), (u1, .inl (cs 0, 200, .inl a_b))] ++ va_pl L f) H := hP
                have hD : va_D A ([(h0, .inr (4, [.ref t1, .ref t2, .ref t3, .int i_ruleCount, .int i_faultKind, .int i_faultPlace, .int x9, .int 4, .int i_tokenPlace, .int va8])), (t1, .inr (7, [.ref u1, .int i_len])), (u1, .inl (cs 0, 200, .inl a_b))] ++ va_pl L f) := hD
                have hP9 := hP.part (cx := [(h0, .inr (4, [.ref t1, .ref t2, .ref t3, .int i_ruleCount, .int i_faultKind, .int i_faultPlace, .int x9, .int 4, .int i_tokenPlace, .int va8])), (t1, .inr (7, [.ref u1, .int i_len])), (u1, .inl (cs 0, 200, .inl a_b))]) [0, 1, 2] rfl
                have hD9 := hD.part (cx := [(h0, .inr (4, [.ref t1, .ref t2, .ref t3, .int i_ruleCount, .int i_faultKind, .int i_faultPlace, .int x9, .int 4, .int i_tokenPlace, .int va8])), (t1, .inr (7, [.ref u1, .int i_len])), (u1, .inl (cs 0, 200, .inl a_b))]) [0, 1, 2] (by decide) rfl
                have hK9 := hK.sub (tys' := []) [] rfl
                refine W.widen (k := 0) (n := 0) (Nat.le_of_ble_eq_true rfl) (Nat.le_of_ble_eq_true rfl) ?_
                exact W.vret hx hb hr (fun t9 ht hW => ⟨⟨(), rfl, trivial, i_ruleCount, i_faultKind, i_faultPlace, x9, 4, i_tokenPlace, va8, by rw [ht]; exact hP9, va_K.moved hW.alike hK9, hD9⟩, hS.F ht⟩) hS.2.2 dX4_readWordOrNumber_167
              · refine lv_aload_n hx hb dX4_readWordOrNumber_154 rfl (lv_at hl 1 rfl) ?_
                refine lv_iconst (v := 2) hx hb dX4_readWordOrNumber_155 (by decide) ?_
                refine va_put (D := (dC, dI)) (ci := 4) (v := .int 2) (ty := (tyX4 7)) (C := RX4) (T := TX4) (N := 10) hx hb hts hin4 tyX4 tyX4_ok nmX4 hown hK hP hD hS 0 rfl rfl 7 (by decide) (hts (.fieldLink RX4 29 "YamRiders$StatuteReader" "token" "I") (by decide +kernel)) (fun _ h9 => h9) rfl (by decide +kernel) rfl rfl (Nat.le_of_ble_eq_true rfl) dX4_readWordOrNumber_156 (fun H locs hP hD hS => ?_)
                have hP : va_P (dC, dI) vwCl ([(h0, .inr (4, [.ref t1, .ref t2, .ref t3, .int i_ruleCount, .int i_faultKind, .int i_faultPlace, .int x9, .int 2, .int i_tokenPlace, .int va8])), (t1, .inr (7, [.ref u1, .int i_len])), (u1, .inl (cs 0, 200, .inl a_b))] ++ va_pl L f) H := hP
                have hD : va_D A ([(h0, .inr (4, [.ref t1, .ref t2, .ref t3, .int i_ruleCount, .int i_faultKind, .int i_faultPlace, .int x9, .int 2, .int i_tokenPlace, .int va8])), (t1, .inr (7, [.ref u1, .int i_len])), (u1, .inl (cs 0, 200, .inl a_b))] ++ va_pl L f) := hD
                refine lv_goto (tgt := 167) hx hb dX4_readWordOrNumber_159 (by decide) ?_
                have hP9 := hP.part (cx := [(h0, .inr (4, [.ref t1, .ref t2, .ref t3, .int i_ruleCount, .int i_faultKind, .int i_faultPlace, .int x9, .int 2, .int i_tokenPlace, .int va8])), (t1, .inr (7, [.ref u1, .int i_len])), (u1, .inl (cs 0, 200, .inl a_b))]) [0, 1, 2] rfl
                have hD9 := hD.part (cx := [(h0, .inr (4, [.ref t1, .ref t2, .ref t3, .int i_ruleCount, .int i_faultKind, .int i_faultPlace, .int x9, .int 2, .int i_tokenPlace, .int va8])), (t1, .inr (7, [.ref u1, .int i_len])), (u1, .inl (cs 0, 200, .inl a_b))]) [0, 1, 2] (by decide) rfl
                have hK9 := hK.sub (tys' := []) [] rfl
                refine W.widen (k := 0) (n := 0) (Nat.le_of_ble_eq_true rfl) (Nat.le_of_ble_eq_true rfl) ?_
                exact W.vret hx hb hr (fun t9 ht hW => ⟨⟨(), rfl, trivial, i_ruleCount, i_faultKind, i_faultPlace, x9, 2, i_tokenPlace, va8, by rw [ht]; exact hP9, va_K.moved hW.alike hK9, hD9⟩, hS.F ht⟩) hS.2.2 dX4_readWordOrNumber_167
          · refine lv_aload_n hx hb dX4_readWordOrNumber_132 rfl (lv_at hl 1 rfl) ?_
            refine lv_iconst (v := 1) hx hb dX4_readWordOrNumber_133 (by decide) ?_
            refine va_put (D := (dC, dI)) (ci := 4) (v := .int 1) (ty := (tyX4 7)) (C := RX4) (T := TX4) (N := 10) hx hb hts hin4 tyX4 tyX4_ok nmX4 hown hK hP hD hS 0 rfl rfl 7 (by decide) (hts (.fieldLink RX4 29 "YamRiders$StatuteReader" "token" "I") (by decide +kernel)) (fun _ h9 => h9) rfl (by decide +kernel) rfl rfl (Nat.le_of_ble_eq_true rfl) dX4_readWordOrNumber_134 (fun H locs hP hD hS => ?_)
            have hP : va_P (dC, dI) vwCl ([(h0, .inr (4, [.ref t1, .ref t2, .ref t3, .int i_ruleCount, .int i_faultKind, .int i_faultPlace, .int x9, .int 1, .int i_tokenPlace, .int va8])), (t1, .inr (7, [.ref u1, .int i_len])), (u1, .inl (cs 0, 200, .inl a_b))] ++ va_pl L f) H := hP
            have hD : va_D A ([(h0, .inr (4, [.ref t1, .ref t2, .ref t3, .int i_ruleCount, .int i_faultKind, .int i_faultPlace, .int x9, .int 1, .int i_tokenPlace, .int va8])), (t1, .inr (7, [.ref u1, .int i_len])), (u1, .inl (cs 0, 200, .inl a_b))] ++ va_pl L f) := hD
            refine lv_goto (tgt := 167) hx hb dX4_readWordOrNumber_137 (by decide) ?_
            have hP9 := hP.part (cx := [(h0, .inr (4, [.ref t1, .ref t2, .ref t3, .int i_ruleCount, .int i_faultKind, .int i_faultPlace, .int x9, .int 1, .int i_tokenPlace, .int va8])), (t1, .inr (7, [.ref u1, .int i_len])), (u1, .inl (cs 0, 200, .inl a_b))]) [0, 1, 2] rfl
            have hD9 := hD.part (cx := [(h0, .inr (4, [.ref t1, .ref t2, .ref t3, .int i_ruleCount, .int i_faultKind, .int i_faultPlace, .int x9, .int 1, .int i_tokenPlace, .int va8])), (t1, .inr (7, [.ref u1, .int i_len])), (u1, .inl (cs 0, 200, .inl a_b))]) [0, 1, 2] (by decide) rfl
            have hK9 := hK.sub (tys' := []) [] rfl
            refine W.widen (k := 0) (n := 0) (Nat.le_of_ble_eq_true rfl) (Nat.le_of_ble_eq_true rfl) ?_
            exact W.vret hx hb hr (fun t9 ht hW => ⟨⟨(), rfl, trivial, i_ruleCount, i_faultKind, i_faultPlace, x9, 1, i_tokenPlace, va8, by rw [ht]; exact hP9, va_K.moved hW.alike hK9, hD9⟩, hS.F ht⟩) hS.2.2 dX4_readWordOrNumber_167
      · refine lv_aload_n hx hb dX4_readWordOrNumber_23 rfl (lv_at hl 0 rfl) ?_
        refine va_get (D := (dC, dI)) (ci := 4) (v := .ref t1) (C := RX4) (T := TX4) (N := 10) hx hb hts hin4 hown hK hP 0 rfl rfl 0 (by decide) (hts (.fieldLink RX4 22 "YamRiders$StatuteReader" "tape" "LYamRiders$Tape;") (by decide +kernel)) (fun _ h9 => h9) rfl dX4_readWordOrNumber_24 ?_
        refine lv_aload_n hx hb dX4_readWordOrNumber_27 rfl (lv_at hl 0 rfl) ?_
        refine va_get (D := (dC, dI)) (ci := 4) (v := .int x9) (C := RX4) (T := TX4) (N := 10) hx hb hts hin4 hown hK hP 0 rfl rfl 6 (by decide) (hts (.fieldLink RX4 96 "YamRiders$StatuteReader" "place" "I") (by decide +kernel)) (fun _ h9 => h9) rfl dX4_readWordOrNumber_28 ?_
        have hPc := hP.sub (ws' := [(t1, .inr (7, [.ref u1, .int i_len])), (u1, .inl (cs 0, 200, .inl a_b))]) [1, 2] rfl
        have hDc := hD.sub (ws' := [(t1, .inr (7, [.ref u1, .int i_len])), (u1, .inl (cs 0, 200, .inl a_b))]) [1, 2] (by decide) rfl
        have hKc := hK.sub (tys' := [(cs 0, .int)]) [0] rfl
        refine cs_i (va_runV (As := [.int x9]) (rest := []) ⟨hx, hb, hml, hown, hts⟩ (g_X7_byteAt l dC dI t1 u1 (cs 0) a_b x9 i_len H.size) (cwV 1 hts gX4_readWordOrNumber_X7_byteAt rfl rfl rfl (by decide +kernel) ⟨Nat.le_of_ble_eq_true rfl, Nat.le_of_ble_eq_true rfl⟩) ⟨c_blind, va_recv hKc hPc (ci := 7) (q0 := 0) rfl rfl, c_pre hPc hKc hDc hN⟩ rfl rfl hl.1 rfl (lv_room (Nat.le_of_ble_eq_true rfl)) dX4_readWordOrNumber_31 ⟨Nat.le_of_ble_eq_true rfl, Nat.le_of_ble_eq_true rfl⟩) (fun r_9 hr_9 => ?_)
        have hPc := hP.part (cx := []) [] rfl
        have hDc := hD.part (cx := []) [] (by decide) rfl
        have hKc := hK
        refine cs_i (va_runS (As := [.int r_9]) (rest := []) ⟨hx, hb, hml, hown, hts⟩ (e_X4_isLetterOrDigit l dC dI cs L ka ix ad n0 n6 n2 S f r_9 H.size hT) (va_cwS 1 hts gX4_readWordOrNumber_X4_isLetterOrDigit rfl rfl rfl (by decide +kernel) ⟨Nat.le_of_ble_eq_true rfl, Nat.le_of_ble_eq_true rfl⟩) ⟨c_blind, c_pre hPc hKc hDc hN⟩ rfl rfl hl.1 rfl (lv_room (Nat.le_of_ble_eq_true rfl)) dX4_readWordOrNumber_34 ⟨Nat.le_of_ble_eq_true rfl, Nat.le_of_ble_eq_true rfl⟩) (fun r_10 hr_10 => ?_)
        refine lv_if_eq (tgt := 113) hx hb dX4_readWordOrNumber_37 (by decide) (fun c_11 => ?_) (fun c_11 => ?_)
        · refine lv_aload_n hx hb dX4_readWordOrNumber_113 rfl (lv_at hl 0 rfl) ?_
          refine va_get (D := (dC, dI)) (ci := 4) (v := .int x9) (C := RX4) (T := TX4) (N := 10) hx hb hts hin4 hown hK hP 0 rfl rfl 6 (by decide) (hts (.fieldLink RX4 96 "YamRiders$StatuteReader" "place" "I") (by decide +kernel)) (fun _ h9 => h9) rfl dX4_readWordOrNumber_114 ?_
          refine lv_aload_n hx hb dX4_readWordOrNumber_117 rfl (lv_at hl 0 rfl) ?_
          refine va_get (D := (dC, dI)) (ci := 4) (v := .int i_tokenPlace) (C := RX4) (T := TX4) (N := 10) hx hb hts hin4 hown hK hP 0 rfl rfl 8 (by decide) (hts (.fieldLink RX4 90 "YamRiders$StatuteReader" "tokenPlace" "I") (by decide +kernel)) (fun _ h9 => h9) rfl dX4_readWordOrNumber_118 ?_
          refine lv_isub hx hb dX4_readWordOrNumber_121 ?_
          refine lv_topi (fun v_12 ev_12 => ?_)
          refine lv_istore_n (lv' := [(3, .int v_12), (0, .ref h0), (1, .int x1), (2, .int x2)]) hx hb dX4_readWordOrNumber_122 rfl hl (by decide) rfl (fun ls hl => ?_)
          refine lv_iload_n hx hb dX4_readWordOrNumber_123 rfl (lv_at hl 0 rfl) ?_
          refine lv_if_le (tgt := 140) hx hb dX4_readWordOrNumber_124 (by decide) (fun c_13 => ?_) (fun c_13 => ?_)
          · refine lv_iload_n hx hb dX4_readWordOrNumber_140 rfl (lv_at hl 0 rfl) ?_
            refine lv_if_le (tgt := 162) hx hb dX4_readWordOrNumber_141 (by decide) (fun _ => ?_) (fun c_14 => by first | exact absurd c_14 c_13 | exact absurd c_13 c_14)
            refine lv_aload_n hx hb dX4_readWordOrNumber_162 rfl (lv_at hl 1 rfl) ?_
            refine lv_iconst (v := 4) hx hb dX4_readWordOrNumber_163 (by decide) ?_
            refine va_put (D := (dC, dI)) (ci := 4) (v := .int 4) (ty := (tyX4 7)) (C := RX4) (T := TX4) (N := 10) hx hb hts hin4 tyX4 tyX4_ok nmX4 hown hK hP hD hS 0 rfl rfl 7 (by decide) (hts (.fieldLink RX4 29 "YamRiders$StatuteReader" "token" "I") (by decide +kernel)) (fun _ h9 => h9) rfl (by decide +kernel) rfl rfl (Nat.le_of_ble_eq_true rfl) dX4_readWordOrNumber_164 (fun H locs hP hD hS => ?_)
            have hP : va_P (dC, dI) vwCl ([(h0, .inr (4, [.ref t1, .ref t2, .ref t3, .int i_ruleCount, .int i_faultKind, .int i_faultPlace, .int x9, .int 4, .int i_tokenPlace, .int va8])), (t1, .inr (7, [.ref u1, .int i_len])), (u1, .inl (cs 0, 200, .inl a_b))] ++ va_pl L f) H := hP
            have hD : va_D A ([(h0, .inr (4, [.ref t1, .ref t2, .ref t3, .int i_ruleCount, .int i_faultKind, .int i_faultPlace, .int x9, .int 4, .int i_tokenPlace, .int va8])), (t1, .inr (7, [.ref u1, .int i_len])), (u1, .inl (cs 0, 200, .inl a_b))] ++ va_pl L f) := hD
            have hP9 := hP.part (cx := [(h0, .inr (4, [.ref t1, .ref t2, .ref t3, .int i_ruleCount, .int i_faultKind, .int i_faultPlace, .int x9, .int 4, .int i_tokenPlace, .int va8])), (t1, .inr (7, [.ref u1, .int i_len])), (u1, .inl (cs 0, 200, .inl a_b))]) [0, 1, 2] rfl
            have hD9 := hD.part (cx := [(h0, .inr (4, [.ref t1, .ref t2, .ref t3, .int i_ruleCount, .int i_faultKind, .int i_faultPlace, .int x9, .int 4, .int i_tokenPlace, .int va8])), (t1, .inr (7, [.ref u1, .int i_len])), (u1, .inl (cs 0, 200, .inl a_b))]) [0, 1, 2] (by decide) rfl
            have hK9 := hK.sub (tys' := []) [] rfl
            refine W.widen (k := 0) (n := 0) (Nat.le_of_ble_eq_true rfl) (Nat.le_of_ble_eq_true rfl) ?_
            exact W.vret hx hb hr (fun t9 ht hW => ⟨⟨(), rfl, trivial, i_ruleCount, i_faultKind, i_faultPlace, x9, 4, i_tokenPlace, va8, by rw [ht]; exact hP9, va_K.moved hW.alike hK9, hD9⟩, hS.F ht⟩) hS.2.2 dX4_readWordOrNumber_167
          · refine lv_iload_n hx hb dX4_readWordOrNumber_127 rfl (lv_at hl 2 rfl) ?_
            refine lv_iload_n hx hb dX4_readWordOrNumber_128 rfl (lv_at hl 0 rfl) ?_
            refine lv_icmp_ne (tgt := 140) hx hb dX4_readWordOrNumber_129 (by decide) (fun c_15 => ?_) (fun c_15 => ?_)
            · refine lv_iload_n hx hb dX4_readWordOrNumber_140 rfl (lv_at hl 0 rfl) ?_
              refine lv_if_le (tgt := 162) hx hb dX4_readWordOrNumber_141 (by decide) (fun c_16 => by first | exact absurd c_16 c_13 | exact absurd c_13 c_16) (fun _ => ?_)
              refine lv_iload_n hx hb dX4_readWordOrNumber_144 rfl (lv_at hl 0 rfl) ?_
              refine lv_iconst (v := 3) hx hb dX4_readWordOrNumber_145 (by decide) ?_
              refine lv_icmp_gt (tgt := 162) hx hb dX4_readWordOrNumber_146 (by decide) (fun c_17 => ?_) (fun c_17 => ?_)
              · refine lv_aload_n hx hb dX4_readWordOrNumber_162 rfl (lv_at hl 1 rfl) ?_
                refine lv_iconst (v := 4) hx hb dX4_readWordOrNumber_163 (by decide) ?_
                refine va_put (D := (dC, dI)) (ci := 4) (v := .int 4) (ty := (tyX4 7)) (C := RX4) (T := TX4) (N := 10) hx hb hts hin4 tyX4 tyX4_ok nmX4 hown hK hP hD hS 0 rfl rfl 7 (by decide) (hts (.fieldLink RX4 29 "YamRiders$StatuteReader" "token" "I") (by decide +kernel)) (fun _ h9 => h9) rfl (by decide +kernel) rfl rfl (Nat.le_of_ble_eq_true rfl) dX4_readWordOrNumber_164 (fun H locs hP hD hS => ?_)
                have hP : va_P (dC, dI) vwCl ([(h0, .inr (4, [.ref t1, .ref t2, .ref t3, .int i_ruleCount, .int i_faultKind, .int i_faultPlace, .int x9, .int 4, .int i_tokenPlace, .int va8])), (t1, .inr (7, [.ref u1, .int i_len])), (u1, .inl (cs 0, 200, .inl a_b))] ++ va_pl L f) H := hP
                have hD : va_D A ([(h0, .inr (4, [.ref t1, .ref t2, .ref t3, .int i_ruleCount, .int i_faultKind, .int i_faultPlace, .int x9, .int 4, .int i_tokenPlace, .int va8])), (t1, .inr (7, [.ref u1, .int i_len])), (u1, .inl (cs 0, 200, .inl a_b))] ++ va_pl L f) := hD
                have hP9 := hP.part (cx := [(h0, .inr (4, [.ref t1, .ref t2, .ref t3, .int i_ruleCount, .int i_faultKind, .int i_faultPlace, .int x9, .int 4, .int i_tokenPlace, .int va8])), (t1, .inr (7, [.ref u1, .int i_len])), (u1, .inl (cs 0, 200, .inl a_b))]) [0, 1, 2] rfl
                have hD9 := hD.part (cx := [(h0, .inr (4, [.ref t1, .ref t2, .ref t3, .int i_ruleCount, .int i_faultKind, .int i_faultPlace, .int x9, .int 4, .int i_tokenPlace, .int va8])), (t1, .inr (7, [.ref u1, .int i_len])), (u1, .inl (cs 0, 200, .inl a_b))]) [0, 1, 2] (by decide) rfl
                have hK9 := hK.sub (tys' := []) [] rfl
                refine W.widen (k := 0) (n := 0) (Nat.le_of_ble_eq_true rfl) (Nat.le_of_ble_eq_true rfl) ?_
                exact W.vret hx hb hr (fun t9 ht hW => ⟨⟨(), rfl, trivial, i_ruleCount, i_faultKind, i_faultPlace, x9, 4, i_tokenPlace, va8, by rw [ht]; exact hP9, va_K.moved hW.alike hK9, hD9⟩, hS.F ht⟩) hS.2.2 dX4_readWordOrNumber_167
              · refine lv_iload_n hx hb dX4_readWordOrNumber_149 rfl (lv_at hl 3 rfl) ?_
                refine lv_iload_n hx hb dX4_readWordOrNumber_150 rfl (lv_at hl 0 rfl) ?_
                refine lv_icmp_ne (tgt := 162) hx hb dX4_readWordOrNumber_151 (by decide) (fun c_18 => ?_) (fun c_18 => ?_)
                · refine lv_aload_n hx hb dX4_readWordOrNumber_162 rfl (lv_at hl 1 rfl) ?_
                  refine lv_iconst (v := 4) hx hb dX4_readWordOrNumber_163 (by decide) ?_
                  refine va_put (D := (dC, dI)) (ci := 4) (v := .int 4) (ty := (tyX4 7)) (C := RX4) (T := TX4) (N := 10) hx hb hts hin4 tyX4 tyX4_ok nmX4 hown hK hP hD hS 0 rfl rfl 7 (by decide) (hts (.fieldLink RX4 29 "YamRiders$StatuteReader" "token" "I") (by decide +kernel)) (fun _ h9 => h9) rfl (by decide +kernel) rfl rfl (Nat.le_of_ble_eq_true rfl) dX4_readWordOrNumber_164 (fun H locs hP hD hS => ?_)
                  have hP : va_P (dC, dI) vwCl ([(h0, .inr (4, [.ref t1, .ref t2, .ref t3, .int i_ruleCount, .int i_faultKind, .int i_faultPlace, .int x9, .int 4, .int i_tokenPlace, .int va8])), (t1, .inr (7, [.ref u1, .int i_len])), (u1, .inl (cs 0, 200, .inl a_b))] ++ va_pl L f) H := hP
                  have hD : va_D A ([(h0, .inr (4, [.ref t1, .ref t2, .ref t3, .int i_ruleCount, .int i_faultKind, .int i_faultPlace, .int x9, .int 4, .int i_tokenPlace, .int va8])), (t1, .inr (7, [.ref u1, .int i_len])), (u1, .inl (cs 0, 200, .inl a_b))] ++ va_pl L f) := hD
                  have hP9 := hP.part (cx := [(h0, .inr (4, [.ref t1, .ref t2, .ref t3, .int i_ruleCount, .int i_faultKind, .int i_faultPlace, .int x9, .int 4, .int i_tokenPlace, .int va8])), (t1, .inr (7, [.ref u1, .int i_len])), (u1, .inl (cs 0, 200, .inl a_b))]) [0, 1, 2] rfl
                  have hD9 := hD.part (cx := [(h0, .inr (4, [.ref t1, .ref t2, .ref t3, .int i_ruleCount, .int i_faultKind, .int i_faultPlace, .int x9, .int 4, .int i_tokenPlace, .int va8])), (t1, .inr (7, [.ref u1, .int i_len])), (u1, .inl (cs 0, 200, .inl a_b))]) [0, 1, 2] (by decide) rfl
                  have hK9 := hK.sub (tys' := []) [] rfl
                  refine W.widen (k := 0) (n := 0) (Nat.le_of_ble_eq_true rfl) (Nat.le_of_ble_eq_true rfl) ?_
                  exact W.vret hx hb hr (fun t9 ht hW => ⟨⟨(), rfl, trivial, i_ruleCount, i_faultKind, i_faultPlace, x9, 4, i_tokenPlace, va8, by rw [ht]; exact hP9, va_K.moved hW.alike hK9, hD9⟩, hS.F ht⟩) hS.2.2 dX4_readWordOrNumber_167
                · refine lv_aload_n hx hb dX4_readWordOrNumber_154 rfl (lv_at hl 1 rfl) ?_
                  refine lv_iconst (v := 2) hx hb dX4_readWordOrNumber_155 (by decide) ?_
                  refine va_put (D := (dC, dI)) (ci := 4) (v := .int 2) (ty := (tyX4 7)) (C := RX4) (T := TX4) (N := 10) hx hb hts hin4 tyX4 tyX4_ok nmX4 hown hK hP hD hS 0 rfl rfl 7 (by decide) (hts (.fieldLink RX4 29 "YamRiders$StatuteReader" "token" "I") (by decide +kernel)) (fun _ h9 => h9) rfl (by decide +kernel) rfl rfl (Nat.le_of_ble_eq_true rfl) dX4_readWordOrNumber_156 (fun H locs hP hD hS => ?_)
                  have hP : va_P (dC, dI) vwCl ([(h0, .inr (4, [.ref t1, .ref t2, .ref t3, .int i_ruleCount, .int i_faultKind, .int i_faultPlace, .int x9, .int 2, .int i_tokenPlace, .int va8])), (t1, .inr (7, [.ref u1, .int i_len])), (u1, .inl (cs 0, 200, .inl a_b))] ++ va_pl L f) H := hP
                  have hD : va_D A ([(h0, .inr (4, [.ref t1, .ref t2, .ref t3, .int i_ruleCount, .int i_faultKind, .int i_faultPlace, .int x9, .int 2, .int i_tokenPlace, .int va8])), (t1, .inr (7, [.ref u1, .int i_len])), (u1, .inl (cs 0, 200, .inl a_b))] ++ va_pl L f) := hD
                  refine lv_goto (tgt := 167) hx hb dX4_readWordOrNumber_159 (by decide) ?_
                  have hP9 := hP.part (cx := [(h0, .inr (4, [.ref t1, .ref t2, .ref t3, .int i_ruleCount, .int i_faultKind, .int i_faultPlace, .int x9, .int 2, .int i_tokenPlace, .int va8])), (t1, .inr (7, [.ref u1, .int i_len])), (u1, .inl (cs 0, 200, .inl a_b))]) [0, 1, 2] rfl
                  have hD9 := hD.part (cx := [(h0, .inr (4, [.ref t1, .ref t2, .ref t3, .int i_ruleCount, .int i_faultKind, .int i_faultPlace, .int x9, .int 2, .int i_tokenPlace, .int va8])), (t1, .inr (7, [.ref u1, .int i_len])), (u1, .inl (cs 0, 200, .inl a_b))]) [0, 1, 2] (by decide) rfl
                  have hK9 := hK.sub (tys' := []) [] rfl
                  refine W.widen (k := 0) (n := 0) (Nat.le_of_ble_eq_true rfl) (Nat.le_of_ble_eq_true rfl) ?_
                  exact W.vret hx hb hr (fun t9 ht hW => ⟨⟨(), rfl, trivial, i_ruleCount, i_faultKind, i_faultPlace, x9, 2, i_tokenPlace, va8, by rw [ht]; exact hP9, va_K.moved hW.alike hK9, hD9⟩, hS.F ht⟩) hS.2.2 dX4_readWordOrNumber_167
            · refine lv_aload_n hx hb dX4_readWordOrNumber_132 rfl (lv_at hl 1 rfl) ?_
              refine lv_iconst (v := 1) hx hb dX4_readWordOrNumber_133 (by decide) ?_
              refine va_put (D := (dC, dI)) (ci := 4) (v := .int 1) (ty := (tyX4 7)) (C := RX4) (T := TX4) (N := 10) hx hb hts hin4 tyX4 tyX4_ok nmX4 hown hK hP hD hS 0 rfl rfl 7 (by decide) (hts (.fieldLink RX4 29 "YamRiders$StatuteReader" "token" "I") (by decide +kernel)) (fun _ h9 => h9) rfl (by decide +kernel) rfl rfl (Nat.le_of_ble_eq_true rfl) dX4_readWordOrNumber_134 (fun H locs hP hD hS => ?_)
              have hP : va_P (dC, dI) vwCl ([(h0, .inr (4, [.ref t1, .ref t2, .ref t3, .int i_ruleCount, .int i_faultKind, .int i_faultPlace, .int x9, .int 1, .int i_tokenPlace, .int va8])), (t1, .inr (7, [.ref u1, .int i_len])), (u1, .inl (cs 0, 200, .inl a_b))] ++ va_pl L f) H := hP
              have hD : va_D A ([(h0, .inr (4, [.ref t1, .ref t2, .ref t3, .int i_ruleCount, .int i_faultKind, .int i_faultPlace, .int x9, .int 1, .int i_tokenPlace, .int va8])), (t1, .inr (7, [.ref u1, .int i_len])), (u1, .inl (cs 0, 200, .inl a_b))] ++ va_pl L f) := hD
              refine lv_goto (tgt := 167) hx hb dX4_readWordOrNumber_137 (by decide) ?_
              have hP9 := hP.part (cx := [(h0, .inr (4, [.ref t1, .ref t2, .ref t3, .int i_ruleCount, .int i_faultKind, .int i_faultPlace, .int x9, .int 1, .int i_tokenPlace, .int va8])), (t1, .inr (7, [.ref u1, .int i_len])), (u1, .inl (cs 0, 200, .inl a_b))]) [0, 1, 2] rfl
              have hD9 := hD.part (cx := [(h0, .inr (4, [.ref t1, .ref t2, .ref t3, .int i_ruleCount, .int i_faultKind, .int i_faultPlace, .int x9, .int 1, .int i_tokenPlace, .int va8])), (t1, .inr (7, [.ref u1, .int i_len])), (u1, .inl (cs 0, 200, .inl a_b))]) [0, 1, 2] (by decide) rfl
              have hK9 := hK.sub (tys' := []) [] rfl
              refine W.widen (k := 0) (n := 0) (Nat.le_of_ble_eq_true rfl) (Nat.le_of_ble_eq_true rfl) ?_
              exact W.vret hx hb hr (fun t9 ht hW => ⟨⟨(), rfl, trivial, i_ruleCount, i_faultKind, i_faultPlace, x9, 1, i_tokenPlace, va8, by rw [ht]; exact hP9, va_K.moved hW.alike hK9, hD9⟩, hS.F ht⟩) hS.2.2 dX4_readWordOrNumber_167
        · refine lv_aload_n hx hb dX4_readWordOrNumber_40 rfl (lv_at hl 0 rfl) ?_
          refine va_get (D := (dC, dI)) (ci := 4) (v := .ref t1) (C := RX4) (T := TX4) (N := 10) hx hb hts hin4 hown hK hP 0 rfl rfl 0 (by decide) (hts (.fieldLink RX4 22 "YamRiders$StatuteReader" "tape" "LYamRiders$Tape;") (by decide +kernel)) (fun _ h9 => h9) rfl dX4_readWordOrNumber_41 ?_
          refine lv_aload_n hx hb dX4_readWordOrNumber_44 rfl (lv_at hl 0 rfl) ?_
          refine va_get (D := (dC, dI)) (ci := 4) (v := .int x9) (C := RX4) (T := TX4) (N := 10) hx hb hts hin4 hown hK hP 0 rfl rfl 6 (by decide) (hts (.fieldLink RX4 96 "YamRiders$StatuteReader" "place" "I") (by decide +kernel)) (fun _ h9 => h9) rfl dX4_readWordOrNumber_45 ?_
          have hPc := hP.sub (ws' := [(t1, .inr (7, [.ref u1, .int i_len])), (u1, .inl (cs 0, 200, .inl a_b))]) [1, 2] rfl
          have hDc := hD.sub (ws' := [(t1, .inr (7, [.ref u1, .int i_len])), (u1, .inl (cs 0, 200, .inl a_b))]) [1, 2] (by decide) rfl
          have hKc := hK.sub (tys' := [(cs 0, .int)]) [0] rfl
          refine cs_i (va_runV (As := [.int x9]) (rest := []) ⟨hx, hb, hml, hown, hts⟩ (g_X7_byteAt l dC dI t1 u1 (cs 0) a_b x9 i_len H.size) (cwV 1 hts gX4_readWordOrNumber_X7_byteAt rfl rfl rfl (by decide +kernel) ⟨Nat.le_of_ble_eq_true rfl, Nat.le_of_ble_eq_true rfl⟩) ⟨c_blind, va_recv hKc hPc (ci := 7) (q0 := 0) rfl rfl, c_pre hPc hKc hDc hN⟩ rfl rfl hl.1 rfl (lv_room (Nat.le_of_ble_eq_true rfl)) dX4_readWordOrNumber_48 ⟨Nat.le_of_ble_eq_true rfl, Nat.le_of_ble_eq_true rfl⟩) (fun r_19 hr_19 => ?_)
          refine lv_istore_n (lv' := [(3, .int r_19), (0, .ref h0), (1, .int x1), (2, .int x2)]) hx hb dX4_readWordOrNumber_51 rfl hl (by decide) rfl (fun ls hl => ?_)
          refine lv_iload_n hx hb dX4_readWordOrNumber_52 rfl (lv_at hl 0 rfl) ?_
          have hPc := hP.part (cx := []) [] rfl
          have hDc := hD.part (cx := []) [] (by decide) rfl
          have hKc := hK
          refine cs_i (va_runS (As := [.int r_19]) (rest := []) ⟨hx, hb, hml, hown, hts⟩ (e_X4_isSmallLetter l dC dI cs L ka ix ad n0 n6 n2 S f r_19 H.size hT) (va_cwS 1 hts gX4_readWordOrNumber_X4_isSmallLetter rfl rfl rfl (by decide +kernel) ⟨Nat.le_of_ble_eq_true rfl, Nat.le_of_ble_eq_true rfl⟩) ⟨c_blind, c_pre hPc hKc hDc hN⟩ rfl rfl hl.1 rfl (lv_room (Nat.le_of_ble_eq_true rfl)) dX4_readWordOrNumber_53 ⟨Nat.le_of_ble_eq_true rfl, Nat.le_of_ble_eq_true rfl⟩) (fun r_20 hr_20 => ?_)
          refine lv_if_eq (tgt := 65) hx hb dX4_readWordOrNumber_56 (by decide) (fun c_21 => ?_) (fun c_21 => ?_)
          · refine lv_iload_n hx hb dX4_readWordOrNumber_65 rfl (lv_at hl 0 rfl) ?_
            have hPc := hP.part (cx := []) [] rfl
            have hDc := hD.part (cx := []) [] (by decide) rfl
            have hKc := hK
            refine cs_i (va_runS (As := [.int r_19]) (rest := []) ⟨hx, hb, hml, hown, hts⟩ (e_X4_isDigit l dC dI cs L ka ix ad n0 n6 n2 S f r_19 H.size hT) (va_cwS 1 hts gX4_readWordOrNumber_X4_isDigit rfl rfl rfl (by decide +kernel) ⟨Nat.le_of_ble_eq_true rfl, Nat.le_of_ble_eq_true rfl⟩) ⟨c_blind, c_pre hPc hKc hDc hN⟩ rfl rfl hl.1 rfl (lv_room (Nat.le_of_ble_eq_true rfl)) dX4_readWordOrNumber_66 ⟨Nat.le_of_ble_eq_true rfl, Nat.le_of_ble_eq_true rfl⟩) (fun r_22 hr_22 => ?_)
            refine lv_if_eq (tgt := 100) hx hb dX4_readWordOrNumber_69 (by decide) (fun c_23 => ?_) (fun c_23 => ?_)
            · refine lv_aload_n hx hb dX4_readWordOrNumber_100 rfl (lv_at hl 1 rfl) ?_
              refine lv_dup hx hb dX4_readWordOrNumber_101 rfl ?_
              refine va_get (D := (dC, dI)) (ci := 4) (v := .int x9) (C := RX4) (T := TX4) (N := 10) hx hb hts hin4 hown hK hP 0 rfl rfl 6 (by decide) (hts (.fieldLink RX4 96 "YamRiders$StatuteReader" "place" "I") (by decide +kernel)) (fun _ h9 => h9) rfl dX4_readWordOrNumber_102 ?_
              refine lv_iconst (v := 1) hx hb dX4_readWordOrNumber_105 (by decide) ?_
              refine lv_iadd hx hb dX4_readWordOrNumber_106 ?_
              refine lv_topi (fun v_24 ev_24 => ?_)
              refine va_put (D := (dC, dI)) (ci := 4) (v := .int v_24) (ty := (tyX4 6)) (C := RX4) (T := TX4) (N := 10) hx hb hts hin4 tyX4 tyX4_ok nmX4 hown hK hP hD hS 0 rfl rfl 6 (by decide) (hts (.fieldLink RX4 96 "YamRiders$StatuteReader" "place" "I") (by decide +kernel)) (fun _ h9 => h9) rfl (by decide +kernel) rfl rfl (Nat.le_of_ble_eq_true rfl) dX4_readWordOrNumber_107 (fun H locs hP hD hS => ?_)
              have hP : va_P (dC, dI) vwCl ([(h0, .inr (4, [.ref t1, .ref t2, .ref t3, .int i_ruleCount, .int i_faultKind, .int i_faultPlace, .int v_24, .int i_token, .int i_tokenPlace, .int va8])), (t1, .inr (7, [.ref u1, .int i_len])), (u1, .inl (cs 0, 200, .inl a_b))] ++ va_pl L f) H := hP
              have hD : va_D A ([(h0, .inr (4, [.ref t1, .ref t2, .ref t3, .int i_ruleCount, .int i_faultKind, .int i_faultPlace, .int v_24, .int i_token, .int i_tokenPlace, .int va8])), (t1, .inr (7, [.ref u1, .int i_len])), (u1, .inl (cs 0, 200, .inl a_b))] ++ va_pl L f) := hD
              refine lv_goto (tgt := 9) hx hb dX4_readWordOrNumber_110 (by decide) ?_
              have hrk := rk9_lt c_1 ev_24
              exact ih_a v_24 x1 x2 va8 (by omega) _ _ (hP.part (cx := _) [0, 1, 2] rfl) (hD.part (cx := _) [0, 1, 2] (by decide) rfl) hS ls (lv_sub hl [1, 2, 3] rfl)
            · refine lv_iinc (v := x2 + 1) (lv' := [(2, .int (x2 + 1)), (3, .int r_19), (0, .ref h0), (1, .int x1)]) hx hb dX4_readWordOrNumber_72 hl (k := 3) rfl rfl (by decide) rfl (fun ls hl => ?_)
              refine lv_aload_n hx hb dX4_readWordOrNumber_75 rfl (lv_at hl 2 rfl) ?_
              refine lv_iload_n hx hb dX4_readWordOrNumber_76 rfl (lv_at hl 0 rfl) ?_
              refine lv_iconst (v := 3) hx hb dX4_readWordOrNumber_77 (by decide) ?_
              refine lv_icmp_gt (tgt := 96) hx hb dX4_readWordOrNumber_78 (by decide) (fun c_25 => ?_) (fun c_25 => ?_)
              · refine lv_iconst (v := 0) hx hb dX4_readWordOrNumber_96 (by decide) ?_
                refine va_put (D := (dC, dI)) (ci := 4) (v := .int 0) (ty := (tyX4 9)) (C := RX4) (T := TX4) (N := 10) hx hb hts hin4 tyX4 tyX4_ok nmX4 hown hK hP hD hS 0 rfl rfl 9 (by decide) (hts (.fieldLink RX4 52 "YamRiders$StatuteReader" "value" "I") (by decide +kernel)) (fun _ h9 => h9) rfl (by decide +kernel) rfl rfl (Nat.le_of_ble_eq_true rfl) dX4_readWordOrNumber_97 (fun H locs hP hD hS => ?_)
                have hP : va_P (dC, dI) vwCl ([(h0, .inr (4, [.ref t1, .ref t2, .ref t3, .int i_ruleCount, .int i_faultKind, .int i_faultPlace, .int x9, .int i_token, .int i_tokenPlace, .int 0])), (t1, .inr (7, [.ref u1, .int i_len])), (u1, .inl (cs 0, 200, .inl a_b))] ++ va_pl L f) H := hP
                have hD : va_D A ([(h0, .inr (4, [.ref t1, .ref t2, .ref t3, .int i_ruleCount, .int i_faultKind, .int i_faultPlace, .int x9, .int i_token, .int i_tokenPlace, .int 0])), (t1, .inr (7, [.ref u1, .int i_len])), (u1, .inl (cs 0, 200, .inl a_b))] ++ va_pl L f) := hD
                refine lv_aload_n hx hb dX4_readWordOrNumber_100 rfl (lv_at hl 2 rfl) ?_
                refine lv_dup hx hb dX4_readWordOrNumber_101 rfl ?_
                refine va_get (D := (dC, dI)) (ci := 4) (v := .int x9) (C := RX4) (T := TX4) (N := 10) hx hb hts hin4 hown hK hP 0 rfl rfl 6 (by decide) (hts (.fieldLink RX4 96 "YamRiders$StatuteReader" "place" "I") (by decide +kernel)) (fun _ h9 => h9) rfl dX4_readWordOrNumber_102 ?_
                refine lv_iconst (v := 1) hx hb dX4_readWordOrNumber_105 (by decide) ?_
                refine lv_iadd hx hb dX4_readWordOrNumber_106 ?_
                refine lv_topi (fun v_26 ev_26 => ?_)
                refine va_put (D := (dC, dI)) (ci := 4) (v := .int v_26) (ty := (tyX4 6)) (C := RX4) (T := TX4) (N := 10) hx hb hts hin4 tyX4 tyX4_ok nmX4 hown hK hP hD hS 0 rfl rfl 6 (by decide) (hts (.fieldLink RX4 96 "YamRiders$StatuteReader" "place" "I") (by decide +kernel)) (fun _ h9 => h9) rfl (by decide +kernel) rfl rfl (Nat.le_of_ble_eq_true rfl) dX4_readWordOrNumber_107 (fun H locs hP hD hS => ?_)
                have hP : va_P (dC, dI) vwCl ([(h0, .inr (4, [.ref t1, .ref t2, .ref t3, .int i_ruleCount, .int i_faultKind, .int i_faultPlace, .int v_26, .int i_token, .int i_tokenPlace, .int 0])), (t1, .inr (7, [.ref u1, .int i_len])), (u1, .inl (cs 0, 200, .inl a_b))] ++ va_pl L f) H := hP
                have hD : va_D A ([(h0, .inr (4, [.ref t1, .ref t2, .ref t3, .int i_ruleCount, .int i_faultKind, .int i_faultPlace, .int v_26, .int i_token, .int i_tokenPlace, .int 0])), (t1, .inr (7, [.ref u1, .int i_len])), (u1, .inl (cs 0, 200, .inl a_b))] ++ va_pl L f) := hD
                refine lv_goto (tgt := 9) hx hb dX4_readWordOrNumber_110 (by decide) ?_
                have hrk := rk9_lt c_1 ev_26
                exact ih_a v_26 x1 (x2 + 1) 0 (by omega) _ _ (hP.part (cx := _) [0, 1, 2] rfl) (hD.part (cx := _) [0, 1, 2] (by decide) rfl) hS ls (lv_sub hl [2, 3, 0] rfl)
              · refine lv_aload_n hx hb dX4_readWordOrNumber_81 rfl (lv_at hl 2 rfl) ?_
                refine va_get (D := (dC, dI)) (ci := 4) (v := .int va8) (C := RX4) (T := TX4) (N := 10) hx hb hts hin4 hown hK hP 0 rfl rfl 9 (by decide) (hts (.fieldLink RX4 52 "YamRiders$StatuteReader" "value" "I") (by decide +kernel)) (fun _ h9 => h9) rfl dX4_readWordOrNumber_82 ?_
                refine lv_bipush (v := 10) hx hb dX4_readWordOrNumber_85 (by decide) ?_
                refine lv_imul hx hb dX4_readWordOrNumber_87 ?_
                refine lv_topi (fun v_27 ev_27 => ?_)
                refine lv_iload_n hx hb dX4_readWordOrNumber_88 rfl (lv_at hl 1 rfl) ?_
                refine lv_iadd hx hb dX4_readWordOrNumber_89 ?_
                refine lv_topi (fun v_28 ev_28 => ?_)
                refine lv_bipush (v := 48) hx hb dX4_readWordOrNumber_90 (by decide) ?_
                refine lv_isub hx hb dX4_readWordOrNumber_92 ?_
                refine lv_topi (fun v_29 ev_29 => ?_)
                refine lv_goto (tgt := 97) hx hb dX4_readWordOrNumber_93 (by decide) ?_
                refine va_put (D := (dC, dI)) (ci := 4) (v := .int v_29) (ty := (tyX4 9)) (C := RX4) (T := TX4) (N := 10) hx hb hts hin4 tyX4 tyX4_ok nmX4 hown hK hP hD hS 0 rfl rfl 9 (by decide) (hts (.fieldLink RX4 52 "YamRiders$StatuteReader" "value" "I") (by decide +kernel)) (fun _ h9 => h9) rfl (by decide +kernel) rfl rfl (Nat.le_of_ble_eq_true rfl) dX4_readWordOrNumber_97 (fun H locs hP hD hS => ?_)
                have hP : va_P (dC, dI) vwCl ([(h0, .inr (4, [.ref t1, .ref t2, .ref t3, .int i_ruleCount, .int i_faultKind, .int i_faultPlace, .int x9, .int i_token, .int i_tokenPlace, .int v_29])), (t1, .inr (7, [.ref u1, .int i_len])), (u1, .inl (cs 0, 200, .inl a_b))] ++ va_pl L f) H := hP
                have hD : va_D A ([(h0, .inr (4, [.ref t1, .ref t2, .ref t3, .int i_ruleCount, .int i_faultKind, .int i_faultPlace, .int x9, .int i_token, .int i_tokenPlace, .int v_29])), (t1, .inr (7, [.ref u1, .int i_len])), (u1, .inl (cs 0, 200, .inl a_b))] ++ va_pl L f) := hD
                refine lv_aload_n hx hb dX4_readWordOrNumber_100 rfl (lv_at hl 2 rfl) ?_
                refine lv_dup hx hb dX4_readWordOrNumber_101 rfl ?_
                refine va_get (D := (dC, dI)) (ci := 4) (v := .int x9) (C := RX4) (T := TX4) (N := 10) hx hb hts hin4 hown hK hP 0 rfl rfl 6 (by decide) (hts (.fieldLink RX4 96 "YamRiders$StatuteReader" "place" "I") (by decide +kernel)) (fun _ h9 => h9) rfl dX4_readWordOrNumber_102 ?_
                refine lv_iconst (v := 1) hx hb dX4_readWordOrNumber_105 (by decide) ?_
                refine lv_iadd hx hb dX4_readWordOrNumber_106 ?_
                refine lv_topi (fun v_30 ev_30 => ?_)
                refine va_put (D := (dC, dI)) (ci := 4) (v := .int v_30) (ty := (tyX4 6)) (C := RX4) (T := TX4) (N := 10) hx hb hts hin4 tyX4 tyX4_ok nmX4 hown hK hP hD hS 0 rfl rfl 6 (by decide) (hts (.fieldLink RX4 96 "YamRiders$StatuteReader" "place" "I") (by decide +kernel)) (fun _ h9 => h9) rfl (by decide +kernel) rfl rfl (Nat.le_of_ble_eq_true rfl) dX4_readWordOrNumber_107 (fun H locs hP hD hS => ?_)
                have hP : va_P (dC, dI) vwCl ([(h0, .inr (4, [.ref t1, .ref t2, .ref t3, .int i_ruleCount, .int i_faultKind, .int i_faultPlace, .int v_30, .int i_token, .int i_tokenPlace, .int v_29])), (t1, .inr (7, [.ref u1, .int i_len])), (u1, .inl (cs 0, 200, .inl a_b))] ++ va_pl L f) H := hP
                have hD : va_D A ([(h0, .inr (4, [.ref t1, .ref t2, .ref t3, .int i_ruleCount, .int i_faultKind, .int i_faultPlace, .int v_30, .int i_token, .int i_tokenPlace, .int v_29])), (t1, .inr (7, [.ref u1, .int i_len])), (u1, .inl (cs 0, 200, .inl a_b))] ++ va_pl L f) := hD
                refine lv_goto (tgt := 9) hx hb dX4_readWordOrNumber_110 (by decide) ?_
                have hrk := rk9_lt c_1 ev_30
                exact ih_a v_30 x1 (x2 + 1) v_29 (by omega) _ _ (hP.part (cx := _) [0, 1, 2] rfl) (hD.part (cx := _) [0, 1, 2] (by decide) rfl) hS ls (lv_sub hl [2, 3, 0] rfl)
          · refine lv_iinc (v := x1 + 1) (lv' := [(1, .int (x1 + 1)), (3, .int r_19), (0, .ref h0), (2, .int x2)]) hx hb dX4_readWordOrNumber_59 hl (k := 2) rfl rfl (by decide) rfl (fun ls hl => ?_)
            refine lv_goto (tgt := 100) hx hb dX4_readWordOrNumber_62 (by decide) ?_
            refine lv_aload_n hx hb dX4_readWordOrNumber_100 rfl (lv_at hl 2 rfl) ?_
            refine lv_dup hx hb dX4_readWordOrNumber_101 rfl ?_
            refine va_get (D := (dC, dI)) (ci := 4) (v := .int x9) (C := RX4) (T := TX4) (N := 10) hx hb hts hin4 hown hK hP 0 rfl rfl 6 (by decide) (hts (.fieldLink RX4 96 "YamRiders$StatuteReader" "place" "I") (by decide +kernel)) (fun _ h9 => h9) rfl dX4_readWordOrNumber_102 ?_
            refine lv_iconst (v := 1) hx hb dX4_readWordOrNumber_105 (by decide) ?_
            refine lv_iadd hx hb dX4_readWordOrNumber_106 ?_
            refine lv_topi (fun v_31 ev_31 => ?_)
            refine va_put (D := (dC, dI)) (ci := 4) (v := .int v_31) (ty := (tyX4 6)) (C := RX4) (T := TX4) (N := 10) hx hb hts hin4 tyX4 tyX4_ok nmX4 hown hK hP hD hS 0 rfl rfl 6 (by decide) (hts (.fieldLink RX4 96 "YamRiders$StatuteReader" "place" "I") (by decide +kernel)) (fun _ h9 => h9) rfl (by decide +kernel) rfl rfl (Nat.le_of_ble_eq_true rfl) dX4_readWordOrNumber_107 (fun H locs hP hD hS => ?_)
            have hP : va_P (dC, dI) vwCl ([(h0, .inr (4, [.ref t1, .ref t2, .ref t3, .int i_ruleCount, .int i_faultKind, .int i_faultPlace, .int v_31, .int i_token, .int i_tokenPlace, .int va8])), (t1, .inr (7, [.ref u1, .int i_len])), (u1, .inl (cs 0, 200, .inl a_b))] ++ va_pl L f) H := hP
            have hD : va_D A ([(h0, .inr (4, [.ref t1, .ref t2, .ref t3, .int i_ruleCount, .int i_faultKind, .int i_faultPlace, .int v_31, .int i_token, .int i_tokenPlace, .int va8])), (t1, .inr (7, [.ref u1, .int i_len])), (u1, .inl (cs 0, 200, .inl a_b))] ++ va_pl L f) := hD
            refine lv_goto (tgt := 9) hx hb dX4_readWordOrNumber_110 (by decide) ?_
            have hrk := rk9_lt c_1 ev_31
            exact ih_a v_31 (x1 + 1) x2 va8 (by omega) _ _ (hP.part (cx := _) [0, 1, 2] rfl) (hD.part (cx := _) [0, 1, 2] (by decide) rfl) hS ls (lv_sub hl [2, 0, 3] rfl)
  exact HL_a (rk9 i_len i_place + 1) i_place 0 0 0 (by omega) _ _ (hP.part (cx := _) [0, 1, 2] rfl) (hD.part (cx := _) [0, 1, 2] (by decide) rfl) hS ls (lv_sub hl [2, 1, 0] rfl)

set_option maxHeartbeats 4000000 in
set_option maxRecDepth 100000 in
theorem e_X4_readToken (l : Launch) (dC : Nat → ClassId) (dI : Nat → Nat → Nat) (cs : Nat → ClassId) (L : List Nat) (ka : Nat → Nat) (ix : Nat → Nat) (ad : Nat → Nat → Nat) (n0 : Nat) (n6 : Nat) (n2 : Nat) (S : Nat → Nat → Nat → Int32) (f : Nat → va_E) (h0 : Nat) (t1 : Nat) (t2 : Nat) (t3 : Nat) (i_ruleCount : Int32) (i_faultKind : Int32) (i_faultPlace : Int32) (i_place : Int32) (i_token : Int32) (i_tokenPlace : Int32) (i_value : Int32) (u1 : Nat) (i_len : Int32) (a_b : Nat → Int32) (sz : Nat) (hT : tB L ka ix ad cs n0 n6 n2 S f) : Met l yX4_readToken wsX4_readToken ({ frames := 2, cells := 0, slots := 0, locals := 44 }) (va_Pc [.ref h0] (cP dC dI ([(h0, .inr (4, [.ref t1, .ref t2, .ref t3, .int i_ruleCount, .int i_faultKind, .int i_faultPlace, .int i_place, .int i_token, .int i_tokenPlace, .int i_value])), (t1, .inr (7, [.ref u1, .int i_len])), (u1, .inl (cs 0, 200, .inl a_b))] ++ va_pl L f) (tyC cs) sz)) (va_Qv (fun (_ : Unit) => True) (fun (_ : Unit) t9 => ∃ (y_ruleCount : Int32) (y_faultKind : Int32) (y_faultPlace : Int32) (y_place : Int32) (y_token : Int32) (y_tokenPlace : Int32) (y_value : Int32), cQ dC dI ([(h0, .inr (4, [.ref t1, .ref t2, .ref t3, .int y_ruleCount, .int y_faultKind, .int y_faultPlace, .int y_place, .int y_token, .int y_tokenPlace, .int y_value])), (t1, .inr (7, [.ref u1, .int i_len])), (u1, .inl (cs 0, 200, .inl a_b))] ++ va_pl L f) [] (va_A ([(h0, .inr (4, [.ref t1, .ref t2, .ref t3, .int i_ruleCount, .int i_faultKind, .int i_faultPlace, .int i_place, .int i_token, .int i_tokenPlace, .int i_value])), (t1, .inr (7, [.ref u1, .int i_len])), (u1, .inl (cs 0, 200, .inl a_b))] ++ va_pl L f) sz) t9) (va_A ([(h0, .inr (4, [.ref t1, .ref t2, .ref t3, .int i_ruleCount, .int i_faultKind, .int i_faultPlace, .int i_place, .int i_token, .int i_tokenPlace, .int i_value])), (t1, .inr (7, [.ref u1, .int i_len])), (u1, .inl (cs 0, 200, .inl a_b))] ++ va_pl L f) sz)) 0 0 (va_A ([(h0, .inr (4, [.ref t1, .ref t2, .ref t3, .int i_ruleCount, .int i_faultKind, .int i_faultPlace, .int i_place, .int i_token, .int i_tokenPlace, .int i_value])), (t1, .inr (7, [.ref u1, .int i_len])), (u1, .inl (cs 0, 200, .inl a_b))] ++ va_pl L f) sz) := by
  refine Met.ofW (cc := cX4_readToken) (maxL := 1) (ret := none) (by decide) rfl ?_
  intro p e s m args below meth c s₁ B hml hv
  obtain ⟨rfl, hsz, hP, hK, hD0, hN⟩ := hv
  have hx := B.exec
  have hb := B.bytes
  have hr := B.returns
  have hts := atoms_spec (ws := wsX4_readToken) B.pre
  have hown : s.vm.findClass RX4 = some m.cls := findClass_of_methodNamed B.named
  have hlocks := B.notSynchronized
  subst hsz
  have hin4 : ∀ w ∈ u_ws RX4 TX4 10, w ∈ wsX4_readToken := by decide +kernel
  have hin7 : ∀ w ∈ u_ws RX7 TX7 2, w ∈ wsX4_readToken := by decide +kernel
  have hD := hD0.self (sz := s.heap.size)
  generalize hAe : va_A ([(h0, .inr (4, [.ref t1, .ref t2, .ref t3, .int i_ruleCount, .int i_faultKind, .int i_faultPlace, .int i_place, .int i_token, .int i_tokenPlace, .int i_value])), (t1, .inr (7, [.ref u1, .int i_len])), (u1, .inl (cs 0, 200, .inl a_b))] ++ va_pl L f) s.heap.size = A at hD ⊢
  have hA : ∀ q : Nat, s.heap.size ≤ q → A q := fun q h => by rw [← hAe]; exact Or.inr h
  have hS : va_S A s.heap s.heap [] := va_S.rf
  have hP : va_P (dC, dI) vwCl ([(h0, .inr (4, [.ref t1, .ref t2, .ref t3, .int i_ruleCount, .int i_faultKind, .int i_faultPlace, .int i_place, .int i_token, .int i_tokenPlace, .int i_value])), (t1, .inr (7, [.ref u1, .int i_len])), (u1, .inl (cs 0, 200, .inl a_b))] ++ va_pl L f) s.heap := hP
  have hl := lv_entry ([.ref h0]) (n := 1) (Nat.le_of_ble_eq_true rfl)
  rw [lg_entry_eq]
  generalize (lg_sl ([.ref h0]) ++ List.replicate (1 - (lg_sl ([.ref h0])).length) Slot.unset).toArray = ls at hl ⊢
  have hl : lv_has ls 1 [(0, .ref h0)] := hl
  have HL_a : ∀ (n_a : Nat) (x9 : Int32), rk9 i_len x9 + 1 ≤ n_a → ∀ (H : Heap) (locs : List Loc), va_P (dC, dI) vwCl ([(h0, .inr (4, [.ref t1, .ref t2, .ref t3, .int i_ruleCount, .int i_faultKind, .int i_faultPlace, .int x9, .int i_token, .int i_tokenPlace, .int i_value])), (t1, .inr (7, [.ref u1, .int i_len])), (u1, .inl (cs 0, 200, .inl a_b))] ++ va_pl L f) H → va_D A ([(h0, .inr (4, [.ref t1, .ref t2, .ref t3, .int i_ruleCount, .int i_faultKind, .int i_faultPlace, .int x9, .int i_token, .int i_tokenPlace, .int i_value])), (t1, .inr (7, [.ref u1, .int i_len])), (u1, .inl (cs 0, 200, .inl a_b))] ++ va_pl L f) → va_S A s.heap H locs → ∀ ls : Array Slot, lv_has ls 1 [(0, .ref h0)] → W p l e (headSpec wsX4_readToken ({ frames := 2, cells := 0, slots := 0, locals := 44 })).room s m ([.ref h0]).toArray below meth c H locs 0 0 (MQ below (va_Qv (fun (_ : Unit) => True) (fun (_ : Unit) t9 => ∃ (y_ruleCount : Int32) (y_faultKind : Int32) (y_faultPlace : Int32) (y_place : Int32) (y_token : Int32) (y_tokenPlace : Int32) (y_value : Int32), cQ dC dI ([(h0, .inr (4, [.ref t1, .ref t2, .ref t3, .int y_ruleCount, .int y_faultKind, .int y_faultPlace, .int y_place, .int y_token, .int y_tokenPlace, .int y_value])), (t1, .inr (7, [.ref u1, .int i_len])), (u1, .inl (cs 0, 200, .inl a_b))] ++ va_pl L f) [] A t9) A) ([.ref h0]).toArray s 0 0 A) (F0 m 0 ls []) := by
    intro n_a
    induction n_a with
    | zero => intro x9 hfu; exact absurd hfu (by omega)
    | succ n_a ih_a =>
      intro x9 hfu_a H locs hP hD hS ls hl
      refine lv_aload_n hx hb dX4_readToken_0 rfl (lv_at hl 0 rfl) ?_
      refine va_get (D := (dC, dI)) (ci := 4) (v := .int x9) (C := RX4) (T := TX4) (N := 10) hx hb hts hin4 hown hK hP 0 rfl rfl 6 (by decide) (hts (.fieldLink RX4 96 "YamRiders$StatuteReader" "place" "I") (by decide +kernel)) (fun _ h9 => h9) rfl dX4_readToken_1 ?_
      refine lv_aload_n hx hb dX4_readToken_4 rfl (lv_at hl 0 rfl) ?_
      refine va_get (D := (dC, dI)) (ci := 4) (v := .ref t1) (C := RX4) (T := TX4) (N := 10) hx hb hts hin4 hown hK hP 0 rfl rfl 0 (by decide) (hts (.fieldLink RX4 22 "YamRiders$StatuteReader" "tape" "LYamRiders$Tape;") (by decide +kernel)) (fun _ h9 => h9) rfl dX4_readToken_5 ?_
      refine va_getN (D := (dC, dI)) (ci := 7) (v := .int i_len) (C := RX7) (T := TX7) (N := 2) hx hb hts hin7 hown hK hP 1 rfl rfl 1 (by decide) (hN.nx (.fieldLinkNest RX4 99 "YamRiders$Tape" "length" "I" "YamRiders") (by decide +kernel)) (fun _ h9 => h9) rfl dX4_readToken_8 ?_
      refine lv_icmp_ge (tgt := 44) hx hb dX4_readToken_11 (by decide) (fun c_1 => ?_) (fun c_1 => ?_)
      · refine lv_aload_n hx hb dX4_readToken_44 rfl (lv_at hl 0 rfl) ?_
        refine lv_aload_n hx hb dX4_readToken_45 rfl (lv_at hl 0 rfl) ?_
        refine va_get (D := (dC, dI)) (ci := 4) (v := .int x9) (C := RX4) (T := TX4) (N := 10) hx hb hts hin4 hown hK hP 0 rfl rfl 6 (by decide) (hts (.fieldLink RX4 96 "YamRiders$StatuteReader" "place" "I") (by decide +kernel)) (fun _ h9 => h9) rfl dX4_readToken_46 ?_
        refine va_put (D := (dC, dI)) (ci := 4) (v := .int x9) (ty := (tyX4 8)) (C := RX4) (T := TX4) (N := 10) hx hb hts hin4 tyX4 tyX4_ok nmX4 hown hK hP hD hS 0 rfl rfl 8 (by decide) (hts (.fieldLink RX4 90 "YamRiders$StatuteReader" "tokenPlace" "I") (by decide +kernel)) (fun _ h9 => h9) rfl (by decide +kernel) rfl rfl (Nat.le_of_ble_eq_true rfl) dX4_readToken_49 (fun H locs hP hD hS => ?_)
        have hP : va_P (dC, dI) vwCl ([(h0, .inr (4, [.ref t1, .ref t2, .ref t3, .int i_ruleCount, .int i_faultKind, .int i_faultPlace, .int x9, .int i_token, .int x9, .int i_value])), (t1, .inr (7, [.ref u1, .int i_len])), (u1, .inl (cs 0, 200, .inl a_b))] ++ va_pl L f) H := hP
        have hD : va_D A ([(h0, .inr (4, [.ref t1, .ref t2, .ref t3, .int i_ruleCount, .int i_faultKind, .int i_faultPlace, .int x9, .int i_token, .int x9, .int i_value])), (t1, .inr (7, [.ref u1, .int i_len])), (u1, .inl (cs 0, 200, .inl a_b))] ++ va_pl L f) := hD
        refine lv_aload_n hx hb dX4_readToken_52 rfl (lv_at hl 0 rfl) ?_
        refine va_get (D := (dC, dI)) (ci := 4) (v := .int x9) (C := RX4) (T := TX4) (N := 10) hx hb hts hin4 hown hK hP 0 rfl rfl 6 (by decide) (hts (.fieldLink RX4 96 "YamRiders$StatuteReader" "place" "I") (by decide +kernel)) (fun _ h9 => h9) rfl dX4_readToken_53 ?_
        refine lv_aload_n hx hb dX4_readToken_56 rfl (lv_at hl 0 rfl) ?_
        refine va_get (D := (dC, dI)) (ci := 4) (v := .ref t1) (C := RX4) (T := TX4) (N := 10) hx hb hts hin4 hown hK hP 0 rfl rfl 0 (by decide) (hts (.fieldLink RX4 22 "YamRiders$StatuteReader" "tape" "LYamRiders$Tape;") (by decide +kernel)) (fun _ h9 => h9) rfl dX4_readToken_57 ?_
        refine va_getN (D := (dC, dI)) (ci := 7) (v := .int i_len) (C := RX7) (T := TX7) (N := 2) hx hb hts hin7 hown hK hP 1 rfl rfl 1 (by decide) (hN.nx (.fieldLinkNest RX4 99 "YamRiders$Tape" "length" "I" "YamRiders") (by decide +kernel)) (fun _ h9 => h9) rfl dX4_readToken_60 ?_
        refine lv_icmp_lt (tgt := 74) hx hb dX4_readToken_63 (by decide) (fun c_2 => by first | exact absurd c_2 (Int32.not_lt.mpr c_1) | exact absurd (Int32.not_lt.mpr c_1) c_2) (fun _ => ?_)
        refine lv_aload_n hx hb dX4_readToken_66 rfl (lv_at hl 0 rfl) ?_
        refine lv_iconst (v := 0) hx hb dX4_readToken_67 (by decide) ?_
        refine va_put (D := (dC, dI)) (ci := 4) (v := .int 0) (ty := (tyX4 7)) (C := RX4) (T := TX4) (N := 10) hx hb hts hin4 tyX4 tyX4_ok nmX4 hown hK hP hD hS 0 rfl rfl 7 (by decide) (hts (.fieldLink RX4 29 "YamRiders$StatuteReader" "token" "I") (by decide +kernel)) (fun _ h9 => h9) rfl (by decide +kernel) rfl rfl (Nat.le_of_ble_eq_true rfl) dX4_readToken_68 (fun H locs hP hD hS => ?_)
        have hP : va_P (dC, dI) vwCl ([(h0, .inr (4, [.ref t1, .ref t2, .ref t3, .int i_ruleCount, .int i_faultKind, .int i_faultPlace, .int x9, .int 0, .int x9, .int i_value])), (t1, .inr (7, [.ref u1, .int i_len])), (u1, .inl (cs 0, 200, .inl a_b))] ++ va_pl L f) H := hP
        have hD : va_D A ([(h0, .inr (4, [.ref t1, .ref t2, .ref t3, .int i_ruleCount, .int i_faultKind, .int i_faultPlace, .int x9, .int 0, .int x9, .int i_value])), (t1, .inr (7, [.ref u1, .int i_len])), (u1, .inl (cs 0, 200, .inl a_b))] ++ va_pl L f) := hD
        refine lv_goto (tgt := 112) hx hb dX4_readToken_71 (by decide) ?_
        have hP9 := hP.part (cx := [(h0, .inr (4, [.ref t1, .ref t2, .ref t3, .int i_ruleCount, .int i_faultKind, .int i_faultPlace, .int x9, .int 0, .int x9, .int i_value])), (t1, .inr (7, [.ref u1, .int i_len])), (u1, .inl (cs 0, 200, .inl a_b))]) [0, 1, 2] rfl
        have hD9 := hD.part (cx := [(h0, .inr (4, [.ref t1, .ref t2, .ref t3, .int i_ruleCount, .int i_faultKind, .int i_faultPlace, .int x9, .int 0, .int x9, .int i_value])), (t1, .inr (7, [.ref u1, .int i_len])), (u1, .inl (cs 0, 200, .inl a_b))]) [0, 1, 2] (by decide) rfl
        have hK9 := hK.sub (tys' := []) [] rfl
        refine W.widen (k := 0) (n := 0) (Nat.le_of_ble_eq_true rfl) (Nat.le_of_ble_eq_true rfl) ?_
        exact W.vret hx hb hr (fun t9 ht hW => ⟨⟨(), rfl, trivial, i_ruleCount, i_faultKind, i_faultPlace, x9, 0, x9, i_value, by rw [ht]; exact hP9, va_K.moved hW.alike hK9, hD9⟩, hS.F ht⟩) hS.2.2 dX4_readToken_112
      · refine lv_aload_n hx hb dX4_readToken_14 rfl (lv_at hl 0 rfl) ?_
        refine va_get (D := (dC, dI)) (ci := 4) (v := .ref t1) (C := RX4) (T := TX4) (N := 10) hx hb hts hin4 hown hK hP 0 rfl rfl 0 (by decide) (hts (.fieldLink RX4 22 "YamRiders$StatuteReader" "tape" "LYamRiders$Tape;") (by decide +kernel)) (fun _ h9 => h9) rfl dX4_readToken_15 ?_
        refine lv_aload_n hx hb dX4_readToken_18 rfl (lv_at hl 0 rfl) ?_
        refine va_get (D := (dC, dI)) (ci := 4) (v := .int x9) (C := RX4) (T := TX4) (N := 10) hx hb hts hin4 hown hK hP 0 rfl rfl 6 (by decide) (hts (.fieldLink RX4 96 "YamRiders$StatuteReader" "place" "I") (by decide +kernel)) (fun _ h9 => h9) rfl dX4_readToken_19 ?_
        have hPc := hP.sub (ws' := [(t1, .inr (7, [.ref u1, .int i_len])), (u1, .inl (cs 0, 200, .inl a_b))]) [1, 2] rfl
        have hDc := hD.sub (ws' := [(t1, .inr (7, [.ref u1, .int i_len])), (u1, .inl (cs 0, 200, .inl a_b))]) [1, 2] (by decide) rfl
        have hKc := hK.sub (tys' := [(cs 0, .int)]) [0] rfl
        refine cs_i (va_runV (As := [.int x9]) (rest := []) ⟨hx, hb, hml, hown, hts⟩ (g_X7_byteAt l dC dI t1 u1 (cs 0) a_b x9 i_len H.size) (cwV 1 hts gX4_readToken_X7_byteAt rfl rfl rfl (by decide +kernel) ⟨Nat.le_of_ble_eq_true rfl, Nat.le_of_ble_eq_true rfl⟩) ⟨c_blind, va_recv hKc hPc (ci := 7) (q0 := 0) rfl rfl, c_pre hPc hKc hDc hN⟩ rfl rfl hl.1 rfl (lv_room (Nat.le_of_ble_eq_true rfl)) dX4_readToken_22 ⟨Nat.le_of_ble_eq_true rfl, Nat.le_of_ble_eq_true rfl⟩) (fun r_3 hr_3 => ?_)
        have hPc := hP.part (cx := []) [] rfl
        have hDc := hD.part (cx := []) [] (by decide) rfl
        have hKc := hK
        refine cs_i (va_runS (As := [.int r_3]) (rest := []) ⟨hx, hb, hml, hown, hts⟩ (e_X4_isBlank l dC dI cs L ka ix ad n0 n6 n2 S f r_3 H.size hT) (va_cwS 1 hts gX4_readToken_X4_isBlank rfl rfl rfl (by decide +kernel) ⟨Nat.le_of_ble_eq_true rfl, Nat.le_of_ble_eq_true rfl⟩) ⟨c_blind, c_pre hPc hKc hDc hN⟩ rfl rfl hl.1 rfl (lv_room (Nat.le_of_ble_eq_true rfl)) dX4_readToken_25 ⟨Nat.le_of_ble_eq_true rfl, Nat.le_of_ble_eq_true rfl⟩) (fun r_4 hr_4 => ?_)
        refine lv_if_eq (tgt := 44) hx hb dX4_readToken_28 (by decide) (fun c_5 => ?_) (fun c_5 => ?_)
        · refine lv_aload_n hx hb dX4_readToken_44 rfl (lv_at hl 0 rfl) ?_
          refine lv_aload_n hx hb dX4_readToken_45 rfl (lv_at hl 0 rfl) ?_
          refine va_get (D := (dC, dI)) (ci := 4) (v := .int x9) (C := RX4) (T := TX4) (N := 10) hx hb hts hin4 hown hK hP 0 rfl rfl 6 (by decide) (hts (.fieldLink RX4 96 "YamRiders$StatuteReader" "place" "I") (by decide +kernel)) (fun _ h9 => h9) rfl dX4_readToken_46 ?_
          refine va_put (D := (dC, dI)) (ci := 4) (v := .int x9) (ty := (tyX4 8)) (C := RX4) (T := TX4) (N := 10) hx hb hts hin4 tyX4 tyX4_ok nmX4 hown hK hP hD hS 0 rfl rfl 8 (by decide) (hts (.fieldLink RX4 90 "YamRiders$StatuteReader" "tokenPlace" "I") (by decide +kernel)) (fun _ h9 => h9) rfl (by decide +kernel) rfl rfl (Nat.le_of_ble_eq_true rfl) dX4_readToken_49 (fun H locs hP hD hS => ?_)
          have hP : va_P (dC, dI) vwCl ([(h0, .inr (4, [.ref t1, .ref t2, .ref t3, .int i_ruleCount, .int i_faultKind, .int i_faultPlace, .int x9, .int i_token, .int x9, .int i_value])), (t1, .inr (7, [.ref u1, .int i_len])), (u1, .inl (cs 0, 200, .inl a_b))] ++ va_pl L f) H := hP
          have hD : va_D A ([(h0, .inr (4, [.ref t1, .ref t2, .ref t3, .int i_ruleCount, .int i_faultKind, .int i_faultPlace, .int x9, .int i_token, .int x9, .int i_value])), (t1, .inr (7, [.ref u1, .int i_len])), (u1, .inl (cs 0, 200, .inl a_b))] ++ va_pl L f) := hD
          refine lv_aload_n hx hb dX4_readToken_52 rfl (lv_at hl 0 rfl) ?_
          refine va_get (D := (dC, dI)) (ci := 4) (v := .int x9) (C := RX4) (T := TX4) (N := 10) hx hb hts hin4 hown hK hP 0 rfl rfl 6 (by decide) (hts (.fieldLink RX4 96 "YamRiders$StatuteReader" "place" "I") (by decide +kernel)) (fun _ h9 => h9) rfl dX4_readToken_53 ?_
          refine lv_aload_n hx hb dX4_readToken_56 rfl (lv_at hl 0 rfl) ?_
          refine va_get (D := (dC, dI)) (ci := 4) (v := .ref t1) (C := RX4) (T := TX4) (N := 10) hx hb hts hin4 hown hK hP 0 rfl rfl 0 (by decide) (hts (.fieldLink RX4 22 "YamRiders$StatuteReader" "tape" "LYamRiders$Tape;") (by decide +kernel)) (fun _ h9 => h9) rfl dX4_readToken_57 ?_
          refine va_getN (D := (dC, dI)) (ci := 7) (v := .int i_len) (C := RX7) (T := TX7) (N := 2) hx hb hts hin7 hown hK hP 1 rfl rfl 1 (by decide) (hN.nx (.fieldLinkNest RX4 99 "YamRiders$Tape" "length" "I" "YamRiders") (by decide +kernel)) (fun _ h9 => h9) rfl dX4_readToken_60 ?_
          refine lv_icmp_lt (tgt := 74) hx hb dX4_readToken_63 (by decide) (fun _ => ?_) (fun c_6 => by first | exact absurd c_6 (Int32.not_le.mp c_1) | exact absurd (Int32.not_le.mp c_1) c_6)
          refine lv_aload_n hx hb dX4_readToken_74 rfl (lv_at hl 0 rfl) ?_
          refine va_get (D := (dC, dI)) (ci := 4) (v := .ref t1) (C := RX4) (T := TX4) (N := 10) hx hb hts hin4 hown hK hP 0 rfl rfl 0 (by decide) (hts (.fieldLink RX4 22 "YamRiders$StatuteReader" "tape" "LYamRiders$Tape;") (by decide +kernel)) (fun _ h9 => h9) rfl dX4_readToken_75 ?_
          refine lv_aload_n hx hb dX4_readToken_78 rfl (lv_at hl 0 rfl) ?_
          refine va_get (D := (dC, dI)) (ci := 4) (v := .int x9) (C := RX4) (T := TX4) (N := 10) hx hb hts hin4 hown hK hP 0 rfl rfl 6 (by decide) (hts (.fieldLink RX4 96 "YamRiders$StatuteReader" "place" "I") (by decide +kernel)) (fun _ h9 => h9) rfl dX4_readToken_79 ?_
          have hPc := hP.sub (ws' := [(t1, .inr (7, [.ref u1, .int i_len])), (u1, .inl (cs 0, 200, .inl a_b))]) [1, 2] rfl
          have hDc := hD.sub (ws' := [(t1, .inr (7, [.ref u1, .int i_len])), (u1, .inl (cs 0, 200, .inl a_b))]) [1, 2] (by decide) rfl
          have hKc := hK.sub (tys' := [(cs 0, .int)]) [0] rfl
          refine cs_i (va_runV (As := [.int x9]) (rest := []) ⟨hx, hb, hml, hown, hts⟩ (g_X7_byteAt l dC dI t1 u1 (cs 0) a_b x9 i_len H.size) (cwV 1 hts gX4_readToken_X7_byteAt rfl rfl rfl (by decide +kernel) ⟨Nat.le_of_ble_eq_true rfl, Nat.le_of_ble_eq_true rfl⟩) ⟨c_blind, va_recv hKc hPc (ci := 7) (q0 := 0) rfl rfl, c_pre hPc hKc hDc hN⟩ rfl rfl hl.1 rfl (lv_room (Nat.le_of_ble_eq_true rfl)) dX4_readToken_82 ⟨Nat.le_of_ble_eq_true rfl, Nat.le_of_ble_eq_true rfl⟩) (fun r_7 hr_7 => ?_)
          refine lv_bipush (v := 59) hx hb dX4_readToken_85 (by decide) ?_
          refine lv_icmp_ne (tgt := 108) hx hb dX4_readToken_87 (by decide) (fun c_8 => ?_) (fun c_8 => ?_)
          · refine lv_aload_n hx hb dX4_readToken_108 rfl (lv_at hl 0 rfl) ?_
            have hPc := hP.part (cx := [(h0, .inr (4, [.ref t1, .ref t2, .ref t3, .int i_ruleCount, .int i_faultKind, .int i_faultPlace, .int x9, .int i_token, .int x9, .int i_value])), (t1, .inr (7, [.ref u1, .int i_len])), (u1, .inl (cs 0, 200, .inl a_b))]) [0, 1, 2] rfl
            have hDc := hD.part (cx := [(h0, .inr (4, [.ref t1, .ref t2, .ref t3, .int i_ruleCount, .int i_faultKind, .int i_faultPlace, .int x9, .int i_token, .int x9, .int i_value])), (t1, .inr (7, [.ref u1, .int i_len])), (u1, .inl (cs 0, 200, .inl a_b))]) [0, 1, 2] (by decide) rfl
            have hKc := hK
            have hFc := va_freeP (cx := [(h0, .inr (4, [.ref t1, .ref t2, .ref t3, .int i_ruleCount, .int i_faultKind, .int i_faultPlace, .int x9, .int i_token, .int x9, .int i_value])), (t1, .inr (7, [.ref u1, .int i_len])), (u1, .inl (cs 0, 200, .inl a_b))]) hD hS hA [0, 1, 2] rfl
            refine va_callv (va_runV (As := []) (rest := []) ⟨hx, hb, hml, hown, hts⟩ (e_X4_readWordOrNumber l dC dI cs L ka ix ad n0 n6 n2 S f h0 t1 t2 t3 i_ruleCount i_faultKind i_faultPlace x9 i_token x9 i_value u1 i_len a_b H.size hT) (cwV 0 hts gX4_readToken_X4_readWordOrNumber rfl rfl rfl (by decide +kernel) ⟨Nat.le_of_ble_eq_true rfl, Nat.le_of_ble_eq_true rfl⟩) ⟨c_blind, va_recv hKc hPc (ci := 4) (q0 := 0) rfl rfl, c_pre hPc hKc hDc hN⟩ rfl rfl hl.1 rfl (lv_room (Nat.le_of_ble_eq_true rfl)) dX4_readToken_109 ⟨Nat.le_of_ble_eq_true rfl, Nat.le_of_ble_eq_true rfl⟩) hS (fun q _ h => hFc q h) hFc (fun u9 t9 H1 locs ht hvm hw hB hz1 hk1 hS => ?_)
            obtain ⟨y_ruleCount_10, y_faultKind_11, y_faultPlace_12, y_place_13, y_token_14, y_tokenPlace_15, y_value_16, hP1, hK1, hD1⟩ := hB
            rw [ht] at hP1
            have hK1 := va_K.moved hvm.symm hK1
            obtain ⟨hP, hD⟩ := va_joinP (X := [(h0, .inr (4, [.ref t1, .ref t2, .ref t3, .int i_ruleCount, .int i_faultKind, .int i_faultPlace, .int x9, .int i_token, .int x9, .int i_value])), (t1, .inr (7, [.ref u1, .int i_len])), (u1, .inl (cs 0, 200, .inl a_b))]) (cx := [(h0, .inr (4, [.ref t1, .ref t2, .ref t3, .int i_ruleCount, .int i_faultKind, .int i_faultPlace, .int x9, .int i_token, .int x9, .int i_value])), (t1, .inr (7, [.ref u1, .int i_len])), (u1, .inl (cs 0, 200, .inl a_b))]) (wr := []) (rx := [(h0, .inr (4, [.ref t1, .ref t2, .ref t3, .int y_ruleCount_10, .int y_faultKind_11, .int y_faultPlace_12, .int y_place_13, .int y_token_14, .int y_tokenPlace_15, .int y_value_16])), (t1, .inr (7, [.ref u1, .int i_len])), (u1, .inl (cs 0, 200, .inl a_b))]) (pl := va_pl L f) (pl1 := va_pl L f) hP hD [0, 1, 2] [] rfl rfl (by decide) (by decide) hk1 hFc hP1 hD1
            generalize H1 = H at hP hS ⊢
            have hP : va_P (dC, dI) vwCl ([(h0, .inr (4, [.ref t1, .ref t2, .ref t3, .int y_ruleCount_10, .int y_faultKind_11, .int y_faultPlace_12, .int y_place_13, .int y_token_14, .int y_tokenPlace_15, .int y_value_16])), (t1, .inr (7, [.ref u1, .int i_len])), (u1, .inl (cs 0, 200, .inl a_b))] ++ va_pl L f) H := hP
            have hD : va_D A ([(h0, .inr (4, [.ref t1, .ref t2, .ref t3, .int y_ruleCount_10, .int y_faultKind_11, .int y_faultPlace_12, .int y_place_13, .int y_token_14, .int y_tokenPlace_15, .int y_value_16])), (t1, .inr (7, [.ref u1, .int i_len])), (u1, .inl (cs 0, 200, .inl a_b))] ++ va_pl L f) := hD
            refine W.widen (k := 0) (n := 0) (Nat.le_of_ble_eq_true rfl) (Nat.le_of_ble_eq_true rfl) ?_
            have hP9 := hP.part (cx := [(h0, .inr (4, [.ref t1, .ref t2, .ref t3, .int y_ruleCount_10, .int y_faultKind_11, .int y_faultPlace_12, .int y_place_13, .int y_token_14, .int y_tokenPlace_15, .int y_value_16])), (t1, .inr (7, [.ref u1, .int i_len])), (u1, .inl (cs 0, 200, .inl a_b))]) [0, 1, 2] rfl
            have hD9 := hD.part (cx := [(h0, .inr (4, [.ref t1, .ref t2, .ref t3, .int y_ruleCount_10, .int y_faultKind_11, .int y_faultPlace_12, .int y_place_13, .int y_token_14, .int y_tokenPlace_15, .int y_value_16])), (t1, .inr (7, [.ref u1, .int i_len])), (u1, .inl (cs 0, 200, .inl a_b))]) [0, 1, 2] (by decide) rfl
            have hK9 := hK.sub (tys' := []) [] rfl
            refine W.widen (k := 0) (n := 0) (Nat.le_of_ble_eq_true rfl) (Nat.le_of_ble_eq_true rfl) ?_
            exact W.vret hx hb hr (fun t9 ht hW => ⟨⟨(), rfl, trivial, y_ruleCount_10, y_faultKind_11, y_faultPlace_12, y_place_13, y_token_14, y_tokenPlace_15, y_value_16, by rw [ht]; exact hP9, va_K.moved hW.alike hK9, hD9⟩, hS.F ht⟩) hS.2.2 dX4_readToken_112
          · refine lv_aload_n hx hb dX4_readToken_90 rfl (lv_at hl 0 rfl) ?_
            refine lv_iconst (v := 3) hx hb dX4_readToken_91 (by decide) ?_
            refine va_put (D := (dC, dI)) (ci := 4) (v := .int 3) (ty := (tyX4 7)) (C := RX4) (T := TX4) (N := 10) hx hb hts hin4 tyX4 tyX4_ok nmX4 hown hK hP hD hS 0 rfl rfl 7 (by decide) (hts (.fieldLink RX4 29 "YamRiders$StatuteReader" "token" "I") (by decide +kernel)) (fun _ h9 => h9) rfl (by decide +kernel) rfl rfl (Nat.le_of_ble_eq_true rfl) dX4_readToken_92 (fun H locs hP hD hS => ?_)
            have hP : va_P (dC, dI) vwCl ([(h0, .inr (4, [.ref t1, .ref t2, .ref t3, .int i_ruleCount, .int i_faultKind, .int i_faultPlace, .int x9, .int 3, .int x9, .int i_value])), (t1, .inr (7, [.ref u1, .int i_len])), (u1, .inl (cs 0, 200, .inl a_b))] ++ va_pl L f) H := hP
            have hD : va_D A ([(h0, .inr (4, [.ref t1, .ref t2, .ref t3, .int i_ruleCount, .int i_faultKind, .int i_faultPlace, .int x9, .int 3, .int x9, .int i_value])), (t1, .inr (7, [.ref u1, .int i_len])), (u1, .inl (cs 0, 200, .inl a_b))] ++ va_pl L f) := hD
            refine lv_aload_n hx hb dX4_readToken_95 rfl (lv_at hl 0 rfl) ?_
            refine lv_dup hx hb dX4_readToken_96 rfl ?_
            refine va_get (D := (dC, dI)) (ci := 4) (v := .int x9) (C := RX4) (T := TX4) (N := 10) hx hb hts hin4 hown hK hP 0 rfl rfl 6 (by decide) (hts (.fieldLink RX4 96 "YamRiders$StatuteReader" "place" "I") (by decide +kernel)) (fun _ h9 => h9) rfl dX4_readToken_97 ?_
            refine lv_iconst (v := 1) hx hb dX4_readToken_100 (by decide) ?_
            refine lv_iadd hx hb dX4_readToken_101 ?_
            refine lv_topi (fun v_17 ev_17 => ?_)
            refine va_put (D := (dC, dI)) (ci := 4) (v := .int v_17) (ty := (tyX4 6)) (C := RX4) (T := TX4) (N := 10) hx hb hts hin4 tyX4 tyX4_ok nmX4 hown hK hP hD hS 0 rfl rfl 6 (by decide) (hts (.fieldLink RX4 96 "YamRiders$StatuteReader" "place" "I") (by decide +kernel)) (fun _ h9 => h9) rfl (by decide +kernel) rfl rfl (Nat.le_of_ble_eq_true rfl) dX4_readToken_102 (fun H locs hP hD hS => ?_)
            have hP : va_P (dC, dI) vwCl ([(h0, .inr (4, [.ref t1, .ref t2, .ref t3, .int i_ruleCount, .int i_faultKind, .int i_faultPlace, .int v_17, .int 3, .int x9, .int i_value])), (t1, .inr (7, [.ref u1, .int i_len])), (u1, .inl (cs 0, 200, .inl a_b))] ++ va_pl L f) H := hP
            have hD : va_D A ([(h0, .inr (4, [.ref t1, .ref t2, .ref t3, .int i_ruleCount, .int i_faultKind, .int i_faultPlace, .int v_17, .int 3, .int x9, .int i_value])), (t1, .inr (7, [.ref u1, .int i_len])), (u1, .inl (cs 0, 200, .inl a_b))] ++ va_pl L f) := hD
            refine lv_goto (tgt := 112) hx hb dX4_readToken_105 (by decide) ?_
            have hP9 := hP.part (cx := [(h0, .inr (4, [.ref t1, .ref t2, .ref t3, .int i_ruleCount, .int i_faultKind, .int i_faultPlace, .int v_17, .int 3, .int x9, .int i_value])), (t1, .inr (7, [.ref u1, .int i_len])), (u1, .inl (cs 0, 200, .inl a_b))]) [0, 1, 2] rfl
            have hD9 := hD.part (cx := [(h0, .inr (4, [.ref t1, .ref t2, .ref t3, .int i_ruleCount, .int i_faultKind, .int i_faultPlace, .int v_17, .int 3, .int x9, .int i_value])), (t1, .inr (7, [.ref u1, .int i_len])), (u1, .inl (cs 0, 200, .inl a_b))]) [0, 1, 2] (by decide) rfl
            have hK9 := hK.sub (tys' := []) [] rfl
            refine W.widen (k := 0) (n := 0) (Nat.le_of_ble_eq_true rfl) (Nat.le_of_ble_eq_true rfl) ?_
            exact W.vret hx hb hr (fun t9 ht hW => ⟨⟨(), rfl, trivial, i_ruleCount, i_faultKind, i_faultPlace, v_17, 3, x9, i_value, by rw [ht]; exact hP9, va_K.moved hW.alike hK9, hD9⟩, hS.F ht⟩) hS.2.2 dX4_readToken_112
        · refine lv_aload_n hx hb dX4_readToken_31 rfl (lv_at hl 0 rfl) ?_
          refine lv_dup hx hb dX4_readToken_32 rfl ?_
          refine va_get (D := (dC, dI)) (ci := 4) (v := .int x9) (C := RX4) (T := TX4) (N := 10) hx hb hts hin4 hown hK hP 0 rfl rfl 6 (by decide) (hts (.fieldLink RX4 96 "YamRiders$StatuteReader" "place" "I") (by decide +kernel)) (fun _ h9 => h9) rfl dX4_readToken_33 ?_
          refine lv_iconst (v := 1) hx hb dX4_readToken_36 (by decide) ?_
          refine lv_iadd hx hb dX4_readToken_37 ?_
          refine lv_topi (fun v_18 ev_18 => ?_)
          refine va_put (D := (dC, dI)) (ci := 4) (v := .int v_18) (ty := (tyX4 6)) (C := RX4) (T := TX4) (N := 10) hx hb hts hin4 tyX4 tyX4_ok nmX4 hown hK hP hD hS 0 rfl rfl 6 (by decide) (hts (.fieldLink RX4 96 "YamRiders$StatuteReader" "place" "I") (by decide +kernel)) (fun _ h9 => h9) rfl (by decide +kernel) rfl rfl (Nat.le_of_ble_eq_true rfl) dX4_readToken_38 (fun H locs hP hD hS => ?_)
          have hP : va_P (dC, dI) vwCl ([(h0, .inr (4, [.ref t1, .ref t2, .ref t3, .int i_ruleCount, .int i_faultKind, .int i_faultPlace, .int v_18, .int i_token, .int i_tokenPlace, .int i_value])), (t1, .inr (7, [.ref u1, .int i_len])), (u1, .inl (cs 0, 200, .inl a_b))] ++ va_pl L f) H := hP
          have hD : va_D A ([(h0, .inr (4, [.ref t1, .ref t2, .ref t3, .int i_ruleCount, .int i_faultKind, .int i_faultPlace, .int v_18, .int i_token, .int i_tokenPlace, .int i_value])), (t1, .inr (7, [.ref u1, .int i_len])), (u1, .inl (cs 0, 200, .inl a_b))] ++ va_pl L f) := hD
          refine lv_goto (tgt := 0) hx hb dX4_readToken_41 (by decide) ?_
          have hrk := rk9_lt c_1 ev_18
          exact ih_a v_18 (by omega) _ _ (hP.part (cx := _) [0, 1, 2] rfl) (hD.part (cx := _) [0, 1, 2] (by decide) rfl) hS ls (lv_sub hl [0] rfl)
  exact HL_a (rk9 i_len i_place + 1) i_place (by omega) _ _ (hP.part (cx := _) [0, 1, 2] rfl) (hD.part (cx := _) [0, 1, 2] (by decide) rfl) hS ls (lv_sub hl [0] rfl)

set_option maxHeartbeats 4000000 in
set_option maxRecDepth 100000 in
theorem e_X4_readSemicolon (l : Launch) (dC : Nat → ClassId) (dI : Nat → Nat → Nat) (cs : Nat → ClassId) (L : List Nat) (ka : Nat → Nat) (ix : Nat → Nat) (ad : Nat → Nat → Nat) (n0 : Nat) (n6 : Nat) (n2 : Nat) (S : Nat → Nat → Nat → Int32) (f : Nat → va_E) (h0 : Nat) (t1 : Nat) (t2 : Nat) (t3 : Nat) (i_ruleCount : Int32) (i_faultKind : Int32) (i_faultPlace : Int32) (i_place : Int32) (i_token : Int32) (i_tokenPlace : Int32) (i_value : Int32) (u1 : Nat) (i_len : Int32) (a_b : Nat → Int32) (sz : Nat) (hT : tB L ka ix ad cs n0 n6 n2 S f) : Met l yX4_readSemicolon wsX4_readSemicolon ({ frames := 3, cells := 0, slots := 0, locals := 64 }) (va_Pc [.ref h0] (cP dC dI ([(h0, .inr (4, [.ref t1, .ref t2, .ref t3, .int i_ruleCount, .int i_faultKind, .int i_faultPlace, .int i_place, .int i_token, .int i_tokenPlace, .int i_value])), (t1, .inr (7, [.ref u1, .int i_len])), (u1, .inl (cs 0, 200, .inl a_b))] ++ va_pl L f) (tyC cs) sz)) (va_Qi (fun (r : Int32) (_ : Unit) => r = 0 ∨ r = 1) (fun (_ : Unit) t9 => ∃ (y_ruleCount : Int32) (y_faultKind : Int32) (y_faultPlace : Int32) (y_place : Int32) (y_token : Int32) (y_tokenPlace : Int32) (y_value : Int32), cQ dC dI ([(h0, .inr (4, [.ref t1, .ref t2, .ref t3, .int y_ruleCount, .int y_faultKind, .int y_faultPlace, .int y_place, .int y_token, .int y_tokenPlace, .int y_value])), (t1, .inr (7, [.ref u1, .int i_len])), (u1, .inl (cs 0, 200, .inl a_b))] ++ va_pl L f) [] (va_A ([(h0, .inr (4, [.ref t1, .ref t2, .ref t3, .int i_ruleCount, .int i_faultKind, .int i_faultPlace, .int i_place, .int i_token, .int i_tokenPlace, .int i_value])), (t1, .inr (7, [.ref u1, .int i_len])), (u1, .inl (cs 0, 200, .inl a_b))] ++ va_pl L f) sz) t9) (va_A ([(h0, .inr (4, [.ref t1, .ref t2, .ref t3, .int i_ruleCount, .int i_faultKind, .int i_faultPlace, .int i_place, .int i_token, .int i_tokenPlace, .int i_value])), (t1, .inr (7, [.ref u1, .int i_len])), (u1, .inl (cs 0, 200, .inl a_b))] ++ va_pl L f) sz)) 0 0 (va_A ([(h0, .inr (4, [.ref t1, .ref t2, .ref t3, .int i_ruleCount, .int i_faultKind, .int i_faultPlace, .int i_place, .int i_token, .int i_tokenPlace, .int i_value])), (t1, .inr (7, [.ref u1, .int i_len])), (u1, .inl (cs 0, 200, .inl a_b))] ++ va_pl L f) sz) := by
  refine Met.ofW (cc := cX4_readSemicolon) (maxL := 1) (ret := (some .boolean)) (by decide) rfl ?_
  intro p e s m args below meth c s₁ B hml hv
  obtain ⟨rfl, hsz, hP, hK, hD0, hN⟩ := hv
  have hx := B.exec
  have hb := B.bytes
  have hr := B.returns
  have hts := atoms_spec (ws := wsX4_readSemicolon) B.pre
  have hown : s.vm.findClass RX4 = some m.cls := findClass_of_methodNamed B.named
  have hlocks := B.notSynchronized
  subst hsz
  have hin4 : ∀ w ∈ u_ws RX4 TX4 10, w ∈ wsX4_readSemicolon := by decide +kernel
  have hD := hD0.self (sz := s.heap.size)
  generalize hAe : va_A ([(h0, .inr (4, [.ref t1, .ref t2, .ref t3, .int i_ruleCount, .int i_faultKind, .int i_faultPlace, .int i_place, .int i_token, .int i_tokenPlace, .int i_value])), (t1, .inr (7, [.ref u1, .int i_len])), (u1, .inl (cs 0, 200, .inl a_b))] ++ va_pl L f) s.heap.size = A at hD ⊢
  have hA : ∀ q : Nat, s.heap.size ≤ q → A q := fun q h => by rw [← hAe]; exact Or.inr h
  have hS : va_S A s.heap s.heap [] := va_S.rf
  have hP : va_P (dC, dI) vwCl ([(h0, .inr (4, [.ref t1, .ref t2, .ref t3, .int i_ruleCount, .int i_faultKind, .int i_faultPlace, .int i_place, .int i_token, .int i_tokenPlace, .int i_value])), (t1, .inr (7, [.ref u1, .int i_len])), (u1, .inl (cs 0, 200, .inl a_b))] ++ va_pl L f) s.heap := hP
  have hl := lv_entry ([.ref h0]) (n := 1) (Nat.le_of_ble_eq_true rfl)
  rw [lg_entry_eq]
  generalize (lg_sl ([.ref h0]) ++ List.replicate (1 - (lg_sl ([.ref h0])).length) Slot.unset).toArray = ls at hl ⊢
  have hl : lv_has ls 1 [(0, .ref h0)] := hl
  refine lv_aload_n hx hb dX4_readSemicolon_0 rfl (lv_at hl 0 rfl) ?_
  have hPc := hP.part (cx := [(h0, .inr (4, [.ref t1, .ref t2, .ref t3, .int i_ruleCount, .int i_faultKind, .int i_faultPlace, .int i_place, .int i_token, .int i_tokenPlace, .int i_value])), (t1, .inr (7, [.ref u1, .int i_len])), (u1, .inl (cs 0, 200, .inl a_b))]) [0, 1, 2] rfl
  have hDc := hD.part (cx := [(h0, .inr (4, [.ref t1, .ref t2, .ref t3, .int i_ruleCount, .int i_faultKind, .int i_faultPlace, .int i_place, .int i_token, .int i_tokenPlace, .int i_value])), (t1, .inr (7, [.ref u1, .int i_len])), (u1, .inl (cs 0, 200, .inl a_b))]) [0, 1, 2] (by decide) rfl
  have hKc := hK
  have hFc := va_freeP (cx := [(h0, .inr (4, [.ref t1, .ref t2, .ref t3, .int i_ruleCount, .int i_faultKind, .int i_faultPlace, .int i_place, .int i_token, .int i_tokenPlace, .int i_value])), (t1, .inr (7, [.ref u1, .int i_len])), (u1, .inl (cs 0, 200, .inl a_b))]) hD hS hA [0, 1, 2] rfl
  refine va_callv (va_runV (As := []) (rest := []) ⟨hx, hb, hml, hown, hts⟩ (e_X4_readToken l dC dI cs L ka ix ad n0 n6 n2 S f h0 t1 t2 t3 i_ruleCount i_faultKind i_faultPlace i_place i_token i_tokenPlace i_value u1 i_len a_b s.heap.size hT) (cwV 0 hts gX4_readSemicolon_X4_readToken rfl rfl rfl (by decide +kernel) ⟨Nat.le_of_ble_eq_true rfl, Nat.le_of_ble_eq_true rfl⟩) ⟨c_blind, va_recv hKc hPc (ci := 4) (q0 := 0) rfl rfl, c_pre hPc hKc hDc hN⟩ rfl rfl hl.1 rfl (lv_room (Nat.le_of_ble_eq_true rfl)) dX4_readSemicolon_1 ⟨Nat.le_of_ble_eq_true rfl, Nat.le_of_ble_eq_true rfl⟩) hS (fun q _ h => hFc q h) hFc (fun u9 t9 H1 locs ht hvm hw hB hz1 hk1 hS => ?_)
  obtain ⟨y_ruleCount_2, y_faultKind_3, y_faultPlace_4, y_place_5, y_token_6, y_tokenPlace_7, y_value_8, hP1, hK1, hD1⟩ := hB
  rw [ht] at hP1
  have hK1 := va_K.moved hvm.symm hK1
  obtain ⟨hP, hD⟩ := va_joinP (X := [(h0, .inr (4, [.ref t1, .ref t2, .ref t3, .int i_ruleCount, .int i_faultKind, .int i_faultPlace, .int i_place, .int i_token, .int i_tokenPlace, .int i_value])), (t1, .inr (7, [.ref u1, .int i_len])), (u1, .inl (cs 0, 200, .inl a_b))]) (cx := [(h0, .inr (4, [.ref t1, .ref t2, .ref t3, .int i_ruleCount, .int i_faultKind, .int i_faultPlace, .int i_place, .int i_token, .int i_tokenPlace, .int i_value])), (t1, .inr (7, [.ref u1, .int i_len])), (u1, .inl (cs 0, 200, .inl a_b))]) (wr := []) (rx := [(h0, .inr (4, [.ref t1, .ref t2, .ref t3, .int y_ruleCount_2, .int y_faultKind_3, .int y_faultPlace_4, .int y_place_5, .int y_token_6, .int y_tokenPlace_7, .int y_value_8])), (t1, .inr (7, [.ref u1, .int i_len])), (u1, .inl (cs 0, 200, .inl a_b))]) (pl := va_pl L f) (pl1 := va_pl L f) hP hD [0, 1, 2] [] rfl rfl (by decide) (by decide) hk1 hFc hP1 hD1
  generalize H1 = H at hP hS ⊢
  have hP : va_P (dC, dI) vwCl ([(h0, .inr (4, [.ref t1, .ref t2, .ref t3, .int y_ruleCount_2, .int y_faultKind_3, .int y_faultPlace_4, .int y_place_5, .int y_token_6, .int y_tokenPlace_7, .int y_value_8])), (t1, .inr (7, [.ref u1, .int i_len])), (u1, .inl (cs 0, 200, .inl a_b))] ++ va_pl L f) H := hP
  have hD : va_D A ([(h0, .inr (4, [.ref t1, .ref t2, .ref t3, .int y_ruleCount_2, .int y_faultKind_3, .int y_faultPlace_4, .int y_place_5, .int y_token_6, .int y_tokenPlace_7, .int y_value_8])), (t1, .inr (7, [.ref u1, .int i_len])), (u1, .inl (cs 0, 200, .inl a_b))] ++ va_pl L f) := hD
  refine W.widen (k := 0) (n := 0) (Nat.le_of_ble_eq_true rfl) (Nat.le_of_ble_eq_true rfl) ?_
  refine lv_aload_n hx hb dX4_readSemicolon_4 rfl (lv_at hl 0 rfl) ?_
  refine va_get (D := (dC, dI)) (ci := 4) (v := .int y_token_6) (C := RX4) (T := TX4) (N := 10) hx hb hts hin4 hown hK hP 0 rfl rfl 7 (by decide) (hts (.fieldLink RX4 29 "YamRiders$StatuteReader" "token" "I") (by decide +kernel)) (fun _ h9 => h9) rfl dX4_readSemicolon_5 ?_
  refine lv_iconst (v := 3) hx hb dX4_readSemicolon_8 (by decide) ?_
  refine lv_icmp_eq (tgt := 18) hx hb dX4_readSemicolon_9 (by decide) (fun c_9 => ?_) (fun c_9 => ?_)
  · refine lv_aload_n hx hb dX4_readSemicolon_18 rfl (lv_at hl 0 rfl) ?_
    have hPc := hP.part (cx := [(h0, .inr (4, [.ref t1, .ref t2, .ref t3, .int y_ruleCount_2, .int y_faultKind_3, .int y_faultPlace_4, .int y_place_5, .int y_token_6, .int y_tokenPlace_7, .int y_value_8])), (t1, .inr (7, [.ref u1, .int i_len])), (u1, .inl (cs 0, 200, .inl a_b))]) [0, 1, 2] rfl
    have hDc := hD.part (cx := [(h0, .inr (4, [.ref t1, .ref t2, .ref t3, .int y_ruleCount_2, .int y_faultKind_3, .int y_faultPlace_4, .int y_place_5, .int y_token_6, .int y_tokenPlace_7, .int y_value_8])), (t1, .inr (7, [.ref u1, .int i_len])), (u1, .inl (cs 0, 200, .inl a_b))]) [0, 1, 2] (by decide) rfl
    have hKc := hK
    have hFc := va_freeP (cx := [(h0, .inr (4, [.ref t1, .ref t2, .ref t3, .int y_ruleCount_2, .int y_faultKind_3, .int y_faultPlace_4, .int y_place_5, .int y_token_6, .int y_tokenPlace_7, .int y_value_8])), (t1, .inr (7, [.ref u1, .int i_len])), (u1, .inl (cs 0, 200, .inl a_b))]) hD hS hA [0, 1, 2] rfl
    refine va_callv (va_runV (As := []) (rest := []) ⟨hx, hb, hml, hown, hts⟩ (e_X4_readToken l dC dI cs L ka ix ad n0 n6 n2 S f h0 t1 t2 t3 y_ruleCount_2 y_faultKind_3 y_faultPlace_4 y_place_5 y_token_6 y_tokenPlace_7 y_value_8 u1 i_len a_b H.size hT) (cwV 0 hts gX4_readSemicolon_X4_readToken rfl rfl rfl (by decide +kernel) ⟨Nat.le_of_ble_eq_true rfl, Nat.le_of_ble_eq_true rfl⟩) ⟨c_blind, va_recv hKc hPc (ci := 4) (q0 := 0) rfl rfl, c_pre hPc hKc hDc hN⟩ rfl rfl hl.1 rfl (lv_room (Nat.le_of_ble_eq_true rfl)) dX4_readSemicolon_19 ⟨Nat.le_of_ble_eq_true rfl, Nat.le_of_ble_eq_true rfl⟩) hS (fun q _ h => hFc q h) hFc (fun u9 t9 H1 locs ht hvm hw hB hz1 hk1 hS => ?_)
    obtain ⟨y_ruleCount_11, y_faultKind_12, y_faultPlace_13, y_place_14, y_token_15, y_tokenPlace_16, y_value_17, hP1, hK1, hD1⟩ := hB
    rw [ht] at hP1
    have hK1 := va_K.moved hvm.symm hK1
    obtain ⟨hP, hD⟩ := va_joinP (X := [(h0, .inr (4, [.ref t1, .ref t2, .ref t3, .int y_ruleCount_2, .int y_faultKind_3, .int y_faultPlace_4, .int y_place_5, .int y_token_6, .int y_tokenPlace_7, .int y_value_8])), (t1, .inr (7, [.ref u1, .int i_len])), (u1, .inl (cs 0, 200, .inl a_b))]) (cx := [(h0, .inr (4, [.ref t1, .ref t2, .ref t3, .int y_ruleCount_2, .int y_faultKind_3, .int y_faultPlace_4, .int y_place_5, .int y_token_6, .int y_tokenPlace_7, .int y_value_8])), (t1, .inr (7, [.ref u1, .int i_len])), (u1, .inl (cs 0, 200, .inl a_b))]) (wr := []) (rx := [(h0, .inr (4, [.ref t1, .ref t2, .ref t3, .int y_ruleCount_11, .int y_faultKind_12, .int y_faultPlace_13, .int y_place_14, .int y_token_15, .int y_tokenPlace_16, .int y_value_17])), (t1, .inr (7, [.ref u1, .int i_len])), (u1, .inl (cs 0, 200, .inl a_b))]) (pl := va_pl L f) (pl1 := va_pl L f) hP hD [0, 1, 2] [] rfl rfl (by decide) (by decide) hk1 hFc hP1 hD1
    generalize H1 = H at hP hS ⊢
    have hP : va_P (dC, dI) vwCl ([(h0, .inr (4, [.ref t1, .ref t2, .ref t3, .int y_ruleCount_11, .int y_faultKind_12, .int y_faultPlace_13, .int y_place_14, .int y_token_15, .int y_tokenPlace_16, .int y_value_17])), (t1, .inr (7, [.ref u1, .int i_len])), (u1, .inl (cs 0, 200, .inl a_b))] ++ va_pl L f) H := hP
    have hD : va_D A ([(h0, .inr (4, [.ref t1, .ref t2, .ref t3, .int y_ruleCount_11, .int y_faultKind_12, .int y_faultPlace_13, .int y_place_14, .int y_token_15, .int y_tokenPlace_16, .int y_value_17])), (t1, .inr (7, [.ref u1, .int i_len])), (u1, .inl (cs 0, 200, .inl a_b))] ++ va_pl L f) := hD
    refine W.widen (k := 0) (n := 0) (Nat.le_of_ble_eq_true rfl) (Nat.le_of_ble_eq_true rfl) ?_
    refine lv_iconst (v := 1) hx hb dX4_readSemicolon_22 (by decide) ?_
    have hP9 := hP.part (cx := [(h0, .inr (4, [.ref t1, .ref t2, .ref t3, .int y_ruleCount_11, .int y_faultKind_12, .int y_faultPlace_13, .int y_place_14, .int y_token_15, .int y_tokenPlace_16, .int y_value_17])), (t1, .inr (7, [.ref u1, .int i_len])), (u1, .inl (cs 0, 200, .inl a_b))]) [0, 1, 2] rfl
    have hD9 := hD.part (cx := [(h0, .inr (4, [.ref t1, .ref t2, .ref t3, .int y_ruleCount_11, .int y_faultKind_12, .int y_faultPlace_13, .int y_place_14, .int y_token_15, .int y_tokenPlace_16, .int y_value_17])), (t1, .inr (7, [.ref u1, .int i_len])), (u1, .inl (cs 0, 200, .inl a_b))]) [0, 1, 2] (by decide) rfl
    have hK9 := hK.sub (tys' := []) [] rfl
    refine W.widen (k := 0) (n := 0) (Nat.le_of_ble_eq_true rfl) (Nat.le_of_ble_eq_true rfl) ?_
    exact W.zret (v := 1) hx hb hr rfl (fun t9 ht hW => ⟨⟨_, (), rfl, (Or.inr rfl), y_ruleCount_11, y_faultKind_12, y_faultPlace_13, y_place_14, y_token_15, y_tokenPlace_16, y_value_17, by rw [ht]; exact hP9, va_K.moved hW.alike hK9, hD9⟩, hS.F ht⟩) hS.2.2 dX4_readSemicolon_23
  · refine lv_aload_n hx hb dX4_readSemicolon_12 rfl (lv_at hl 0 rfl) ?_
    refine lv_iconst (v := 2) hx hb dX4_readSemicolon_13 (by decide) ?_
    have hPc := hP.part (cx := [(h0, .inr (4, [.ref t1, .ref t2, .ref t3, .int y_ruleCount_2, .int y_faultKind_3, .int y_faultPlace_4, .int y_place_5, .int y_token_6, .int y_tokenPlace_7, .int y_value_8]))]) [0] rfl
    have hDc := hD.part (cx := [(h0, .inr (4, [.ref t1, .ref t2, .ref t3, .int y_ruleCount_2, .int y_faultKind_3, .int y_faultPlace_4, .int y_place_5, .int y_token_6, .int y_tokenPlace_7, .int y_value_8]))]) [0] (by decide) rfl
    have hKc := hK
    have hFc := va_freeP (cx := [(h0, .inr (4, [.ref t1, .ref t2, .ref t3, .int y_ruleCount_2, .int y_faultKind_3, .int y_faultPlace_4, .int y_place_5, .int y_token_6, .int y_tokenPlace_7, .int y_value_8]))]) hD hS hA [0] rfl
    refine va_calli (va_runV (As := [.int 2]) (rest := []) ⟨hx, hb, hml, hown, hts⟩ (e_X4_stopAtToken l dC dI cs L ka ix ad n0 n6 n2 S f h0 t1 t2 t3 y_ruleCount_2 y_faultKind_3 y_faultPlace_4 y_place_5 y_token_6 y_tokenPlace_7 y_value_8 2 H.size hT) (cwV 1 hts gX4_readSemicolon_X4_stopAtToken rfl rfl rfl (by decide +kernel) ⟨Nat.le_of_ble_eq_true rfl, Nat.le_of_ble_eq_true rfl⟩) ⟨c_blind, va_recv hKc hPc (ci := 4) (q0 := 0) rfl rfl, c_pre hPc hKc hDc hN⟩ rfl rfl hl.1 rfl (lv_room (Nat.le_of_ble_eq_true rfl)) dX4_readSemicolon_14 ⟨Nat.le_of_ble_eq_true rfl, Nat.le_of_ble_eq_true rfl⟩) hS (fun q _ h => hFc q h) hFc (fun r_18 u9 t9 H1 locs ht hvm hw hB hz1 hk1 hS => ?_)
    obtain ⟨y_ruleCount_19, y_faultKind_20, y_faultPlace_21, y_place_22, y_token_23, y_tokenPlace_24, y_value_25, hP1, hK1, hD1⟩ := hB
    rw [ht] at hP1
    have hK1 := va_K.moved hvm.symm hK1
    obtain ⟨hP, hD⟩ := va_joinP (X := [(h0, .inr (4, [.ref t1, .ref t2, .ref t3, .int y_ruleCount_2, .int y_faultKind_3, .int y_faultPlace_4, .int y_place_5, .int y_token_6, .int y_tokenPlace_7, .int y_value_8])), (t1, .inr (7, [.ref u1, .int i_len])), (u1, .inl (cs 0, 200, .inl a_b))]) (cx := [(h0, .inr (4, [.ref t1, .ref t2, .ref t3, .int y_ruleCount_2, .int y_faultKind_3, .int y_faultPlace_4, .int y_place_5, .int y_token_6, .int y_tokenPlace_7, .int y_value_8]))]) (wr := [(t1, .inr (7, [.ref u1, .int i_len])), (u1, .inl (cs 0, 200, .inl a_b))]) (rx := [(h0, .inr (4, [.ref t1, .ref t2, .ref t3, .int y_ruleCount_19, .int y_faultKind_20, .int y_faultPlace_21, .int y_place_22, .int y_token_23, .int y_tokenPlace_24, .int y_value_25]))]) (pl := va_pl L f) (pl1 := va_pl L f) hP hD [0] [1, 2] rfl rfl (by decide) (by decide) hk1 hFc hP1 hD1
    generalize H1 = H at hP hS ⊢
    have hP : va_P (dC, dI) vwCl ([(t1, .inr (7, [.ref u1, .int i_len])), (u1, .inl (cs 0, 200, .inl a_b)), (h0, .inr (4, [.ref t1, .ref t2, .ref t3, .int y_ruleCount_19, .int y_faultKind_20, .int y_faultPlace_21, .int y_place_22, .int y_token_23, .int y_tokenPlace_24, .int y_value_25]))] ++ va_pl L f) H := hP
    have hD : va_D A ([(t1, .inr (7, [.ref u1, .int i_len])), (u1, .inl (cs 0, 200, .inl a_b)), (h0, .inr (4, [.ref t1, .ref t2, .ref t3, .int y_ruleCount_19, .int y_faultKind_20, .int y_faultPlace_21, .int y_place_22, .int y_token_23, .int y_tokenPlace_24, .int y_value_25]))] ++ va_pl L f) := hD
    refine W.widen (k := 0) (n := 0) (Nat.le_of_ble_eq_true rfl) (Nat.le_of_ble_eq_true rfl) ?_
    have hw_26 := hw
    have hP9 := hP.part (cx := [(h0, .inr (4, [.ref t1, .ref t2, .ref t3, .int y_ruleCount_19, .int y_faultKind_20, .int y_faultPlace_21, .int y_place_22, .int y_token_23, .int y_tokenPlace_24, .int y_value_25])), (t1, .inr (7, [.ref u1, .int i_len])), (u1, .inl (cs 0, 200, .inl a_b))]) [2, 0, 1] rfl
    have hD9 := hD.part (cx := [(h0, .inr (4, [.ref t1, .ref t2, .ref t3, .int y_ruleCount_19, .int y_faultKind_20, .int y_faultPlace_21, .int y_place_22, .int y_token_23, .int y_tokenPlace_24, .int y_value_25])), (t1, .inr (7, [.ref u1, .int i_len])), (u1, .inl (cs 0, 200, .inl a_b))]) [2, 0, 1] (by decide) rfl
    have hK9 := hK.sub (tys' := []) [] rfl
    refine W.widen (k := 0) (n := 0) (Nat.le_of_ble_eq_true rfl) (Nat.le_of_ble_eq_true rfl) ?_
    exact W.zret (v := r_18) hx hb hr (nz01 hw_26) (fun t9 ht hW => ⟨⟨_, (), rfl, hw_26, y_ruleCount_19, y_faultKind_20, y_faultPlace_21, y_place_22, y_token_23, y_tokenPlace_24, y_value_25, by rw [ht]; exact hP9, va_K.moved hW.alike hK9, hD9⟩, hS.F ht⟩) hS.2.2 dX4_readSemicolon_17

set_option maxHeartbeats 4000000 in
set_option maxRecDepth 100000 in
theorem e_X4_isFirstOf (l : Launch) (dC : Nat → ClassId) (dI : Nat → Nat → Nat) (cs : Nat → ClassId) (L : List Nat) (ka : Nat → Nat) (ix : Nat → Nat) (ad : Nat → Nat → Nat) (n0 : Nat) (n6 : Nat) (n2 : Nat) (S : Nat → Nat → Nat → Int32) (f : Nat → va_E) (h0 : Nat) (t1 : Nat) (t2 : Nat) (t3 : Nat) (i_ruleCount : Int32) (i_faultKind : Int32) (i_faultPlace : Int32) (i_place : Int32) (i_token : Int32) (i_tokenPlace : Int32) (i_value : Int32) (a_t : Nat → Int32) (p0 : Int32) (sz : Nat) (hT : tB L ka ix ad cs n0 n6 n2 S f) : Met l yX4_isFirstOf wsX4_isFirstOf ({ frames := 1, cells := 0, slots := 0, locals := 21 }) (va_Pc [.ref h0, .int p0] (cP dC dI ([(h0, .inr (4, [.ref t1, .ref t2, .ref t3, .int i_ruleCount, .int i_faultKind, .int i_faultPlace, .int i_place, .int i_token, .int i_tokenPlace, .int i_value])), (t3, .inl (cs 1, 6, .inl a_t))] ++ va_pl L f) (tyC cs) sz)) (va_Qi (fun (r : Int32) (_ : Unit) => r = 0 ∨ r = 1) (fun (_ : Unit) t9 => ∃ (y_ruleCount : Int32) (y_faultKind : Int32) (y_faultPlace : Int32) (y_place : Int32) (y_token : Int32) (y_tokenPlace : Int32) (y_value : Int32) (f_t : Nat → Int32), cQ dC dI ([(h0, .inr (4, [.ref t1, .ref t2, .ref t3, .int y_ruleCount, .int y_faultKind, .int y_faultPlace, .int y_place, .int y_token, .int y_tokenPlace, .int y_value])), (t3, .inl (cs 1, 6, .inl f_t))] ++ va_pl L f) [] (va_A ([(h0, .inr (4, [.ref t1, .ref t2, .ref t3, .int i_ruleCount, .int i_faultKind, .int i_faultPlace, .int i_place, .int i_token, .int i_tokenPlace, .int i_value])), (t3, .inl (cs 1, 6, .inl a_t))] ++ va_pl L f) sz) t9) (va_A ([(h0, .inr (4, [.ref t1, .ref t2, .ref t3, .int i_ruleCount, .int i_faultKind, .int i_faultPlace, .int i_place, .int i_token, .int i_tokenPlace, .int i_value])), (t3, .inl (cs 1, 6, .inl a_t))] ++ va_pl L f) sz)) 0 0 (va_A ([(h0, .inr (4, [.ref t1, .ref t2, .ref t3, .int i_ruleCount, .int i_faultKind, .int i_faultPlace, .int i_place, .int i_token, .int i_tokenPlace, .int i_value])), (t3, .inl (cs 1, 6, .inl a_t))] ++ va_pl L f) sz) := by
  refine Met.ofW (cc := cX4_isFirstOf) (maxL := 2) (ret := (some .boolean)) (by decide) rfl ?_
  intro p e s m args below meth c s₁ B hml hv
  obtain ⟨rfl, hsz, hP, hK, hD0, hN⟩ := hv
  have hx := B.exec
  have hb := B.bytes
  have hr := B.returns
  have hts := atoms_spec (ws := wsX4_isFirstOf) B.pre
  have hown : s.vm.findClass RX4 = some m.cls := findClass_of_methodNamed B.named
  have hlocks := B.notSynchronized
  subst hsz
  have hin4 : ∀ w ∈ u_ws RX4 TX4 10, w ∈ wsX4_isFirstOf := by decide +kernel
  have hD := hD0.self (sz := s.heap.size)
  generalize hAe : va_A ([(h0, .inr (4, [.ref t1, .ref t2, .ref t3, .int i_ruleCount, .int i_faultKind, .int i_faultPlace, .int i_place, .int i_token, .int i_tokenPlace, .int i_value])), (t3, .inl (cs 1, 6, .inl a_t))] ++ va_pl L f) s.heap.size = A at hD ⊢
  have hA : ∀ q : Nat, s.heap.size ≤ q → A q := fun q h => by rw [← hAe]; exact Or.inr h
  have hS : va_S A s.heap s.heap [] := va_S.rf
  have hP : va_P (dC, dI) vwCl ([(h0, .inr (4, [.ref t1, .ref t2, .ref t3, .int i_ruleCount, .int i_faultKind, .int i_faultPlace, .int i_place, .int i_token, .int i_tokenPlace, .int i_value])), (t3, .inl (cs 1, 6, .inl a_t))] ++ va_pl L f) s.heap := hP
  have hl := lv_entry ([.ref h0, .int p0]) (n := 2) (Nat.le_of_ble_eq_true rfl)
  rw [lg_entry_eq]
  generalize (lg_sl ([.ref h0, .int p0]) ++ List.replicate (2 - (lg_sl ([.ref h0, .int p0])).length) Slot.unset).toArray = ls at hl ⊢
  have hl : lv_has ls 2 [(0, .ref h0), (1, .int p0)] := hl
  refine lv_iload_n hx hb dX4_isFirstOf_0 rfl (lv_at hl 1 rfl) ?_
  refine lv_if_lt (tgt := 19) hx hb dX4_isFirstOf_1 (by decide) (fun c_1 => ?_) (fun c_1 => ?_)
  · refine lv_aload_n hx hb dX4_isFirstOf_19 rfl (lv_at hl 0 rfl) ?_
    refine lv_iconst (v := 4) hx hb dX4_isFirstOf_20 (by decide) ?_
    have hPc := hP.part (cx := [(h0, .inr (4, [.ref t1, .ref t2, .ref t3, .int i_ruleCount, .int i_faultKind, .int i_faultPlace, .int i_place, .int i_token, .int i_tokenPlace, .int i_value]))]) [0] rfl
    have hDc := hD.part (cx := [(h0, .inr (4, [.ref t1, .ref t2, .ref t3, .int i_ruleCount, .int i_faultKind, .int i_faultPlace, .int i_place, .int i_token, .int i_tokenPlace, .int i_value]))]) [0] (by decide) rfl
    have hKc := hK
    have hFc := va_freeP (cx := [(h0, .inr (4, [.ref t1, .ref t2, .ref t3, .int i_ruleCount, .int i_faultKind, .int i_faultPlace, .int i_place, .int i_token, .int i_tokenPlace, .int i_value]))]) hD hS hA [0] rfl
    refine va_calli (va_runV (As := [.int 4]) (rest := []) ⟨hx, hb, hml, hown, hts⟩ (e_X4_stopAtToken l dC dI cs L ka ix ad n0 n6 n2 S f h0 t1 t2 t3 i_ruleCount i_faultKind i_faultPlace i_place i_token i_tokenPlace i_value 4 s.heap.size hT) (cwV 1 hts gX4_isFirstOf_X4_stopAtToken rfl rfl rfl (by decide +kernel) ⟨Nat.le_of_ble_eq_true rfl, Nat.le_of_ble_eq_true rfl⟩) ⟨c_blind, va_recv hKc hPc (ci := 4) (q0 := 0) rfl rfl, c_pre hPc hKc hDc hN⟩ rfl rfl hl.1 rfl (lv_room (Nat.le_of_ble_eq_true rfl)) dX4_isFirstOf_21 ⟨Nat.le_of_ble_eq_true rfl, Nat.le_of_ble_eq_true rfl⟩) hS (fun q _ h => hFc q h) hFc (fun r_2 u9 t9 H1 locs ht hvm hw hB hz1 hk1 hS => ?_)
    obtain ⟨y_ruleCount_3, y_faultKind_4, y_faultPlace_5, y_place_6, y_token_7, y_tokenPlace_8, y_value_9, hP1, hK1, hD1⟩ := hB
    rw [ht] at hP1
    have hK1 := va_K.moved hvm.symm hK1
    obtain ⟨hP, hD⟩ := va_joinP (X := [(h0, .inr (4, [.ref t1, .ref t2, .ref t3, .int i_ruleCount, .int i_faultKind, .int i_faultPlace, .int i_place, .int i_token, .int i_tokenPlace, .int i_value])), (t3, .inl (cs 1, 6, .inl a_t))]) (cx := [(h0, .inr (4, [.ref t1, .ref t2, .ref t3, .int i_ruleCount, .int i_faultKind, .int i_faultPlace, .int i_place, .int i_token, .int i_tokenPlace, .int i_value]))]) (wr := [(t3, .inl (cs 1, 6, .inl a_t))]) (rx := [(h0, .inr (4, [.ref t1, .ref t2, .ref t3, .int y_ruleCount_3, .int y_faultKind_4, .int y_faultPlace_5, .int y_place_6, .int y_token_7, .int y_tokenPlace_8, .int y_value_9]))]) (pl := va_pl L f) (pl1 := va_pl L f) hP hD [0] [1] rfl rfl (by decide) (by decide) hk1 hFc hP1 hD1
    generalize H1 = H at hP hS ⊢
    have hP : va_P (dC, dI) vwCl ([(t3, .inl (cs 1, 6, .inl a_t)), (h0, .inr (4, [.ref t1, .ref t2, .ref t3, .int y_ruleCount_3, .int y_faultKind_4, .int y_faultPlace_5, .int y_place_6, .int y_token_7, .int y_tokenPlace_8, .int y_value_9]))] ++ va_pl L f) H := hP
    have hD : va_D A ([(t3, .inl (cs 1, 6, .inl a_t)), (h0, .inr (4, [.ref t1, .ref t2, .ref t3, .int y_ruleCount_3, .int y_faultKind_4, .int y_faultPlace_5, .int y_place_6, .int y_token_7, .int y_tokenPlace_8, .int y_value_9]))] ++ va_pl L f) := hD
    refine W.widen (k := 0) (n := 0) (Nat.le_of_ble_eq_true rfl) (Nat.le_of_ble_eq_true rfl) ?_
    have hw_10 := hw
    have hP9 := hP.part (cx := [(h0, .inr (4, [.ref t1, .ref t2, .ref t3, .int y_ruleCount_3, .int y_faultKind_4, .int y_faultPlace_5, .int y_place_6, .int y_token_7, .int y_tokenPlace_8, .int y_value_9])), (t3, .inl (cs 1, 6, .inl a_t))]) [1, 0] rfl
    have hD9 := hD.part (cx := [(h0, .inr (4, [.ref t1, .ref t2, .ref t3, .int y_ruleCount_3, .int y_faultKind_4, .int y_faultPlace_5, .int y_place_6, .int y_token_7, .int y_tokenPlace_8, .int y_value_9])), (t3, .inl (cs 1, 6, .inl a_t))]) [1, 0] (by decide) rfl
    have hK9 := hK.sub (tys' := []) [] rfl
    refine W.widen (k := 0) (n := 0) (Nat.le_of_ble_eq_true rfl) (Nat.le_of_ble_eq_true rfl) ?_
    exact W.zret (v := r_2) hx hb hr (nz01 hw_10) (fun t9 ht hW => ⟨⟨_, (), rfl, hw_10, y_ruleCount_3, y_faultKind_4, y_faultPlace_5, y_place_6, y_token_7, y_tokenPlace_8, y_value_9, a_t, by rw [ht]; exact hP9, va_K.moved hW.alike hK9, hD9⟩, hS.F ht⟩) hS.2.2 dX4_isFirstOf_24
  · refine lv_iload_n hx hb dX4_isFirstOf_4 rfl (lv_at hl 1 rfl) ?_
    refine lv_bipush (v := 6) hx hb dX4_isFirstOf_5 (by decide) ?_
    refine lv_icmp_ge (tgt := 19) hx hb dX4_isFirstOf_7 (by decide) (fun c_11 => ?_) (fun c_11 => ?_)
    · refine lv_aload_n hx hb dX4_isFirstOf_19 rfl (lv_at hl 0 rfl) ?_
      refine lv_iconst (v := 4) hx hb dX4_isFirstOf_20 (by decide) ?_
      have hPc := hP.part (cx := [(h0, .inr (4, [.ref t1, .ref t2, .ref t3, .int i_ruleCount, .int i_faultKind, .int i_faultPlace, .int i_place, .int i_token, .int i_tokenPlace, .int i_value]))]) [0] rfl
      have hDc := hD.part (cx := [(h0, .inr (4, [.ref t1, .ref t2, .ref t3, .int i_ruleCount, .int i_faultKind, .int i_faultPlace, .int i_place, .int i_token, .int i_tokenPlace, .int i_value]))]) [0] (by decide) rfl
      have hKc := hK
      have hFc := va_freeP (cx := [(h0, .inr (4, [.ref t1, .ref t2, .ref t3, .int i_ruleCount, .int i_faultKind, .int i_faultPlace, .int i_place, .int i_token, .int i_tokenPlace, .int i_value]))]) hD hS hA [0] rfl
      refine va_calli (va_runV (As := [.int 4]) (rest := []) ⟨hx, hb, hml, hown, hts⟩ (e_X4_stopAtToken l dC dI cs L ka ix ad n0 n6 n2 S f h0 t1 t2 t3 i_ruleCount i_faultKind i_faultPlace i_place i_token i_tokenPlace i_value 4 s.heap.size hT) (cwV 1 hts gX4_isFirstOf_X4_stopAtToken rfl rfl rfl (by decide +kernel) ⟨Nat.le_of_ble_eq_true rfl, Nat.le_of_ble_eq_true rfl⟩) ⟨c_blind, va_recv hKc hPc (ci := 4) (q0 := 0) rfl rfl, c_pre hPc hKc hDc hN⟩ rfl rfl hl.1 rfl (lv_room (Nat.le_of_ble_eq_true rfl)) dX4_isFirstOf_21 ⟨Nat.le_of_ble_eq_true rfl, Nat.le_of_ble_eq_true rfl⟩) hS (fun q _ h => hFc q h) hFc (fun r_12 u9 t9 H1 locs ht hvm hw hB hz1 hk1 hS => ?_)
      obtain ⟨y_ruleCount_13, y_faultKind_14, y_faultPlace_15, y_place_16, y_token_17, y_tokenPlace_18, y_value_19, hP1, hK1, hD1⟩ := hB
      rw [ht] at hP1
      have hK1 := va_K.moved hvm.symm hK1
      obtain ⟨hP, hD⟩ := va_joinP (X := [(h0, .inr (4, [.ref t1, .ref t2, .ref t3, .int i_ruleCount, .int i_faultKind, .int i_faultPlace, .int i_place, .int i_token, .int i_tokenPlace, .int i_value])), (t3, .inl (cs 1, 6, .inl a_t))]) (cx := [(h0, .inr (4, [.ref t1, .ref t2, .ref t3, .int i_ruleCount, .int i_faultKind, .int i_faultPlace, .int i_place, .int i_token, .int i_tokenPlace, .int i_value]))]) (wr := [(t3, .inl (cs 1, 6, .inl a_t))]) (rx := [(h0, .inr (4, [.ref t1, .ref t2, .ref t3, .int y_ruleCount_13, .int y_faultKind_14, .int y_faultPlace_15, .int y_place_16, .int y_token_17, .int y_tokenPlace_18, .int y_value_19]))]) (pl := va_pl L f) (pl1 := va_pl L f) hP hD [0] [1] rfl rfl (by decide) (by decide) hk1 hFc hP1 hD1
      generalize H1 = H at hP hS ⊢
      have hP : va_P (dC, dI) vwCl ([(t3, .inl (cs 1, 6, .inl a_t)), (h0, .inr (4, [.ref t1, .ref t2, .ref t3, .int y_ruleCount_13, .int y_faultKind_14, .int y_faultPlace_15, .int y_place_16, .int y_token_17, .int y_tokenPlace_18, .int y_value_19]))] ++ va_pl L f) H := hP
      have hD : va_D A ([(t3, .inl (cs 1, 6, .inl a_t)), (h0, .inr (4, [.ref t1, .ref t2, .ref t3, .int y_ruleCount_13, .int y_faultKind_14, .int y_faultPlace_15, .int y_place_16, .int y_token_17, .int y_tokenPlace_18, .int y_value_19]))] ++ va_pl L f) := hD
      refine W.widen (k := 0) (n := 0) (Nat.le_of_ble_eq_true rfl) (Nat.le_of_ble_eq_true rfl) ?_
      have hw_20 := hw
      have hP9 := hP.part (cx := [(h0, .inr (4, [.ref t1, .ref t2, .ref t3, .int y_ruleCount_13, .int y_faultKind_14, .int y_faultPlace_15, .int y_place_16, .int y_token_17, .int y_tokenPlace_18, .int y_value_19])), (t3, .inl (cs 1, 6, .inl a_t))]) [1, 0] rfl
      have hD9 := hD.part (cx := [(h0, .inr (4, [.ref t1, .ref t2, .ref t3, .int y_ruleCount_13, .int y_faultKind_14, .int y_faultPlace_15, .int y_place_16, .int y_token_17, .int y_tokenPlace_18, .int y_value_19])), (t3, .inl (cs 1, 6, .inl a_t))]) [1, 0] (by decide) rfl
      have hK9 := hK.sub (tys' := []) [] rfl
      refine W.widen (k := 0) (n := 0) (Nat.le_of_ble_eq_true rfl) (Nat.le_of_ble_eq_true rfl) ?_
      exact W.zret (v := r_12) hx hb hr (nz01 hw_20) (fun t9 ht hW => ⟨⟨_, (), rfl, hw_20, y_ruleCount_13, y_faultKind_14, y_faultPlace_15, y_place_16, y_token_17, y_tokenPlace_18, y_value_19, a_t, by rw [ht]; exact hP9, va_K.moved hW.alike hK9, hD9⟩, hS.F ht⟩) hS.2.2 dX4_isFirstOf_24
    · refine lv_aload_n hx hb dX4_isFirstOf_10 rfl (lv_at hl 0 rfl) ?_
      refine va_get (D := (dC, dI)) (ci := 4) (v := .ref t3) (C := RX4) (T := TX4) (N := 10) hx hb hts hin4 hown hK hP 0 rfl rfl 2 (by decide) (hts (.fieldLink RX4 18 "YamRiders$StatuteReader" "isTold" "[Z") (by decide +kernel)) (fun _ h9 => h9) rfl dX4_isFirstOf_11 ?_
      refine lv_iload_n hx hb dX4_isFirstOf_14 rfl (lv_at hl 1 rfl) ?_
      refine va_zald hx hb hK hP 1 1 rfl rfl (in_nI c_1 c_11 (by first | decide | omega)) dX4_isFirstOf_15 ?_
      refine lv_topi (fun v_21 ev_21 => ?_)
      refine lv_if_eq (tgt := 25) hx hb dX4_isFirstOf_16 (by decide) (fun c_22 => ?_) (fun c_22 => ?_)
      · refine lv_aload_n hx hb dX4_isFirstOf_25 rfl (lv_at hl 0 rfl) ?_
        refine va_get (D := (dC, dI)) (ci := 4) (v := .ref t3) (C := RX4) (T := TX4) (N := 10) hx hb hts hin4 hown hK hP 0 rfl rfl 2 (by decide) (hts (.fieldLink RX4 18 "YamRiders$StatuteReader" "isTold" "[Z") (by decide +kernel)) (fun _ h9 => h9) rfl dX4_isFirstOf_26 ?_
        refine lv_iload_n hx hb dX4_isFirstOf_29 rfl (lv_at hl 1 rfl) ?_
        refine lv_iconst (v := 1) hx hb dX4_isFirstOf_30 (by decide) ?_
        refine va_zast hx hb hK hP hD hS 1 1 rfl rfl (in_nI c_1 c_11 (by first | decide | omega)) dX4_isFirstOf_31 (fun H locs hP hD hS => ?_)
        have hP : va_P (dC, dI) vwCl ([(h0, .inr (4, [.ref t1, .ref t2, .ref t3, .int i_ruleCount, .int i_faultKind, .int i_faultPlace, .int i_place, .int i_token, .int i_tokenPlace, .int i_value])), (t3, .inl (cs 1, 6, .inl (upd a_t p0.toNatClampNeg (vp_nar .boolean 1))))] ++ va_pl L f) H := hP
        have hD : va_D A ([(h0, .inr (4, [.ref t1, .ref t2, .ref t3, .int i_ruleCount, .int i_faultKind, .int i_faultPlace, .int i_place, .int i_token, .int i_tokenPlace, .int i_value])), (t3, .inl (cs 1, 6, .inl (upd a_t p0.toNatClampNeg (vp_nar .boolean 1))))] ++ va_pl L f) := hD
        obtain ⟨f_23, ef_23⟩ : ∃ w9 : Nat → Int32, w9 = upd a_t p0.toNatClampNeg (vp_nar .boolean 1) := ⟨_, rfl⟩
        rw [← ef_23] at hP hD
        refine lv_iconst (v := 1) hx hb dX4_isFirstOf_32 (by decide) ?_
        have hP9 := hP.part (cx := [(h0, .inr (4, [.ref t1, .ref t2, .ref t3, .int i_ruleCount, .int i_faultKind, .int i_faultPlace, .int i_place, .int i_token, .int i_tokenPlace, .int i_value])), (t3, .inl (cs 1, 6, .inl f_23))]) [0, 1] rfl
        have hD9 := hD.part (cx := [(h0, .inr (4, [.ref t1, .ref t2, .ref t3, .int i_ruleCount, .int i_faultKind, .int i_faultPlace, .int i_place, .int i_token, .int i_tokenPlace, .int i_value])), (t3, .inl (cs 1, 6, .inl f_23))]) [0, 1] (by decide) rfl
        have hK9 := hK.sub (tys' := []) [] rfl
        refine W.widen (k := 0) (n := 0) (Nat.le_of_ble_eq_true rfl) (Nat.le_of_ble_eq_true rfl) ?_
        exact W.zret (v := 1) hx hb hr rfl (fun t9 ht hW => ⟨⟨_, (), rfl, (Or.inr rfl), i_ruleCount, i_faultKind, i_faultPlace, i_place, i_token, i_tokenPlace, i_value, f_23, by rw [ht]; exact hP9, va_K.moved hW.alike hK9, hD9⟩, hS.F ht⟩) hS.2.2 dX4_isFirstOf_33
      · refine lv_aload_n hx hb dX4_isFirstOf_19 rfl (lv_at hl 0 rfl) ?_
        refine lv_iconst (v := 4) hx hb dX4_isFirstOf_20 (by decide) ?_
        have hPc := hP.part (cx := [(h0, .inr (4, [.ref t1, .ref t2, .ref t3, .int i_ruleCount, .int i_faultKind, .int i_faultPlace, .int i_place, .int i_token, .int i_tokenPlace, .int i_value]))]) [0] rfl
        have hDc := hD.part (cx := [(h0, .inr (4, [.ref t1, .ref t2, .ref t3, .int i_ruleCount, .int i_faultKind, .int i_faultPlace, .int i_place, .int i_token, .int i_tokenPlace, .int i_value]))]) [0] (by decide) rfl
        have hKc := hK
        have hFc := va_freeP (cx := [(h0, .inr (4, [.ref t1, .ref t2, .ref t3, .int i_ruleCount, .int i_faultKind, .int i_faultPlace, .int i_place, .int i_token, .int i_tokenPlace, .int i_value]))]) hD hS hA [0] rfl
        refine va_calli (va_runV (As := [.int 4]) (rest := []) ⟨hx, hb, hml, hown, hts⟩ (e_X4_stopAtToken l dC dI cs L ka ix ad n0 n6 n2 S f h0 t1 t2 t3 i_ruleCount i_faultKind i_faultPlace i_place i_token i_tokenPlace i_value 4 s.heap.size hT) (cwV 1 hts gX4_isFirstOf_X4_stopAtToken rfl rfl rfl (by decide +kernel) ⟨Nat.le_of_ble_eq_true rfl, Nat.le_of_ble_eq_true rfl⟩) ⟨c_blind, va_recv hKc hPc (ci := 4) (q0 := 0) rfl rfl, c_pre hPc hKc hDc hN⟩ rfl rfl hl.1 rfl (lv_room (Nat.le_of_ble_eq_true rfl)) dX4_isFirstOf_21 ⟨Nat.le_of_ble_eq_true rfl, Nat.le_of_ble_eq_true rfl⟩) hS (fun q _ h => hFc q h) hFc (fun r_24 u9 t9 H1 locs ht hvm hw hB hz1 hk1 hS => ?_)
        obtain ⟨y_ruleCount_25, y_faultKind_26, y_faultPlace_27, y_place_28, y_token_29, y_tokenPlace_30, y_value_31, hP1, hK1, hD1⟩ := hB
        rw [ht] at hP1
        have hK1 := va_K.moved hvm.symm hK1
        obtain ⟨hP, hD⟩ := va_joinP (X := [(h0, .inr (4, [.ref t1, .ref t2, .ref t3, .int i_ruleCount, .int i_faultKind, .int i_faultPlace, .int i_place, .int i_token, .int i_tokenPlace, .int i_value])), (t3, .inl (cs 1, 6, .inl a_t))]) (cx := [(h0, .inr (4, [.ref t1, .ref t2, .ref t3, .int i_ruleCount, .int i_faultKind, .int i_faultPlace, .int i_place, .int i_token, .int i_tokenPlace, .int i_value]))]) (wr := [(t3, .inl (cs 1, 6, .inl a_t))]) (rx := [(h0, .inr (4, [.ref t1, .ref t2, .ref t3, .int y_ruleCount_25, .int y_faultKind_26, .int y_faultPlace_27, .int y_place_28, .int y_token_29, .int y_tokenPlace_30, .int y_value_31]))]) (pl := va_pl L f) (pl1 := va_pl L f) hP hD [0] [1] rfl rfl (by decide) (by decide) hk1 hFc hP1 hD1
        generalize H1 = H at hP hS ⊢
        have hP : va_P (dC, dI) vwCl ([(t3, .inl (cs 1, 6, .inl a_t)), (h0, .inr (4, [.ref t1, .ref t2, .ref t3, .int y_ruleCount_25, .int y_faultKind_26, .int y_faultPlace_27, .int y_place_28, .int y_token_29, .int y_tokenPlace_30, .int y_value_31]))] ++ va_pl L f) H := hP
        have hD : va_D A ([(t3, .inl (cs 1, 6, .inl a_t)), (h0, .inr (4, [.ref t1, .ref t2, .ref t3, .int y_ruleCount_25, .int y_faultKind_26, .int y_faultPlace_27, .int y_place_28, .int y_token_29, .int y_tokenPlace_30, .int y_value_31]))] ++ va_pl L f) := hD
        refine W.widen (k := 0) (n := 0) (Nat.le_of_ble_eq_true rfl) (Nat.le_of_ble_eq_true rfl) ?_
        have hw_32 := hw
        have hP9 := hP.part (cx := [(h0, .inr (4, [.ref t1, .ref t2, .ref t3, .int y_ruleCount_25, .int y_faultKind_26, .int y_faultPlace_27, .int y_place_28, .int y_token_29, .int y_tokenPlace_30, .int y_value_31])), (t3, .inl (cs 1, 6, .inl a_t))]) [1, 0] rfl
        have hD9 := hD.part (cx := [(h0, .inr (4, [.ref t1, .ref t2, .ref t3, .int y_ruleCount_25, .int y_faultKind_26, .int y_faultPlace_27, .int y_place_28, .int y_token_29, .int y_tokenPlace_30, .int y_value_31])), (t3, .inl (cs 1, 6, .inl a_t))]) [1, 0] (by decide) rfl
        have hK9 := hK.sub (tys' := []) [] rfl
        refine W.widen (k := 0) (n := 0) (Nat.le_of_ble_eq_true rfl) (Nat.le_of_ble_eq_true rfl) ?_
        exact W.zret (v := r_24) hx hb hr (nz01 hw_32) (fun t9 ht hW => ⟨⟨_, (), rfl, hw_32, y_ruleCount_25, y_faultKind_26, y_faultPlace_27, y_place_28, y_token_29, y_tokenPlace_30, y_value_31, a_t, by rw [ht]; exact hP9, va_K.moved hW.alike hK9, hD9⟩, hS.F ht⟩) hS.2.2 dX4_isFirstOf_24

set_option maxHeartbeats 4000000 in
set_option maxRecDepth 100000 in
theorem e_X4_readNumberOf (l : Launch) (dC : Nat → ClassId) (dI : Nat → Nat → Nat) (cs : Nat → ClassId) (L : List Nat) (ka : Nat → Nat) (ix : Nat → Nat) (ad : Nat → Nat → Nat) (n0 : Nat) (n6 : Nat) (n2 : Nat) (S : Nat → Nat → Nat → Int32) (f : Nat → va_E) (h0 : Nat) (t1 : Nat) (t2 : Nat) (t3 : Nat) (i_ruleCount : Int32) (i_faultKind : Int32) (i_faultPlace : Int32) (i_place : Int32) (i_token : Int32) (i_tokenPlace : Int32) (i_value : Int32) (u1 : Nat) (i_len : Int32) (a_b : Nat → Int32) (n1 : Nat) (a_n : Nat → Int32) (p0 : Int32) (sz : Nat) (hT : tB L ka ix ad cs n0 n6 n2 S f) : Met l yX4_readNumberOf wsX4_readNumberOf ({ frames := 3, cells := 0, slots := 0, locals := 64 }) (va_Pc [.ref h0, .int p0] (cP dC dI ([(h0, .inr (4, [.ref t1, .ref t2, .ref t3, .int i_ruleCount, .int i_faultKind, .int i_faultPlace, .int i_place, .int i_token, .int i_tokenPlace, .int i_value])), (t1, .inr (7, [.ref u1, .int i_len])), (u1, .inl (cs 0, 200, .inl a_b)), (t2, .inr (5, [.ref n1])), (n1, .inl (cs 0, 6, .inl a_n))] ++ va_pl L f) (tyC cs) sz)) (va_Qi (fun (r : Int32) (_ : Unit) => r = 0 ∨ r = 1) (fun (_ : Unit) t9 => ∃ (y_ruleCount : Int32) (y_faultKind : Int32) (y_faultPlace : Int32) (y_place : Int32) (y_token : Int32) (y_tokenPlace : Int32) (y_value : Int32) (f_n : Nat → Int32), cQ dC dI ([(h0, .inr (4, [.ref t1, .ref t2, .ref t3, .int y_ruleCount, .int y_faultKind, .int y_faultPlace, .int y_place, .int y_token, .int y_tokenPlace, .int y_value])), (t1, .inr (7, [.ref u1, .int i_len])), (u1, .inl (cs 0, 200, .inl a_b)), (t2, .inr (5, [.ref n1])), (n1, .inl (cs 0, 6, .inl f_n))] ++ va_pl L f) [] (va_A ([(h0, .inr (4, [.ref t1, .ref t2, .ref t3, .int i_ruleCount, .int i_faultKind, .int i_faultPlace, .int i_place, .int i_token, .int i_tokenPlace, .int i_value])), (t1, .inr (7, [.ref u1, .int i_len])), (u1, .inl (cs 0, 200, .inl a_b)), (t2, .inr (5, [.ref n1])), (n1, .inl (cs 0, 6, .inl a_n))] ++ va_pl L f) sz) t9) (va_A ([(h0, .inr (4, [.ref t1, .ref t2, .ref t3, .int i_ruleCount, .int i_faultKind, .int i_faultPlace, .int i_place, .int i_token, .int i_tokenPlace, .int i_value])), (t1, .inr (7, [.ref u1, .int i_len])), (u1, .inl (cs 0, 200, .inl a_b)), (t2, .inr (5, [.ref n1])), (n1, .inl (cs 0, 6, .inl a_n))] ++ va_pl L f) sz)) 0 0 (va_A ([(h0, .inr (4, [.ref t1, .ref t2, .ref t3, .int i_ruleCount, .int i_faultKind, .int i_faultPlace, .int i_place, .int i_token, .int i_tokenPlace, .int i_value])), (t1, .inr (7, [.ref u1, .int i_len])), (u1, .inl (cs 0, 200, .inl a_b)), (t2, .inr (5, [.ref n1])), (n1, .inl (cs 0, 6, .inl a_n))] ++ va_pl L f) sz) := by
  refine Met.ofW (cc := cX4_readNumberOf) (maxL := 2) (ret := (some .boolean)) (by decide) rfl ?_
  intro p e s m args below meth c s₁ B hml hv
  obtain ⟨rfl, hsz, hP, hK, hD0, hN⟩ := hv
  have hx := B.exec
  have hb := B.bytes
  have hr := B.returns
  have hts := atoms_spec (ws := wsX4_readNumberOf) B.pre
  have hown : s.vm.findClass RX4 = some m.cls := findClass_of_methodNamed B.named
  have hlocks := B.notSynchronized
  subst hsz
  have hin4 : ∀ w ∈ u_ws RX4 TX4 10, w ∈ wsX4_readNumberOf := by decide +kernel
  have hD := hD0.self (sz := s.heap.size)
  generalize hAe : va_A ([(h0, .inr (4, [.ref t1, .ref t2, .ref t3, .int i_ruleCount, .int i_faultKind, .int i_faultPlace, .int i_place, .int i_token, .int i_tokenPlace, .int i_value])), (t1, .inr (7, [.ref u1, .int i_len])), (u1, .inl (cs 0, 200, .inl a_b)), (t2, .inr (5, [.ref n1])), (n1, .inl (cs 0, 6, .inl a_n))] ++ va_pl L f) s.heap.size = A at hD ⊢
  have hA : ∀ q : Nat, s.heap.size ≤ q → A q := fun q h => by rw [← hAe]; exact Or.inr h
  have hS : va_S A s.heap s.heap [] := va_S.rf
  have hP : va_P (dC, dI) vwCl ([(h0, .inr (4, [.ref t1, .ref t2, .ref t3, .int i_ruleCount, .int i_faultKind, .int i_faultPlace, .int i_place, .int i_token, .int i_tokenPlace, .int i_value])), (t1, .inr (7, [.ref u1, .int i_len])), (u1, .inl (cs 0, 200, .inl a_b)), (t2, .inr (5, [.ref n1])), (n1, .inl (cs 0, 6, .inl a_n))] ++ va_pl L f) s.heap := hP
  have hl := lv_entry ([.ref h0, .int p0]) (n := 2) (Nat.le_of_ble_eq_true rfl)
  rw [lg_entry_eq]
  generalize (lg_sl ([.ref h0, .int p0]) ++ List.replicate (2 - (lg_sl ([.ref h0, .int p0])).length) Slot.unset).toArray = ls at hl ⊢
  have hl : lv_has ls 2 [(0, .ref h0), (1, .int p0)] := hl
  refine lv_aload_n hx hb dX4_readNumberOf_0 rfl (lv_at hl 0 rfl) ?_
  have hPc := hP.part (cx := [(h0, .inr (4, [.ref t1, .ref t2, .ref t3, .int i_ruleCount, .int i_faultKind, .int i_faultPlace, .int i_place, .int i_token, .int i_tokenPlace, .int i_value])), (t1, .inr (7, [.ref u1, .int i_len])), (u1, .inl (cs 0, 200, .inl a_b))]) [0, 1, 2] rfl
  have hDc := hD.part (cx := [(h0, .inr (4, [.ref t1, .ref t2, .ref t3, .int i_ruleCount, .int i_faultKind, .int i_faultPlace, .int i_place, .int i_token, .int i_tokenPlace, .int i_value])), (t1, .inr (7, [.ref u1, .int i_len])), (u1, .inl (cs 0, 200, .inl a_b))]) [0, 1, 2] (by decide) rfl
  have hKc := hK
  have hFc := va_freeP (cx := [(h0, .inr (4, [.ref t1, .ref t2, .ref t3, .int i_ruleCount, .int i_faultKind, .int i_faultPlace, .int i_place, .int i_token, .int i_tokenPlace, .int i_value])), (t1, .inr (7, [.ref u1, .int i_len])), (u1, .inl (cs 0, 200, .inl a_b))]) hD hS hA [0, 1, 2] rfl
  refine va_callv (va_runV (As := []) (rest := []) ⟨hx, hb, hml, hown, hts⟩ (e_X4_readToken l dC dI cs L ka ix ad n0 n6 n2 S f h0 t1 t2 t3 i_ruleCount i_faultKind i_faultPlace i_place i_token i_tokenPlace i_value u1 i_len a_b s.heap.size hT) (cwV 0 hts gX4_readNumberOf_X4_readToken rfl rfl rfl (by decide +kernel) ⟨Nat.le_of_ble_eq_true rfl, Nat.le_of_ble_eq_true rfl⟩) ⟨c_blind, va_recv hKc hPc (ci := 4) (q0 := 0) rfl rfl, c_pre hPc hKc hDc hN⟩ rfl rfl hl.1 rfl (lv_room (Nat.le_of_ble_eq_true rfl)) dX4_readNumberOf_1 ⟨Nat.le_of_ble_eq_true rfl, Nat.le_of_ble_eq_true rfl⟩) hS (fun q _ h => hFc q h) hFc (fun u9 t9 H1 locs ht hvm hw hB hz1 hk1 hS => ?_)
  obtain ⟨y_ruleCount_2, y_faultKind_3, y_faultPlace_4, y_place_5, y_token_6, y_tokenPlace_7, y_value_8, hP1, hK1, hD1⟩ := hB
  rw [ht] at hP1
  have hK1 := va_K.moved hvm.symm hK1
  obtain ⟨hP, hD⟩ := va_joinP (X := [(h0, .inr (4, [.ref t1, .ref t2, .ref t3, .int i_ruleCount, .int i_faultKind, .int i_faultPlace, .int i_place, .int i_token, .int i_tokenPlace, .int i_value])), (t1, .inr (7, [.ref u1, .int i_len])), (u1, .inl (cs 0, 200, .inl a_b)), (t2, .inr (5, [.ref n1])), (n1, .inl (cs 0, 6, .inl a_n))]) (cx := [(h0, .inr (4, [.ref t1, .ref t2, .ref t3, .int i_ruleCount, .int i_faultKind, .int i_faultPlace, .int i_place, .int i_token, .int i_tokenPlace, .int i_value])), (t1, .inr (7, [.ref u1, .int i_len])), (u1, .inl (cs 0, 200, .inl a_b))]) (wr := [(t2, .inr (5, [.ref n1])), (n1, .inl (cs 0, 6, .inl a_n))]) (rx := [(h0, .inr (4, [.ref t1, .ref t2, .ref t3, .int y_ruleCount_2, .int y_faultKind_3, .int y_faultPlace_4, .int y_place_5, .int y_token_6, .int y_tokenPlace_7, .int y_value_8])), (t1, .inr (7, [.ref u1, .int i_len])), (u1, .inl (cs 0, 200, .inl a_b))]) (pl := va_pl L f) (pl1 := va_pl L f) hP hD [0, 1, 2] [3, 4] rfl rfl (by decide) (by decide) hk1 hFc hP1 hD1
  generalize H1 = H at hP hS ⊢
  have hP : va_P (dC, dI) vwCl ([(t2, .inr (5, [.ref n1])), (n1, .inl (cs 0, 6, .inl a_n)), (h0, .inr (4, [.ref t1, .ref t2, .ref t3, .int y_ruleCount_2, .int y_faultKind_3, .int y_faultPlace_4, .int y_place_5, .int y_token_6, .int y_tokenPlace_7, .int y_value_8])), (t1, .inr (7, [.ref u1, .int i_len])), (u1, .inl (cs 0, 200, .inl a_b))] ++ va_pl L f) H := hP
  have hD : va_D A ([(t2, .inr (5, [.ref n1])), (n1, .inl (cs 0, 6, .inl a_n)), (h0, .inr (4, [.ref t1, .ref t2, .ref t3, .int y_ruleCount_2, .int y_faultKind_3, .int y_faultPlace_4, .int y_place_5, .int y_token_6, .int y_tokenPlace_7, .int y_value_8])), (t1, .inr (7, [.ref u1, .int i_len])), (u1, .inl (cs 0, 200, .inl a_b))] ++ va_pl L f) := hD
  refine W.widen (k := 0) (n := 0) (Nat.le_of_ble_eq_true rfl) (Nat.le_of_ble_eq_true rfl) ?_
  refine lv_aload_n hx hb dX4_readNumberOf_4 rfl (lv_at hl 0 rfl) ?_
  refine lv_iload_n hx hb dX4_readNumberOf_5 rfl (lv_at hl 1 rfl) ?_
  have hPc := hP.part (cx := []) [] rfl
  have hDc := hD.part (cx := []) [] (by decide) rfl
  have hKc := hK
  refine cs_i (va_runS (As := [.int p0]) (rest := [.ref h0]) ⟨hx, hb, hml, hown, hts⟩ (e_X5_leastFor l dC dI cs L ka ix ad n0 n6 n2 S f p0 H.size hT) (va_cwS 1 hts gX4_readNumberOf_X5_leastFor rfl rfl rfl (by decide +kernel) ⟨Nat.le_of_ble_eq_true rfl, Nat.le_of_ble_eq_true rfl⟩) ⟨c_blind, c_pre hPc hKc hDc hN⟩ rfl rfl hl.1 rfl (lv_room (Nat.le_of_ble_eq_true rfl)) dX4_readNumberOf_6 ⟨Nat.le_of_ble_eq_true rfl, Nat.le_of_ble_eq_true rfl⟩) (fun r_9 hr_9 => ?_)
  refine lv_iload_n hx hb dX4_readNumberOf_9 rfl (lv_at hl 1 rfl) ?_
  have hPc := hP.part (cx := []) [] rfl
  have hDc := hD.part (cx := []) [] (by decide) rfl
  have hKc := hK
  refine cs_i (va_runS (As := [.int p0]) (rest := [.int r_9, .ref h0]) ⟨hx, hb, hml, hown, hts⟩ (e_X5_mostFor l dC dI cs L ka ix ad n0 n6 n2 S f p0 H.size hT) (va_cwS 1 hts gX4_readNumberOf_X5_mostFor rfl rfl rfl (by decide +kernel) ⟨Nat.le_of_ble_eq_true rfl, Nat.le_of_ble_eq_true rfl⟩) ⟨c_blind, c_pre hPc hKc hDc hN⟩ rfl rfl hl.1 rfl (lv_room (Nat.le_of_ble_eq_true rfl)) dX4_readNumberOf_10 ⟨Nat.le_of_ble_eq_true rfl, Nat.le_of_ble_eq_true rfl⟩) (fun r_10 hr_10 => ?_)
  have hPc := hP.part (cx := [(h0, .inr (4, [.ref t1, .ref t2, .ref t3, .int y_ruleCount_2, .int y_faultKind_3, .int y_faultPlace_4, .int y_place_5, .int y_token_6, .int y_tokenPlace_7, .int y_value_8]))]) [2] rfl
  have hDc := hD.part (cx := [(h0, .inr (4, [.ref t1, .ref t2, .ref t3, .int y_ruleCount_2, .int y_faultKind_3, .int y_faultPlace_4, .int y_place_5, .int y_token_6, .int y_tokenPlace_7, .int y_value_8]))]) [2] (by decide) rfl
  have hKc := hK
  have hFc := va_freeP (cx := [(h0, .inr (4, [.ref t1, .ref t2, .ref t3, .int y_ruleCount_2, .int y_faultKind_3, .int y_faultPlace_4, .int y_place_5, .int y_token_6, .int y_tokenPlace_7, .int y_value_8]))]) hD hS hA [2] rfl
  refine va_calli (va_runV (As := [.int r_9, .int r_10]) (rest := []) ⟨hx, hb, hml, hown, hts⟩ (e_X4_isNumberWithin l dC dI cs L ka ix ad n0 n6 n2 S f h0 t1 t2 t3 y_ruleCount_2 y_faultKind_3 y_faultPlace_4 y_place_5 y_token_6 y_tokenPlace_7 y_value_8 r_9 r_10 H.size hT) (cwV 2 hts gX4_readNumberOf_X4_isNumberWithin rfl rfl rfl (by decide +kernel) ⟨Nat.le_of_ble_eq_true rfl, Nat.le_of_ble_eq_true rfl⟩) ⟨c_blind, va_recv hKc hPc (ci := 4) (q0 := 0) rfl rfl, c_pre hPc hKc hDc hN⟩ rfl rfl hl.1 rfl (lv_room (Nat.le_of_ble_eq_true rfl)) dX4_readNumberOf_13 ⟨Nat.le_of_ble_eq_true rfl, Nat.le_of_ble_eq_true rfl⟩) hS (fun q _ h => hFc q h) hFc (fun r_11 u9 t9 H1 locs ht hvm hw hB hz1 hk1 hS => ?_)
  obtain ⟨y_ruleCount_12, y_faultKind_13, y_faultPlace_14, y_place_15, y_token_16, y_tokenPlace_17, y_value_18, hP1, hK1, hD1⟩ := hB
  rw [ht] at hP1
  have hK1 := va_K.moved hvm.symm hK1
  obtain ⟨hP, hD⟩ := va_joinP (X := [(t2, .inr (5, [.ref n1])), (n1, .inl (cs 0, 6, .inl a_n)), (h0, .inr (4, [.ref t1, .ref t2, .ref t3, .int y_ruleCount_2, .int y_faultKind_3, .int y_faultPlace_4, .int y_place_5, .int y_token_6, .int y_tokenPlace_7, .int y_value_8])), (t1, .inr (7, [.ref u1, .int i_len])), (u1, .inl (cs 0, 200, .inl a_b))]) (cx := [(h0, .inr (4, [.ref t1, .ref t2, .ref t3, .int y_ruleCount_2, .int y_faultKind_3, .int y_faultPlace_4, .int y_place_5, .int y_token_6, .int y_tokenPlace_7, .int y_value_8]))]) (wr := [(t2, .inr (5, [.ref n1])), (n1, .inl (cs 0, 6, .inl a_n)), (t1, .inr (7, [.ref u1, .int i_len])), (u1, .inl (cs 0, 200, .inl a_b))]) (rx := [(h0, .inr (4, [.ref t1, .ref t2, .ref t3, .int y_ruleCount_12, .int y_faultKind_13, .int y_faultPlace_14, .int y_place_15, .int y_token_16, .int y_tokenPlace_17, .int y_value_18]))]) (pl := va_pl L f) (pl1 := va_pl L f) hP hD [2] [0, 1, 3, 4] rfl rfl (by decide) (by decide) hk1 hFc hP1 hD1
  generalize H1 = H at hP hS ⊢
  have hP : va_P (dC, dI) vwCl ([(t2, .inr (5, [.ref n1])), (n1, .inl (cs 0, 6, .inl a_n)), (t1, .inr (7, [.ref u1, .int i_len])), (u1, .inl (cs 0, 200, .inl a_b)), (h0, .inr (4, [.ref t1, .ref t2, .ref t3, .int y_ruleCount_12, .int y_faultKind_13, .int y_faultPlace_14, .int y_place_15, .int y_token_16, .int y_tokenPlace_17, .int y_value_18]))] ++ va_pl L f) H := hP
  have hD : va_D A ([(t2, .inr (5, [.ref n1])), (n1, .inl (cs 0, 6, .inl a_n)), (t1, .inr (7, [.ref u1, .int i_len])), (u1, .inl (cs 0, 200, .inl a_b)), (h0, .inr (4, [.ref t1, .ref t2, .ref t3, .int y_ruleCount_12, .int y_faultKind_13, .int y_faultPlace_14, .int y_place_15, .int y_token_16, .int y_tokenPlace_17, .int y_value_18]))] ++ va_pl L f) := hD
  refine W.widen (k := 0) (n := 0) (Nat.le_of_ble_eq_true rfl) (Nat.le_of_ble_eq_true rfl) ?_
  have hw_19 := hw
  refine lv_if_ne (tgt := 21) hx hb dX4_readNumberOf_16 (by decide) (fun c_20 => ?_) (fun c_20 => ?_)
  · refine lv_aload_n hx hb dX4_readNumberOf_21 rfl (lv_at hl 0 rfl) ?_
    refine va_get (D := (dC, dI)) (ci := 4) (v := .ref t2) (C := RX4) (T := TX4) (N := 10) hx hb hts hin4 hown hK hP 4 rfl rfl 1 (by decide) (hts (.fieldLink RX4 12 "YamRiders$StatuteReader" "told" "LYamRiders$Statutes;") (by decide +kernel)) (fun _ h9 => h9) rfl dX4_readNumberOf_22 ?_
    refine lv_iload_n hx hb dX4_readNumberOf_25 rfl (lv_at hl 1 rfl) ?_
    refine lv_aload_n hx hb dX4_readNumberOf_26 rfl (lv_at hl 0 rfl) ?_
    refine va_get (D := (dC, dI)) (ci := 4) (v := .int y_value_18) (C := RX4) (T := TX4) (N := 10) hx hb hts hin4 hown hK hP 4 rfl rfl 9 (by decide) (hts (.fieldLink RX4 52 "YamRiders$StatuteReader" "value" "I") (by decide +kernel)) (fun _ h9 => h9) rfl dX4_readNumberOf_27 ?_
    have hPc := hP.part (cx := [(t2, .inr (5, [.ref n1])), (n1, .inl (cs 0, 6, .inl a_n))]) [0, 1] rfl
    have hDc := hD.part (cx := [(t2, .inr (5, [.ref n1])), (n1, .inl (cs 0, 6, .inl a_n))]) [0, 1] (by decide) rfl
    have hKc := hK
    have hFc := va_freeP (cx := [(t2, .inr (5, [.ref n1])), (n1, .inl (cs 0, 6, .inl a_n))]) hD hS hA [0, 1] rfl
    refine va_callv (va_runV (As := [.int p0, .int y_value_18]) (rest := []) ⟨hx, hb, hml, hown, hts⟩ (e_X5_tell l dC dI cs L ka ix ad n0 n6 n2 S f t2 n1 a_n p0 y_value_18 H.size hT) (cwV 2 hts gX4_readNumberOf_X5_tell rfl rfl rfl (by decide +kernel) ⟨Nat.le_of_ble_eq_true rfl, Nat.le_of_ble_eq_true rfl⟩) ⟨c_blind, va_recv hKc hPc (ci := 5) (q0 := 0) rfl rfl, c_pre hPc hKc hDc hN⟩ rfl rfl hl.1 rfl (lv_room (Nat.le_of_ble_eq_true rfl)) dX4_readNumberOf_30 ⟨Nat.le_of_ble_eq_true rfl, Nat.le_of_ble_eq_true rfl⟩) hS (fun q _ h => hFc q h) hFc (fun u9 t9 H1 locs ht hvm hw hB hz1 hk1 hS => ?_)
    obtain ⟨f_n_22, hP1, hK1, hD1⟩ := hB
    rw [ht] at hP1
    have hK1 := va_K.moved hvm.symm hK1
    obtain ⟨hP, hD⟩ := va_joinP (X := [(t2, .inr (5, [.ref n1])), (n1, .inl (cs 0, 6, .inl a_n)), (t1, .inr (7, [.ref u1, .int i_len])), (u1, .inl (cs 0, 200, .inl a_b)), (h0, .inr (4, [.ref t1, .ref t2, .ref t3, .int y_ruleCount_12, .int y_faultKind_13, .int y_faultPlace_14, .int y_place_15, .int y_token_16, .int y_tokenPlace_17, .int y_value_18]))]) (cx := [(t2, .inr (5, [.ref n1])), (n1, .inl (cs 0, 6, .inl a_n))]) (wr := [(t1, .inr (7, [.ref u1, .int i_len])), (u1, .inl (cs 0, 200, .inl a_b)), (h0, .inr (4, [.ref t1, .ref t2, .ref t3, .int y_ruleCount_12, .int y_faultKind_13, .int y_faultPlace_14, .int y_place_15, .int y_token_16, .int y_tokenPlace_17, .int y_value_18]))]) (rx := [(t2, .inr (5, [.ref n1])), (n1, .inl (cs 0, 6, .inl f_n_22))]) (pl := va_pl L f) (pl1 := va_pl L f) hP hD [0, 1] [2, 3, 4] rfl rfl (by decide) (by decide) hk1 hFc hP1 hD1
    generalize H1 = H at hP hS ⊢
    have hP : va_P (dC, dI) vwCl ([(t1, .inr (7, [.ref u1, .int i_len])), (u1, .inl (cs 0, 200, .inl a_b)), (h0, .inr (4, [.ref t1, .ref t2, .ref t3, .int y_ruleCount_12, .int y_faultKind_13, .int y_faultPlace_14, .int y_place_15, .int y_token_16, .int y_tokenPlace_17, .int y_value_18])), (t2, .inr (5, [.ref n1])), (n1, .inl (cs 0, 6, .inl f_n_22))] ++ va_pl L f) H := hP
    have hD : va_D A ([(t1, .inr (7, [.ref u1, .int i_len])), (u1, .inl (cs 0, 200, .inl a_b)), (h0, .inr (4, [.ref t1, .ref t2, .ref t3, .int y_ruleCount_12, .int y_faultKind_13, .int y_faultPlace_14, .int y_place_15, .int y_token_16, .int y_tokenPlace_17, .int y_value_18])), (t2, .inr (5, [.ref n1])), (n1, .inl (cs 0, 6, .inl f_n_22))] ++ va_pl L f) := hD
    refine W.widen (k := 0) (n := 0) (Nat.le_of_ble_eq_true rfl) (Nat.le_of_ble_eq_true rfl) ?_
    refine lv_iconst (v := 1) hx hb dX4_readNumberOf_33 (by decide) ?_
    have hP9 := hP.part (cx := [(h0, .inr (4, [.ref t1, .ref t2, .ref t3, .int y_ruleCount_12, .int y_faultKind_13, .int y_faultPlace_14, .int y_place_15, .int y_token_16, .int y_tokenPlace_17, .int y_value_18])), (t1, .inr (7, [.ref u1, .int i_len])), (u1, .inl (cs 0, 200, .inl a_b)), (t2, .inr (5, [.ref n1])), (n1, .inl (cs 0, 6, .inl f_n_22))]) [2, 0, 1, 3, 4] rfl
    have hD9 := hD.part (cx := [(h0, .inr (4, [.ref t1, .ref t2, .ref t3, .int y_ruleCount_12, .int y_faultKind_13, .int y_faultPlace_14, .int y_place_15, .int y_token_16, .int y_tokenPlace_17, .int y_value_18])), (t1, .inr (7, [.ref u1, .int i_len])), (u1, .inl (cs 0, 200, .inl a_b)), (t2, .inr (5, [.ref n1])), (n1, .inl (cs 0, 6, .inl f_n_22))]) [2, 0, 1, 3, 4] (by decide) rfl
    have hK9 := hK.sub (tys' := []) [] rfl
    refine W.widen (k := 0) (n := 0) (Nat.le_of_ble_eq_true rfl) (Nat.le_of_ble_eq_true rfl) ?_
    exact W.zret (v := 1) hx hb hr rfl (fun t9 ht hW => ⟨⟨_, (), rfl, (Or.inr rfl), y_ruleCount_12, y_faultKind_13, y_faultPlace_14, y_place_15, y_token_16, y_tokenPlace_17, y_value_18, f_n_22, by rw [ht]; exact hP9, va_K.moved hW.alike hK9, hD9⟩, hS.F ht⟩) hS.2.2 dX4_readNumberOf_34
  · refine lv_iconst (v := 0) hx hb dX4_readNumberOf_19 (by decide) ?_
    have hP9 := hP.part (cx := [(h0, .inr (4, [.ref t1, .ref t2, .ref t3, .int y_ruleCount_12, .int y_faultKind_13, .int y_faultPlace_14, .int y_place_15, .int y_token_16, .int y_tokenPlace_17, .int y_value_18])), (t1, .inr (7, [.ref u1, .int i_len])), (u1, .inl (cs 0, 200, .inl a_b)), (t2, .inr (5, [.ref n1])), (n1, .inl (cs 0, 6, .inl a_n))]) [4, 2, 3, 0, 1] rfl
    have hD9 := hD.part (cx := [(h0, .inr (4, [.ref t1, .ref t2, .ref t3, .int y_ruleCount_12, .int y_faultKind_13, .int y_faultPlace_14, .int y_place_15, .int y_token_16, .int y_tokenPlace_17, .int y_value_18])), (t1, .inr (7, [.ref u1, .int i_len])), (u1, .inl (cs 0, 200, .inl a_b)), (t2, .inr (5, [.ref n1])), (n1, .inl (cs 0, 6, .inl a_n))]) [4, 2, 3, 0, 1] (by decide) rfl
    have hK9 := hK.sub (tys' := []) [] rfl
    refine W.widen (k := 0) (n := 0) (Nat.le_of_ble_eq_true rfl) (Nat.le_of_ble_eq_true rfl) ?_
    exact W.zret (v := 0) hx hb hr rfl (fun t9 ht hW => ⟨⟨_, (), rfl, (Or.inl rfl), y_ruleCount_12, y_faultKind_13, y_faultPlace_14, y_place_15, y_token_16, y_tokenPlace_17, y_value_18, a_n, by rw [ht]; exact hP9, va_K.moved hW.alike hK9, hD9⟩, hS.F ht⟩) hS.2.2 dX4_readNumberOf_20

set_option maxHeartbeats 4000000 in
set_option maxRecDepth 100000 in
theorem e_X4_isWord (l : Launch) (dC : Nat → ClassId) (dI : Nat → Nat → Nat) (cs : Nat → ClassId) (L : List Nat) (ka : Nat → Nat) (ix : Nat → Nat) (ad : Nat → Nat → Nat) (n0 : Nat) (n6 : Nat) (n2 : Nat) (S : Nat → Nat → Nat → Int32) (f : Nat → va_E) (adK : Nat → Nat) (adV : Nat → Nat) (h0 : Nat) (t1 : Nat) (t2 : Nat) (t3 : Nat) (i_ruleCount : Int32) (i_faultKind : Int32) (i_faultPlace : Int32) (i_place : Int32) (i_token : Int32) (i_tokenPlace : Int32) (i_value : Int32) (u1 : Nat) (i_len : Int32) (a_b : Nat → Int32) (si : Nat) (sn : Nat) (sz : Nat) (hT : tB L ka ix ad cs n0 n6 n2 S f) (hsi : si < 4) (hsn : lenS.getD si 0 = sn) (hsn6 : sn ≤ 6) : Met l yX4_isWord wsX4_isWord ({ frames := 4, cells := 0, slots := 0, locals := 91 }) (va_Pc [.ref h0, .ref (adK si)] (fun U => cP dC dI ([(h0, .inr (4, [.ref t1, .ref t2, .ref t3, .int i_ruleCount, .int i_faultKind, .int i_faultPlace, .int i_place, .int i_token, .int i_tokenPlace, .int i_value])), (t1, .inr (7, [.ref u1, .int i_len])), (u1, .inl (cs 0, 200, .inl a_b))] ++ va_pl L f) (tyC cs) sz U ∧ EV adK adV (va_A ([(h0, .inr (4, [.ref t1, .ref t2, .ref t3, .int i_ruleCount, .int i_faultKind, .int i_faultPlace, .int i_place, .int i_token, .int i_tokenPlace, .int i_value])), (t1, .inr (7, [.ref u1, .int i_len])), (u1, .inl (cs 0, 200, .inl a_b))] ++ va_pl L f) sz) U U.heap ∧ SR adK U)) (vp_Si (fun r => r = 0 ∨ r = 1)) 0 0 (fun _ => False) := by
  refine Met.ofW (cc := cX4_isWord) (maxL := 3) (ret := (some .boolean)) (by decide) rfl ?_
  intro p e s m args below meth c s₁ B hml hv
  obtain ⟨rfl, ⟨hsz, hP, hK, hD0, hN⟩, hE, hR⟩ := hv
  have hx := B.exec
  have hb := B.bytes
  have hr := B.returns
  have hts := atoms_spec (ws := wsX4_isWord) B.pre
  have hown : s.vm.findClass RX4 = some m.cls := findClass_of_methodNamed B.named
  have hlocks := B.notSynchronized
  subst hsz
  have hin4 : ∀ w ∈ u_ws RX4 TX4 10, w ∈ wsX4_isWord := by decide +kernel
  have hD := hD0
  have hDE : va_D (va_A ([(h0, .inr (4, [.ref t1, .ref t2, .ref t3, .int i_ruleCount, .int i_faultKind, .int i_faultPlace, .int i_place, .int i_token, .int i_tokenPlace, .int i_value])), (t1, .inr (7, [.ref u1, .int i_len])), (u1, .inl (cs 0, 200, .inl a_b))] ++ va_pl L f) s.heap.size) ([(h0, .inr (4, [.ref t1, .ref t2, .ref t3, .int i_ruleCount, .int i_faultKind, .int i_faultPlace, .int i_place, .int i_token, .int i_tokenPlace, .int i_value])), (t1, .inr (7, [.ref u1, .int i_len])), (u1, .inl (cs 0, 200, .inl a_b))] ++ va_pl L f) := hD0.self
  have hSE : va_S (va_A ([(h0, .inr (4, [.ref t1, .ref t2, .ref t3, .int i_ruleCount, .int i_faultKind, .int i_faultPlace, .int i_place, .int i_token, .int i_tokenPlace, .int i_value])), (t1, .inr (7, [.ref u1, .int i_len])), (u1, .inl (cs 0, 200, .inl a_b))] ++ va_pl L f) s.heap.size) s.heap s.heap [] := va_S.rf
  have hAE : ∀ q : Nat, s.heap.size ≤ q → va_A ([(h0, .inr (4, [.ref t1, .ref t2, .ref t3, .int i_ruleCount, .int i_faultKind, .int i_faultPlace, .int i_place, .int i_token, .int i_tokenPlace, .int i_value])), (t1, .inr (7, [.ref u1, .int i_len])), (u1, .inl (cs 0, 200, .inl a_b))] ++ va_pl L f) s.heap.size q := fun q h => Or.inr h
  have hP : va_P (dC, dI) vwCl ([(h0, .inr (4, [.ref t1, .ref t2, .ref t3, .int i_ruleCount, .int i_faultKind, .int i_faultPlace, .int i_place, .int i_token, .int i_tokenPlace, .int i_value])), (t1, .inr (7, [.ref u1, .int i_len])), (u1, .inl (cs 0, 200, .inl a_b))] ++ va_pl L f) s.heap := hP
  have hl := lv_entry ([.ref h0, .ref (adK si)]) (n := 3) (Nat.le_of_ble_eq_true rfl)
  rw [lg_entry_eq]
  generalize (lg_sl ([.ref h0, .ref (adK si)]) ++ List.replicate (3 - (lg_sl ([.ref h0, .ref (adK si)])).length) Slot.unset).toArray = ls at hl ⊢
  have hl : lv_has ls 3 [(0, .ref h0), (1, .ref (adK si))] := hl
  refine lv_aload_n hx hb dX4_isWord_0 rfl (lv_at hl 0 rfl) ?_
  refine va_get (D := (dC, dI)) (ci := 4) (v := .int i_token) (C := RX4) (T := TX4) (N := 10) hx hb hts hin4 hown hK hP 0 rfl rfl 7 (by decide) (hts (.fieldLink RX4 29 "YamRiders$StatuteReader" "token" "I") (by decide +kernel)) (fun _ h9 => h9) rfl dX4_isWord_1 ?_
  refine lv_iconst (v := 1) hx hb dX4_isWord_4 (by decide) ?_
  refine lv_icmp_ne (tgt := 24) hx hb dX4_isWord_5 (by decide) (fun c_1 => ?_) (fun c_1 => ?_)
  · refine lv_iconst (v := 0) hx hb dX4_isWord_24 (by decide) ?_
    exact W.zret (v := 0) hx hb hr rfl (fun t9 ht hW => ⟨_, rfl, (Or.inl rfl), ht⟩) (fun q h => nomatch h) dX4_isWord_25
  · refine lv_aload_n hx hb dX4_isWord_8 rfl (lv_at hl 0 rfl) ?_
    refine va_get (D := (dC, dI)) (ci := 4) (v := .int i_place) (C := RX4) (T := TX4) (N := 10) hx hb hts hin4 hown hK hP 0 rfl rfl 6 (by decide) (hts (.fieldLink RX4 96 "YamRiders$StatuteReader" "place" "I") (by decide +kernel)) (fun _ h9 => h9) rfl dX4_isWord_9 ?_
    refine lv_aload_n hx hb dX4_isWord_12 rfl (lv_at hl 0 rfl) ?_
    refine va_get (D := (dC, dI)) (ci := 4) (v := .int i_tokenPlace) (C := RX4) (T := TX4) (N := 10) hx hb hts hin4 hown hK hP 0 rfl rfl 8 (by decide) (hts (.fieldLink RX4 90 "YamRiders$StatuteReader" "tokenPlace" "I") (by decide +kernel)) (fun _ h9 => h9) rfl dX4_isWord_13 ?_
    refine lv_isub hx hb dX4_isWord_16 ?_
    refine lv_topi (fun v_2 ev_2 => ?_)
    refine lv_aload_n hx hb dX4_isWord_17 rfl (lv_at hl 1 rfl) ?_
    refine cs_i (va_runV (As := []) (rest := [.int v_2]) ⟨hx, hb, hml, hown, hts⟩ (j_length l adK adV si s.heap.size hsi) (cwV 0 hts gX4_isWord_J0_length_8abf5 rfl rfl rfl (by decide +kernel) ⟨Nat.le_of_ble_eq_true rfl, Nat.le_of_ble_eq_true rfl⟩) ⟨j_blind, vk_recv hE.1 hsi hSE, j_pre (hE.narrow (fun q h => Or.inr h))⟩ rfl rfl hl.1 rfl (lv_room (Nat.le_of_ble_eq_true rfl)) dX4_isWord_18 ⟨Nat.le_of_ble_eq_true rfl, Nat.le_of_ble_eq_true rfl⟩) (fun y_3 hy_3 => ?_)
    rw [hsn] at hy_3
    obtain rfl : y_3 = nI sn := hy_3
    refine lv_icmp_eq (tgt := 26) hx hb dX4_isWord_21 (by decide) (fun c_4 => ?_) (fun c_4 => ?_)
    · refine lv_iconst (v := 0) hx hb dX4_isWord_26 (by decide) ?_
      refine lv_istore_n (lv' := [(2, .int 0), (0, .ref h0), (1, .ref (adK si))]) hx hb dX4_isWord_27 rfl hl (by decide) rfl (fun ls hl => ?_)
      have HL : ∀ (n k : Nat), k ≤ sn → sn + 1 ≤ k + n → ∀ ls : Array Slot, lv_has ls 3 [(0, .ref h0), (1, .ref (adK si)), (2, .int (nI k))] → W p l e (headSpec wsX4_isWord ({ frames := 4, cells := 0, slots := 0, locals := 91 })).room s m ([.ref h0, .ref (adK si)]).toArray below meth c s.heap [] 0 0 (MQ below (vp_Si (fun r => r = 0 ∨ r = 1)) ([.ref h0, .ref (adK si)]).toArray s 0 0 (fun _ => False)) (F0 m 28 ls []) := by
        intro n
        induction n with
        | zero => intro k h1 h2; exact absurd h2 (by omega)
        | succ n ih =>
          intro k hk hn ls hl
          refine lv_iload_n hx hb dX4_isWord_28 rfl (lv_at hl 2 rfl) ?_
          refine lv_aload_n hx hb dX4_isWord_29 rfl (lv_at hl 1 rfl) ?_
          refine cs_i (va_runV (As := []) (rest := [.int (nI k)]) ⟨hx, hb, hml, hown, hts⟩ (j_length l adK adV si s.heap.size hsi) (cwV 0 hts gX4_isWord_J0_length_8abf5 rfl rfl rfl (by decide +kernel) ⟨Nat.le_of_ble_eq_true rfl, Nat.le_of_ble_eq_true rfl⟩) ⟨j_blind, vk_recv hE.1 hsi hSE, j_pre (hE.narrow (fun q h => Or.inr h))⟩ rfl rfl hl.1 rfl (lv_room (Nat.le_of_ble_eq_true rfl)) dX4_isWord_30 ⟨Nat.le_of_ble_eq_true rfl, Nat.le_of_ble_eq_true rfl⟩) (fun y_5 hy_5 => ?_)
          rw [hsn] at hy_5
          obtain rfl : y_5 = nI sn := hy_5
          refine lv_icmp_ge (tgt := 65) hx hb dX4_isWord_33 (by decide) (fun c_6 => ?_) (fun c_6 => ?_)
          · have hke : k = sn := by
              have h9 := (nI_leI (by omega) (by omega)).mp c_6
              omega
            refine lv_iconst (v := 1) hx hb dX4_isWord_65 (by decide) ?_
            exact W.zret (v := 1) hx hb hr rfl (fun t9 ht hW => ⟨_, rfl, (Or.inr rfl), ht⟩) (fun q h => nomatch h) dX4_isWord_66
          · have hlt : k < sn := Decidable.byContradiction fun q => c_6 (nI_le (by omega) (by omega))
            refine lv_aload_n hx hb dX4_isWord_36 rfl (lv_at hl 0 rfl) ?_
            refine va_get (D := (dC, dI)) (ci := 4) (v := .ref t1) (C := RX4) (T := TX4) (N := 10) hx hb hts hin4 hown hK hP 0 rfl rfl 0 (by decide) (hts (.fieldLink RX4 22 "YamRiders$StatuteReader" "tape" "LYamRiders$Tape;") (by decide +kernel)) (fun _ h9 => h9) rfl dX4_isWord_37 ?_
            refine lv_aload_n hx hb dX4_isWord_40 rfl (lv_at hl 0 rfl) ?_
            refine va_get (D := (dC, dI)) (ci := 4) (v := .int i_tokenPlace) (C := RX4) (T := TX4) (N := 10) hx hb hts hin4 hown hK hP 0 rfl rfl 8 (by decide) (hts (.fieldLink RX4 90 "YamRiders$StatuteReader" "tokenPlace" "I") (by decide +kernel)) (fun _ h9 => h9) rfl dX4_isWord_41 ?_
            refine lv_iload_n hx hb dX4_isWord_44 rfl (lv_at hl 2 rfl) ?_
            refine lv_iadd hx hb dX4_isWord_45 ?_
            refine lv_topi (fun v_7 ev_7 => ?_)
            have hPc := hP.sub (ws' := [(t1, .inr (7, [.ref u1, .int i_len])), (u1, .inl (cs 0, 200, .inl a_b))]) [1, 2] rfl
            have hDc := hD.sub (ws' := [(t1, .inr (7, [.ref u1, .int i_len])), (u1, .inl (cs 0, 200, .inl a_b))]) [1, 2] (by decide) rfl
            have hKc := hK.sub (tys' := [(cs 0, .int)]) [0] rfl
            refine cs_i (va_runV (As := [.int v_7]) (rest := []) ⟨hx, hb, hml, hown, hts⟩ (g_X7_byteAt l dC dI t1 u1 (cs 0) a_b v_7 i_len s.heap.size) (cwV 1 hts gX4_isWord_X7_byteAt rfl rfl rfl (by decide +kernel) ⟨Nat.le_of_ble_eq_true rfl, Nat.le_of_ble_eq_true rfl⟩) ⟨c_blind, va_recv hKc hPc (ci := 7) (q0 := 0) rfl rfl, c_pre hPc hKc hDc hN⟩ rfl rfl hl.1 rfl (lv_room (Nat.le_of_ble_eq_true rfl)) dX4_isWord_46 ⟨Nat.le_of_ble_eq_true rfl, Nat.le_of_ble_eq_true rfl⟩) (fun r_8 hr_8 => ?_)
            refine lv_aload_n hx hb dX4_isWord_49 rfl (lv_at hl 1 rfl) ?_
            refine lv_iload_n hx hb dX4_isWord_50 rfl (lv_at hl 2 rfl) ?_
            refine cs_i (va_runV (As := [.int (nI k)]) (rest := [.int r_8]) ⟨hx, hb, hml, hown, hts⟩ (j_charAt l adK adV si k s.heap.size hsi (by rw [hsn]; omega)) (cwV 1 hts gX4_isWord_J0_charAt_5068e rfl rfl rfl (by decide +kernel) ⟨Nat.le_of_ble_eq_true rfl, Nat.le_of_ble_eq_true rfl⟩) ⟨j_blind, vk_recv hE.1 hsi hSE, j_pre (hE.narrow (fun q h => Or.inr h))⟩ rfl rfl hl.1 rfl (lv_room (Nat.le_of_ble_eq_true rfl)) dX4_isWord_51 ⟨Nat.le_of_ble_eq_true rfl, Nat.le_of_ble_eq_true rfl⟩) (fun y_9 hy_9 => ?_)
            refine lv_icmp_eq (tgt := 59) hx hb dX4_isWord_54 (by decide) (fun c_10 => ?_) (fun c_10 => ?_)
            · refine lv_iinc (v := nI (k + 1)) (lv' := [(2, .int (nI (k + 1))), (0, .ref h0), (1, .ref (adK si))]) hx hb dX4_isWord_59 hl (k := 2) rfl (by exact (nI_1 k)) (by decide) rfl (fun ls hl => ?_)
              refine lv_goto (tgt := 28) hx hb dX4_isWord_62 (by decide) ?_
              exact ih (k + 1) (by omega) (by omega) ls (lv_sub hl [1, 2, 0] rfl)
            · refine lv_iconst (v := 0) hx hb dX4_isWord_57 (by decide) ?_
              exact W.zret (v := 0) hx hb hr rfl (fun t9 ht hW => ⟨_, rfl, (Or.inl rfl), ht⟩) (fun q h => nomatch h) dX4_isWord_58
      exact HL (sn + 1) 0 (by omega) (by omega) ls (lv_sub hl [1, 2, 0] rfl)
    · refine lv_iconst (v := 0) hx hb dX4_isWord_24 (by decide) ?_
      exact W.zret (v := 0) hx hb hr rfl (fun t9 ht hW => ⟨_, rfl, (Or.inl rfl), ht⟩) (fun q h => nomatch h) dX4_isWord_25

set_option maxHeartbeats 4000000 in
set_option maxRecDepth 100000 in
theorem e_X4_ruleOfWord (l : Launch) (dC : Nat → ClassId) (dI : Nat → Nat → Nat) (cs : Nat → ClassId) (L : List Nat) (ka : Nat → Nat) (ix : Nat → Nat) (ad : Nat → Nat → Nat) (n0 : Nat) (n6 : Nat) (n2 : Nat) (S : Nat → Nat → Nat → Int32) (f : Nat → va_E) (adK : Nat → Nat) (adV : Nat → Nat) (h0 : Nat) (t1 : Nat) (t2 : Nat) (t3 : Nat) (i_ruleCount : Int32) (i_faultKind : Int32) (i_faultPlace : Int32) (i_place : Int32) (i_token : Int32) (i_tokenPlace : Int32) (i_value : Int32) (u1 : Nat) (i_len : Int32) (a_b : Nat → Int32) (sz : Nat) (hT : tB L ka ix ad cs n0 n6 n2 S f) : Met l yX4_ruleOfWord wsX4_ruleOfWord ({ frames := 5, cells := 0, slots := 0, locals := 113 }) (va_Pc [.ref h0] (fun U => cP dC dI ([(h0, .inr (4, [.ref t1, .ref t2, .ref t3, .int i_ruleCount, .int i_faultKind, .int i_faultPlace, .int i_place, .int i_token, .int i_tokenPlace, .int i_value])), (t1, .inr (7, [.ref u1, .int i_len])), (u1, .inl (cs 0, 200, .inl a_b))] ++ va_pl L f) (tyC cs) sz U ∧ EV adK adV (va_A ([(h0, .inr (4, [.ref t1, .ref t2, .ref t3, .int i_ruleCount, .int i_faultKind, .int i_faultPlace, .int i_place, .int i_token, .int i_tokenPlace, .int i_value])), (t1, .inr (7, [.ref u1, .int i_len])), (u1, .inl (cs 0, 200, .inl a_b))] ++ va_pl L f) sz) U U.heap ∧ SR adK U)) (vp_Si (fun _ => True)) 0 0 (fun _ => False) := by
  refine Met.ofW (cc := cX4_ruleOfWord) (maxL := 1) (ret := (some .int)) (by decide) rfl ?_
  intro p e s m args below meth c s₁ B hml hv
  obtain ⟨rfl, ⟨hsz, hP, hK, hD0, hN⟩, hE, hR⟩ := hv
  have hx := B.exec
  have hb := B.bytes
  have hr := B.returns
  have hts := atoms_spec (ws := wsX4_ruleOfWord) B.pre
  have hown : s.vm.findClass RX4 = some m.cls := findClass_of_methodNamed B.named
  have hlocks := B.notSynchronized
  subst hsz
  have hD := hD0
  have hDE : va_D (va_A ([(h0, .inr (4, [.ref t1, .ref t2, .ref t3, .int i_ruleCount, .int i_faultKind, .int i_faultPlace, .int i_place, .int i_token, .int i_tokenPlace, .int i_value])), (t1, .inr (7, [.ref u1, .int i_len])), (u1, .inl (cs 0, 200, .inl a_b))] ++ va_pl L f) s.heap.size) ([(h0, .inr (4, [.ref t1, .ref t2, .ref t3, .int i_ruleCount, .int i_faultKind, .int i_faultPlace, .int i_place, .int i_token, .int i_tokenPlace, .int i_value])), (t1, .inr (7, [.ref u1, .int i_len])), (u1, .inl (cs 0, 200, .inl a_b))] ++ va_pl L f) := hD0.self
  have hSE : va_S (va_A ([(h0, .inr (4, [.ref t1, .ref t2, .ref t3, .int i_ruleCount, .int i_faultKind, .int i_faultPlace, .int i_place, .int i_token, .int i_tokenPlace, .int i_value])), (t1, .inr (7, [.ref u1, .int i_len])), (u1, .inl (cs 0, 200, .inl a_b))] ++ va_pl L f) s.heap.size) s.heap s.heap [] := va_S.rf
  have hAE : ∀ q : Nat, s.heap.size ≤ q → va_A ([(h0, .inr (4, [.ref t1, .ref t2, .ref t3, .int i_ruleCount, .int i_faultKind, .int i_faultPlace, .int i_place, .int i_token, .int i_tokenPlace, .int i_value])), (t1, .inr (7, [.ref u1, .int i_len])), (u1, .inl (cs 0, 200, .inl a_b))] ++ va_pl L f) s.heap.size q := fun q h => Or.inr h
  have hP : va_P (dC, dI) vwCl ([(h0, .inr (4, [.ref t1, .ref t2, .ref t3, .int i_ruleCount, .int i_faultKind, .int i_faultPlace, .int i_place, .int i_token, .int i_tokenPlace, .int i_value])), (t1, .inr (7, [.ref u1, .int i_len])), (u1, .inl (cs 0, 200, .inl a_b))] ++ va_pl L f) s.heap := hP
  have hl := lv_entry ([.ref h0]) (n := 1) (Nat.le_of_ble_eq_true rfl)
  rw [lg_entry_eq]
  generalize (lg_sl ([.ref h0]) ++ List.replicate (1 - (lg_sl ([.ref h0])).length) Slot.unset).toArray = ls at hl ⊢
  have hl : lv_has ls 1 [(0, .ref h0)] := hl
  refine lv_aload_n hx hb dX4_ruleOfWord_0 rfl (lv_at hl 0 rfl) ?_
  refine va_ldcS hx hb hown hR.1 dX4_ruleOfWord_1 ?_
  have hPc := hP.part (cx := [(h0, .inr (4, [.ref t1, .ref t2, .ref t3, .int i_ruleCount, .int i_faultKind, .int i_faultPlace, .int i_place, .int i_token, .int i_tokenPlace, .int i_value])), (t1, .inr (7, [.ref u1, .int i_len])), (u1, .inl (cs 0, 200, .inl a_b))]) [0, 1, 2] rfl
  have hDc := hD.part (cx := [(h0, .inr (4, [.ref t1, .ref t2, .ref t3, .int i_ruleCount, .int i_faultKind, .int i_faultPlace, .int i_place, .int i_token, .int i_tokenPlace, .int i_value])), (t1, .inr (7, [.ref u1, .int i_len])), (u1, .inl (cs 0, 200, .inl a_b))]) [0, 1, 2] (by decide) rfl
  have hKc := hK
  have hFc := va_freeP (cx := [(h0, .inr (4, [.ref t1, .ref t2, .ref t3, .int i_ruleCount, .int i_faultKind, .int i_faultPlace, .int i_place, .int i_token, .int i_tokenPlace, .int i_value])), (t1, .inr (7, [.ref u1, .int i_len])), (u1, .inl (cs 0, 200, .inl a_b))]) hDE hSE hAE [0, 1, 2] rfl
  refine cs_i (va_runV (As := [.ref (adK 0)]) (rest := []) ⟨hx, hb, hml, hown, hts⟩ (e_X4_isWord l dC dI cs L ka ix ad n0 n6 n2 S f adK adV h0 t1 t2 t3 i_ruleCount i_faultKind i_faultPlace i_place i_token i_tokenPlace i_value u1 i_len a_b 0 4 s.heap.size hT (by decide) (by rfl) (by decide)) (cwV 1 hts gX4_ruleOfWord_X4_isWord rfl rfl rfl (by decide +kernel) ⟨Nat.le_of_ble_eq_true rfl, Nat.le_of_ble_eq_true rfl⟩) ⟨e_blind, va_recv hKc hPc (ci := 4) (q0 := 0) rfl rfl, e_pre hPc hKc hDc hN hE hFc hR⟩ rfl rfl hl.1 rfl (lv_room (Nat.le_of_ble_eq_true rfl)) dX4_ruleOfWord_3 ⟨Nat.le_of_ble_eq_true rfl, Nat.le_of_ble_eq_true rfl⟩) (fun r_1 hr_1 => ?_)
  refine lv_if_eq (tgt := 11) hx hb dX4_ruleOfWord_6 (by decide) (fun c_2 => ?_) (fun c_2 => ?_)
  · refine lv_aload_n hx hb dX4_ruleOfWord_11 rfl (lv_at hl 0 rfl) ?_
    refine va_ldcS hx hb hown hR.2.1 dX4_ruleOfWord_12 ?_
    have hPc := hP.part (cx := [(h0, .inr (4, [.ref t1, .ref t2, .ref t3, .int i_ruleCount, .int i_faultKind, .int i_faultPlace, .int i_place, .int i_token, .int i_tokenPlace, .int i_value])), (t1, .inr (7, [.ref u1, .int i_len])), (u1, .inl (cs 0, 200, .inl a_b))]) [0, 1, 2] rfl
    have hDc := hD.part (cx := [(h0, .inr (4, [.ref t1, .ref t2, .ref t3, .int i_ruleCount, .int i_faultKind, .int i_faultPlace, .int i_place, .int i_token, .int i_tokenPlace, .int i_value])), (t1, .inr (7, [.ref u1, .int i_len])), (u1, .inl (cs 0, 200, .inl a_b))]) [0, 1, 2] (by decide) rfl
    have hKc := hK
    have hFc := va_freeP (cx := [(h0, .inr (4, [.ref t1, .ref t2, .ref t3, .int i_ruleCount, .int i_faultKind, .int i_faultPlace, .int i_place, .int i_token, .int i_tokenPlace, .int i_value])), (t1, .inr (7, [.ref u1, .int i_len])), (u1, .inl (cs 0, 200, .inl a_b))]) hDE hSE hAE [0, 1, 2] rfl
    refine cs_i (va_runV (As := [.ref (adK 1)]) (rest := []) ⟨hx, hb, hml, hown, hts⟩ (e_X4_isWord l dC dI cs L ka ix ad n0 n6 n2 S f adK adV h0 t1 t2 t3 i_ruleCount i_faultKind i_faultPlace i_place i_token i_tokenPlace i_value u1 i_len a_b 1 4 s.heap.size hT (by decide) (by rfl) (by decide)) (cwV 1 hts gX4_ruleOfWord_X4_isWord rfl rfl rfl (by decide +kernel) ⟨Nat.le_of_ble_eq_true rfl, Nat.le_of_ble_eq_true rfl⟩) ⟨e_blind, va_recv hKc hPc (ci := 4) (q0 := 0) rfl rfl, e_pre hPc hKc hDc hN hE hFc hR⟩ rfl rfl hl.1 rfl (lv_room (Nat.le_of_ble_eq_true rfl)) dX4_ruleOfWord_14 ⟨Nat.le_of_ble_eq_true rfl, Nat.le_of_ble_eq_true rfl⟩) (fun r_3 hr_3 => ?_)
    refine lv_if_eq (tgt := 22) hx hb dX4_ruleOfWord_17 (by decide) (fun c_4 => ?_) (fun c_4 => ?_)
    · refine lv_aload_n hx hb dX4_ruleOfWord_22 rfl (lv_at hl 0 rfl) ?_
      refine va_ldcS hx hb hown hR.2.2.1 dX4_ruleOfWord_23 ?_
      have hPc := hP.part (cx := [(h0, .inr (4, [.ref t1, .ref t2, .ref t3, .int i_ruleCount, .int i_faultKind, .int i_faultPlace, .int i_place, .int i_token, .int i_tokenPlace, .int i_value])), (t1, .inr (7, [.ref u1, .int i_len])), (u1, .inl (cs 0, 200, .inl a_b))]) [0, 1, 2] rfl
      have hDc := hD.part (cx := [(h0, .inr (4, [.ref t1, .ref t2, .ref t3, .int i_ruleCount, .int i_faultKind, .int i_faultPlace, .int i_place, .int i_token, .int i_tokenPlace, .int i_value])), (t1, .inr (7, [.ref u1, .int i_len])), (u1, .inl (cs 0, 200, .inl a_b))]) [0, 1, 2] (by decide) rfl
      have hKc := hK
      have hFc := va_freeP (cx := [(h0, .inr (4, [.ref t1, .ref t2, .ref t3, .int i_ruleCount, .int i_faultKind, .int i_faultPlace, .int i_place, .int i_token, .int i_tokenPlace, .int i_value])), (t1, .inr (7, [.ref u1, .int i_len])), (u1, .inl (cs 0, 200, .inl a_b))]) hDE hSE hAE [0, 1, 2] rfl
      refine cs_i (va_runV (As := [.ref (adK 2)]) (rest := []) ⟨hx, hb, hml, hown, hts⟩ (e_X4_isWord l dC dI cs L ka ix ad n0 n6 n2 S f adK adV h0 t1 t2 t3 i_ruleCount i_faultKind i_faultPlace i_place i_token i_tokenPlace i_value u1 i_len a_b 2 6 s.heap.size hT (by decide) (by rfl) (by decide)) (cwV 1 hts gX4_ruleOfWord_X4_isWord rfl rfl rfl (by decide +kernel) ⟨Nat.le_of_ble_eq_true rfl, Nat.le_of_ble_eq_true rfl⟩) ⟨e_blind, va_recv hKc hPc (ci := 4) (q0 := 0) rfl rfl, e_pre hPc hKc hDc hN hE hFc hR⟩ rfl rfl hl.1 rfl (lv_room (Nat.le_of_ble_eq_true rfl)) dX4_ruleOfWord_25 ⟨Nat.le_of_ble_eq_true rfl, Nat.le_of_ble_eq_true rfl⟩) (fun r_5 hr_5 => ?_)
      refine lv_if_eq (tgt := 33) hx hb dX4_ruleOfWord_28 (by decide) (fun c_6 => ?_) (fun c_6 => ?_)
      · refine lv_aload_n hx hb dX4_ruleOfWord_33 rfl (lv_at hl 0 rfl) ?_
        refine va_ldcS hx hb hown hR.2.2.2 dX4_ruleOfWord_34 ?_
        have hPc := hP.part (cx := [(h0, .inr (4, [.ref t1, .ref t2, .ref t3, .int i_ruleCount, .int i_faultKind, .int i_faultPlace, .int i_place, .int i_token, .int i_tokenPlace, .int i_value])), (t1, .inr (7, [.ref u1, .int i_len])), (u1, .inl (cs 0, 200, .inl a_b))]) [0, 1, 2] rfl
        have hDc := hD.part (cx := [(h0, .inr (4, [.ref t1, .ref t2, .ref t3, .int i_ruleCount, .int i_faultKind, .int i_faultPlace, .int i_place, .int i_token, .int i_tokenPlace, .int i_value])), (t1, .inr (7, [.ref u1, .int i_len])), (u1, .inl (cs 0, 200, .inl a_b))]) [0, 1, 2] (by decide) rfl
        have hKc := hK
        have hFc := va_freeP (cx := [(h0, .inr (4, [.ref t1, .ref t2, .ref t3, .int i_ruleCount, .int i_faultKind, .int i_faultPlace, .int i_place, .int i_token, .int i_tokenPlace, .int i_value])), (t1, .inr (7, [.ref u1, .int i_len])), (u1, .inl (cs 0, 200, .inl a_b))]) hDE hSE hAE [0, 1, 2] rfl
        refine cs_i (va_runV (As := [.ref (adK 3)]) (rest := []) ⟨hx, hb, hml, hown, hts⟩ (e_X4_isWord l dC dI cs L ka ix ad n0 n6 n2 S f adK adV h0 t1 t2 t3 i_ruleCount i_faultKind i_faultPlace i_place i_token i_tokenPlace i_value u1 i_len a_b 3 4 s.heap.size hT (by decide) (by rfl) (by decide)) (cwV 1 hts gX4_ruleOfWord_X4_isWord rfl rfl rfl (by decide +kernel) ⟨Nat.le_of_ble_eq_true rfl, Nat.le_of_ble_eq_true rfl⟩) ⟨e_blind, va_recv hKc hPc (ci := 4) (q0 := 0) rfl rfl, e_pre hPc hKc hDc hN hE hFc hR⟩ rfl rfl hl.1 rfl (lv_room (Nat.le_of_ble_eq_true rfl)) dX4_ruleOfWord_36 ⟨Nat.le_of_ble_eq_true rfl, Nat.le_of_ble_eq_true rfl⟩) (fun r_7 hr_7 => ?_)
        refine lv_if_eq (tgt := 46) hx hb dX4_ruleOfWord_39 (by decide) (fun c_8 => ?_) (fun c_8 => ?_)
        · refine lv_iconst (v := (-1)) hx hb dX4_ruleOfWord_46 (by decide) ?_
          exact W.iret (v := (-1)) hx hb hr (fun t9 ht hW => ⟨_, rfl, trivial, ht⟩) (fun q h => nomatch h) dX4_ruleOfWord_47
        · refine lv_iconst (v := 3) hx hb dX4_ruleOfWord_42 (by decide) ?_
          refine lv_goto (tgt := 47) hx hb dX4_ruleOfWord_43 (by decide) ?_
          exact W.iret (v := 3) hx hb hr (fun t9 ht hW => ⟨_, rfl, trivial, ht⟩) (fun q h => nomatch h) dX4_ruleOfWord_47
      · refine lv_iconst (v := 2) hx hb dX4_ruleOfWord_31 (by decide) ?_
        exact W.iret (v := 2) hx hb hr (fun t9 ht hW => ⟨_, rfl, trivial, ht⟩) (fun q h => nomatch h) dX4_ruleOfWord_32
    · refine lv_iconst (v := 1) hx hb dX4_ruleOfWord_20 (by decide) ?_
      exact W.iret (v := 1) hx hb hr (fun t9 ht hW => ⟨_, rfl, trivial, ht⟩) (fun q h => nomatch h) dX4_ruleOfWord_21
  · refine lv_iconst (v := 0) hx hb dX4_ruleOfWord_9 (by decide) ?_
    exact W.iret (v := 0) hx hb hr (fun t9 ht hW => ⟨_, rfl, trivial, ht⟩) (fun q h => nomatch h) dX4_ruleOfWord_10

set_option maxHeartbeats 4000000 in
set_option maxRecDepth 100000 in
theorem e_X4_readRule (l : Launch) (dC : Nat → ClassId) (dI : Nat → Nat → Nat) (cs : Nat → ClassId) (L : List Nat) (ka : Nat → Nat) (ix : Nat → Nat) (ad : Nat → Nat → Nat) (n0 : Nat) (n6 : Nat) (n2 : Nat) (S : Nat → Nat → Nat → Int32) (f : Nat → va_E) (adK : Nat → Nat) (adV : Nat → Nat) (h0 : Nat) (t1 : Nat) (t2 : Nat) (t3 : Nat) (i_ruleCount : Int32) (i_faultKind : Int32) (i_faultPlace : Int32) (i_place : Int32) (i_token : Int32) (i_tokenPlace : Int32) (i_value : Int32) (u1 : Nat) (i_len : Int32) (a_b : Nat → Int32) (n1 : Nat) (a_n : Nat → Int32) (a_t : Nat → Int32) (sz : Nat) (hT : tB L ka ix ad cs n0 n6 n2 S f) : Met l yX4_readRule wsX4_readRule ({ frames := 6, cells := 0, slots := 0, locals := 133 }) (va_Pc [.ref h0] (fun U => cP dC dI ([(h0, .inr (4, [.ref t1, .ref t2, .ref t3, .int i_ruleCount, .int i_faultKind, .int i_faultPlace, .int i_place, .int i_token, .int i_tokenPlace, .int i_value])), (t1, .inr (7, [.ref u1, .int i_len])), (u1, .inl (cs 0, 200, .inl a_b)), (t2, .inr (5, [.ref n1])), (n1, .inl (cs 0, 6, .inl a_n)), (t3, .inl (cs 1, 6, .inl a_t))] ++ va_pl L f) (tyC cs) sz U ∧ EV adK adV (va_A ([(h0, .inr (4, [.ref t1, .ref t2, .ref t3, .int i_ruleCount, .int i_faultKind, .int i_faultPlace, .int i_place, .int i_token, .int i_tokenPlace, .int i_value])), (t1, .inr (7, [.ref u1, .int i_len])), (u1, .inl (cs 0, 200, .inl a_b)), (t2, .inr (5, [.ref n1])), (n1, .inl (cs 0, 6, .inl a_n)), (t3, .inl (cs 1, 6, .inl a_t))] ++ va_pl L f) sz) U U.heap ∧ SR adK U)) (va_Qi (fun (r : Int32) (_ : Unit) => r = 0 ∨ r = 1) (fun (_ : Unit) t9 => ∃ (y_ruleCount : Int32) (y_faultKind : Int32) (y_faultPlace : Int32) (y_place : Int32) (y_token : Int32) (y_tokenPlace : Int32) (y_value : Int32) (f_n : Nat → Int32) (f_t : Nat → Int32), cQ dC dI ([(h0, .inr (4, [.ref t1, .ref t2, .ref t3, .int y_ruleCount, .int y_faultKind, .int y_faultPlace, .int y_place, .int y_token, .int y_tokenPlace, .int y_value])), (t1, .inr (7, [.ref u1, .int i_len])), (u1, .inl (cs 0, 200, .inl a_b)), (t2, .inr (5, [.ref n1])), (n1, .inl (cs 0, 6, .inl f_n)), (t3, .inl (cs 1, 6, .inl f_t))] ++ va_pl L f) [] (va_A ([(h0, .inr (4, [.ref t1, .ref t2, .ref t3, .int i_ruleCount, .int i_faultKind, .int i_faultPlace, .int i_place, .int i_token, .int i_tokenPlace, .int i_value])), (t1, .inr (7, [.ref u1, .int i_len])), (u1, .inl (cs 0, 200, .inl a_b)), (t2, .inr (5, [.ref n1])), (n1, .inl (cs 0, 6, .inl a_n)), (t3, .inl (cs 1, 6, .inl a_t))] ++ va_pl L f) sz) t9) (va_A ([(h0, .inr (4, [.ref t1, .ref t2, .ref t3, .int i_ruleCount, .int i_faultKind, .int i_faultPlace, .int i_place, .int i_token, .int i_tokenPlace, .int i_value])), (t1, .inr (7, [.ref u1, .int i_len])), (u1, .inl (cs 0, 200, .inl a_b)), (t2, .inr (5, [.ref n1])), (n1, .inl (cs 0, 6, .inl a_n)), (t3, .inl (cs 1, 6, .inl a_t))] ++ va_pl L f) sz)) 0 0 (va_A ([(h0, .inr (4, [.ref t1, .ref t2, .ref t3, .int i_ruleCount, .int i_faultKind, .int i_faultPlace, .int i_place, .int i_token, .int i_tokenPlace, .int i_value])), (t1, .inr (7, [.ref u1, .int i_len])), (u1, .inl (cs 0, 200, .inl a_b)), (t2, .inr (5, [.ref n1])), (n1, .inl (cs 0, 6, .inl a_n)), (t3, .inl (cs 1, 6, .inl a_t))] ++ va_pl L f) sz) := by
  refine Met.ofW (cc := cX4_readRule) (maxL := 2) (ret := (some .boolean)) (by decide) rfl ?_
  intro p e s m args below meth c s₁ B hml hv
  obtain ⟨rfl, ⟨hsz, hP, hK, hD0, hN⟩, hE, hR⟩ := hv
  have hx := B.exec
  have hb := B.bytes
  have hr := B.returns
  have hts := atoms_spec (ws := wsX4_readRule) B.pre
  have hown : s.vm.findClass RX4 = some m.cls := findClass_of_methodNamed B.named
  have hlocks := B.notSynchronized
  subst hsz
  have hin4 : ∀ w ∈ u_ws RX4 TX4 10, w ∈ wsX4_readRule := by decide +kernel
  have hD := hD0.self (sz := s.heap.size)
  generalize hAe : va_A ([(h0, .inr (4, [.ref t1, .ref t2, .ref t3, .int i_ruleCount, .int i_faultKind, .int i_faultPlace, .int i_place, .int i_token, .int i_tokenPlace, .int i_value])), (t1, .inr (7, [.ref u1, .int i_len])), (u1, .inl (cs 0, 200, .inl a_b)), (t2, .inr (5, [.ref n1])), (n1, .inl (cs 0, 6, .inl a_n)), (t3, .inl (cs 1, 6, .inl a_t))] ++ va_pl L f) s.heap.size = A at hD hE ⊢
  have hA : ∀ q : Nat, s.heap.size ≤ q → A q := fun q h => by rw [← hAe]; exact Or.inr h
  have hS : va_S A s.heap s.heap [] := va_S.rf
  have hP : va_P (dC, dI) vwCl ([(h0, .inr (4, [.ref t1, .ref t2, .ref t3, .int i_ruleCount, .int i_faultKind, .int i_faultPlace, .int i_place, .int i_token, .int i_tokenPlace, .int i_value])), (t1, .inr (7, [.ref u1, .int i_len])), (u1, .inl (cs 0, 200, .inl a_b)), (t2, .inr (5, [.ref n1])), (n1, .inl (cs 0, 6, .inl a_n)), (t3, .inl (cs 1, 6, .inl a_t))] ++ va_pl L f) s.heap := hP
  have hl := lv_entry ([.ref h0]) (n := 2) (Nat.le_of_ble_eq_true rfl)
  rw [lg_entry_eq]
  generalize (lg_sl ([.ref h0]) ++ List.replicate (2 - (lg_sl ([.ref h0])).length) Slot.unset).toArray = ls at hl ⊢
  have hl : lv_has ls 2 [(0, .ref h0)] := hl
  refine lv_aload_n hx hb dX4_readRule_0 rfl (lv_at hl 0 rfl) ?_
  have hPc := hP.part (cx := [(h0, .inr (4, [.ref t1, .ref t2, .ref t3, .int i_ruleCount, .int i_faultKind, .int i_faultPlace, .int i_place, .int i_token, .int i_tokenPlace, .int i_value])), (t1, .inr (7, [.ref u1, .int i_len])), (u1, .inl (cs 0, 200, .inl a_b))]) [0, 1, 2] rfl
  have hDc := hD.part (cx := [(h0, .inr (4, [.ref t1, .ref t2, .ref t3, .int i_ruleCount, .int i_faultKind, .int i_faultPlace, .int i_place, .int i_token, .int i_tokenPlace, .int i_value])), (t1, .inr (7, [.ref u1, .int i_len])), (u1, .inl (cs 0, 200, .inl a_b))]) [0, 1, 2] (by decide) rfl
  have hKc := hK
  have hFc := va_freeP (cx := [(h0, .inr (4, [.ref t1, .ref t2, .ref t3, .int i_ruleCount, .int i_faultKind, .int i_faultPlace, .int i_place, .int i_token, .int i_tokenPlace, .int i_value])), (t1, .inr (7, [.ref u1, .int i_len])), (u1, .inl (cs 0, 200, .inl a_b))]) hD hS hA [0, 1, 2] rfl
  refine cs_i (va_runV (As := []) (rest := []) ⟨hx, hb, hml, hown, hts⟩ (e_X4_ruleOfWord l dC dI cs L ka ix ad n0 n6 n2 S f adK adV h0 t1 t2 t3 i_ruleCount i_faultKind i_faultPlace i_place i_token i_tokenPlace i_value u1 i_len a_b s.heap.size hT) (cwV 0 hts gX4_readRule_X4_ruleOfWord rfl rfl rfl (by decide +kernel) ⟨Nat.le_of_ble_eq_true rfl, Nat.le_of_ble_eq_true rfl⟩) ⟨e_blind, va_recv hKc hPc (ci := 4) (q0 := 0) rfl rfl, e_pre hPc hKc hDc hN (hE.kept hS.2.1) hFc hR⟩ rfl rfl hl.1 rfl (lv_room (Nat.le_of_ble_eq_true rfl)) dX4_readRule_1 ⟨Nat.le_of_ble_eq_true rfl, Nat.le_of_ble_eq_true rfl⟩) (fun r_1 hr_1 => ?_)
  refine lv_istore_n (lv' := [(1, .int r_1), (0, .ref h0)]) hx hb dX4_readRule_4 rfl hl (by decide) rfl (fun ls hl => ?_)
  refine lv_iload_n hx hb dX4_readRule_5 rfl (lv_at hl 0 rfl) ?_
  refine lv_iconst (v := (-1)) hx hb dX4_readRule_6 (by decide) ?_
  refine lv_icmp_ne (tgt := 16) hx hb dX4_readRule_7 (by decide) (fun c_2 => ?_) (fun c_2 => ?_)
  · refine lv_iload_n hx hb dX4_readRule_16 rfl (lv_at hl 0 rfl) ?_
    refine lv_iconst (v := 3) hx hb dX4_readRule_17 (by decide) ?_
    refine lv_icmp_ne (tgt := 45) hx hb dX4_readRule_18 (by decide) (fun c_3 => ?_) (fun c_3 => ?_)
    · refine lv_aload_n hx hb dX4_readRule_45 rfl (lv_at hl 1 rfl) ?_
      refine lv_iload_n hx hb dX4_readRule_46 rfl (lv_at hl 0 rfl) ?_
      have hPc := hP.part (cx := [(h0, .inr (4, [.ref t1, .ref t2, .ref t3, .int i_ruleCount, .int i_faultKind, .int i_faultPlace, .int i_place, .int i_token, .int i_tokenPlace, .int i_value])), (t3, .inl (cs 1, 6, .inl a_t))]) [0, 5] rfl
      have hDc := hD.part (cx := [(h0, .inr (4, [.ref t1, .ref t2, .ref t3, .int i_ruleCount, .int i_faultKind, .int i_faultPlace, .int i_place, .int i_token, .int i_tokenPlace, .int i_value])), (t3, .inl (cs 1, 6, .inl a_t))]) [0, 5] (by decide) rfl
      have hKc := hK
      have hFc := va_freeP (cx := [(h0, .inr (4, [.ref t1, .ref t2, .ref t3, .int i_ruleCount, .int i_faultKind, .int i_faultPlace, .int i_place, .int i_token, .int i_tokenPlace, .int i_value])), (t3, .inl (cs 1, 6, .inl a_t))]) hD hS hA [0, 5] rfl
      refine va_calli (va_runV (As := [.int r_1]) (rest := []) ⟨hx, hb, hml, hown, hts⟩ (e_X4_isFirstOf l dC dI cs L ka ix ad n0 n6 n2 S f h0 t1 t2 t3 i_ruleCount i_faultKind i_faultPlace i_place i_token i_tokenPlace i_value a_t r_1 s.heap.size hT) (cwV 1 hts gX4_readRule_X4_isFirstOf rfl rfl rfl (by decide +kernel) ⟨Nat.le_of_ble_eq_true rfl, Nat.le_of_ble_eq_true rfl⟩) ⟨c_blind, va_recv hKc hPc (ci := 4) (q0 := 0) rfl rfl, c_pre hPc hKc hDc hN⟩ rfl rfl hl.1 rfl (lv_room (Nat.le_of_ble_eq_true rfl)) dX4_readRule_47 ⟨Nat.le_of_ble_eq_true rfl, Nat.le_of_ble_eq_true rfl⟩) hS (fun q _ h => hFc q h) hFc (fun r_4 u9 t9 H1 locs ht hvm hw hB hz1 hk1 hS => ?_)
      obtain ⟨y_ruleCount_5, y_faultKind_6, y_faultPlace_7, y_place_8, y_token_9, y_tokenPlace_10, y_value_11, f_t_12, hP1, hK1, hD1⟩ := hB
      rw [ht] at hP1
      have hK1 := va_K.moved hvm.symm hK1
      obtain ⟨hP, hD⟩ := va_joinP (X := [(h0, .inr (4, [.ref t1, .ref t2, .ref t3, .int i_ruleCount, .int i_faultKind, .int i_faultPlace, .int i_place, .int i_token, .int i_tokenPlace, .int i_value])), (t1, .inr (7, [.ref u1, .int i_len])), (u1, .inl (cs 0, 200, .inl a_b)), (t2, .inr (5, [.ref n1])), (n1, .inl (cs 0, 6, .inl a_n)), (t3, .inl (cs 1, 6, .inl a_t))]) (cx := [(h0, .inr (4, [.ref t1, .ref t2, .ref t3, .int i_ruleCount, .int i_faultKind, .int i_faultPlace, .int i_place, .int i_token, .int i_tokenPlace, .int i_value])), (t3, .inl (cs 1, 6, .inl a_t))]) (wr := [(t1, .inr (7, [.ref u1, .int i_len])), (u1, .inl (cs 0, 200, .inl a_b)), (t2, .inr (5, [.ref n1])), (n1, .inl (cs 0, 6, .inl a_n))]) (rx := [(h0, .inr (4, [.ref t1, .ref t2, .ref t3, .int y_ruleCount_5, .int y_faultKind_6, .int y_faultPlace_7, .int y_place_8, .int y_token_9, .int y_tokenPlace_10, .int y_value_11])), (t3, .inl (cs 1, 6, .inl f_t_12))]) (pl := va_pl L f) (pl1 := va_pl L f) hP hD [0, 5] [1, 2, 3, 4] rfl rfl (by decide) (by decide) hk1 hFc hP1 hD1
      generalize H1 = H at hP hS ⊢
      have hP : va_P (dC, dI) vwCl ([(t1, .inr (7, [.ref u1, .int i_len])), (u1, .inl (cs 0, 200, .inl a_b)), (t2, .inr (5, [.ref n1])), (n1, .inl (cs 0, 6, .inl a_n)), (h0, .inr (4, [.ref t1, .ref t2, .ref t3, .int y_ruleCount_5, .int y_faultKind_6, .int y_faultPlace_7, .int y_place_8, .int y_token_9, .int y_tokenPlace_10, .int y_value_11])), (t3, .inl (cs 1, 6, .inl f_t_12))] ++ va_pl L f) H := hP
      have hD : va_D A ([(t1, .inr (7, [.ref u1, .int i_len])), (u1, .inl (cs 0, 200, .inl a_b)), (t2, .inr (5, [.ref n1])), (n1, .inl (cs 0, 6, .inl a_n)), (h0, .inr (4, [.ref t1, .ref t2, .ref t3, .int y_ruleCount_5, .int y_faultKind_6, .int y_faultPlace_7, .int y_place_8, .int y_token_9, .int y_tokenPlace_10, .int y_value_11])), (t3, .inl (cs 1, 6, .inl f_t_12))] ++ va_pl L f) := hD
      refine W.widen (k := 0) (n := 0) (Nat.le_of_ble_eq_true rfl) (Nat.le_of_ble_eq_true rfl) ?_
      have hw_13 := hw
      refine lv_if_eq (tgt := 72) hx hb dX4_readRule_50 (by decide) (fun c_14 => ?_) (fun c_14 => ?_)
      · refine lv_iconst (v := 0) hx hb dX4_readRule_72 (by decide) ?_
        have hP9 := hP.part (cx := [(h0, .inr (4, [.ref t1, .ref t2, .ref t3, .int y_ruleCount_5, .int y_faultKind_6, .int y_faultPlace_7, .int y_place_8, .int y_token_9, .int y_tokenPlace_10, .int y_value_11])), (t1, .inr (7, [.ref u1, .int i_len])), (u1, .inl (cs 0, 200, .inl a_b)), (t2, .inr (5, [.ref n1])), (n1, .inl (cs 0, 6, .inl a_n)), (t3, .inl (cs 1, 6, .inl f_t_12))]) [4, 0, 1, 2, 3, 5] rfl
        have hD9 := hD.part (cx := [(h0, .inr (4, [.ref t1, .ref t2, .ref t3, .int y_ruleCount_5, .int y_faultKind_6, .int y_faultPlace_7, .int y_place_8, .int y_token_9, .int y_tokenPlace_10, .int y_value_11])), (t1, .inr (7, [.ref u1, .int i_len])), (u1, .inl (cs 0, 200, .inl a_b)), (t2, .inr (5, [.ref n1])), (n1, .inl (cs 0, 6, .inl a_n)), (t3, .inl (cs 1, 6, .inl f_t_12))]) [4, 0, 1, 2, 3, 5] (by decide) rfl
        have hK9 := hK.sub (tys' := []) [] rfl
        refine W.widen (k := 0) (n := 0) (Nat.le_of_ble_eq_true rfl) (Nat.le_of_ble_eq_true rfl) ?_
        exact W.zret (v := 0) hx hb hr rfl (fun t9 ht hW => ⟨⟨_, (), rfl, (Or.inl rfl), y_ruleCount_5, y_faultKind_6, y_faultPlace_7, y_place_8, y_token_9, y_tokenPlace_10, y_value_11, a_n, f_t_12, by rw [ht]; exact hP9, va_K.moved hW.alike hK9, hD9⟩, hS.F ht⟩) hS.2.2 dX4_readRule_73
      · refine lv_aload_n hx hb dX4_readRule_53 rfl (lv_at hl 1 rfl) ?_
        refine lv_iload_n hx hb dX4_readRule_54 rfl (lv_at hl 0 rfl) ?_
        have hPc := hP.part (cx := [(h0, .inr (4, [.ref t1, .ref t2, .ref t3, .int y_ruleCount_5, .int y_faultKind_6, .int y_faultPlace_7, .int y_place_8, .int y_token_9, .int y_tokenPlace_10, .int y_value_11])), (t1, .inr (7, [.ref u1, .int i_len])), (u1, .inl (cs 0, 200, .inl a_b)), (t2, .inr (5, [.ref n1])), (n1, .inl (cs 0, 6, .inl a_n))]) [4, 0, 1, 2, 3] rfl
        have hDc := hD.part (cx := [(h0, .inr (4, [.ref t1, .ref t2, .ref t3, .int y_ruleCount_5, .int y_faultKind_6, .int y_faultPlace_7, .int y_place_8, .int y_token_9, .int y_tokenPlace_10, .int y_value_11])), (t1, .inr (7, [.ref u1, .int i_len])), (u1, .inl (cs 0, 200, .inl a_b)), (t2, .inr (5, [.ref n1])), (n1, .inl (cs 0, 6, .inl a_n))]) [4, 0, 1, 2, 3] (by decide) rfl
        have hKc := hK
        have hFc := va_freeP (cx := [(h0, .inr (4, [.ref t1, .ref t2, .ref t3, .int y_ruleCount_5, .int y_faultKind_6, .int y_faultPlace_7, .int y_place_8, .int y_token_9, .int y_tokenPlace_10, .int y_value_11])), (t1, .inr (7, [.ref u1, .int i_len])), (u1, .inl (cs 0, 200, .inl a_b)), (t2, .inr (5, [.ref n1])), (n1, .inl (cs 0, 6, .inl a_n))]) hD hS hA [4, 0, 1, 2, 3] rfl
        refine va_calli (va_runV (As := [.int r_1]) (rest := []) ⟨hx, hb, hml, hown, hts⟩ (e_X4_readNumberOf l dC dI cs L ka ix ad n0 n6 n2 S f h0 t1 t2 t3 y_ruleCount_5 y_faultKind_6 y_faultPlace_7 y_place_8 y_token_9 y_tokenPlace_10 y_value_11 u1 i_len a_b n1 a_n r_1 H.size hT) (cwV 1 hts gX4_readRule_X4_readNumberOf rfl rfl rfl (by decide +kernel) ⟨Nat.le_of_ble_eq_true rfl, Nat.le_of_ble_eq_true rfl⟩) ⟨c_blind, va_recv hKc hPc (ci := 4) (q0 := 0) rfl rfl, c_pre hPc hKc hDc hN⟩ rfl rfl hl.1 rfl (lv_room (Nat.le_of_ble_eq_true rfl)) dX4_readRule_55 ⟨Nat.le_of_ble_eq_true rfl, Nat.le_of_ble_eq_true rfl⟩) hS (fun q _ h => hFc q h) hFc (fun r_15 u9 t9 H1 locs ht hvm hw hB hz1 hk1 hS => ?_)
        obtain ⟨y_ruleCount_16, y_faultKind_17, y_faultPlace_18, y_place_19, y_token_20, y_tokenPlace_21, y_value_22, f_n_23, hP1, hK1, hD1⟩ := hB
        rw [ht] at hP1
        have hK1 := va_K.moved hvm.symm hK1
        obtain ⟨hP, hD⟩ := va_joinP (X := [(t1, .inr (7, [.ref u1, .int i_len])), (u1, .inl (cs 0, 200, .inl a_b)), (t2, .inr (5, [.ref n1])), (n1, .inl (cs 0, 6, .inl a_n)), (h0, .inr (4, [.ref t1, .ref t2, .ref t3, .int y_ruleCount_5, .int y_faultKind_6, .int y_faultPlace_7, .int y_place_8, .int y_token_9, .int y_tokenPlace_10, .int y_value_11])), (t3, .inl (cs 1, 6, .inl f_t_12))]) (cx := [(h0, .inr (4, [.ref t1, .ref t2, .ref t3, .int y_ruleCount_5, .int y_faultKind_6, .int y_faultPlace_7, .int y_place_8, .int y_token_9, .int y_tokenPlace_10, .int y_value_11])), (t1, .inr (7, [.ref u1, .int i_len])), (u1, .inl (cs 0, 200, .inl a_b)), (t2, .inr (5, [.ref n1])), (n1, .inl (cs 0, 6, .inl a_n))]) (wr := [(t3, .inl (cs 1, 6, .inl f_t_12))]) (rx := [(h0, .inr (4, [.ref t1, .ref t2, .ref t3, .int y_ruleCount_16, .int y_faultKind_17, .int y_faultPlace_18, .int y_place_19, .int y_token_20, .int y_tokenPlace_21, .int y_value_22])), (t1, .inr (7, [.ref u1, .int i_len])), (u1, .inl (cs 0, 200, .inl a_b)), (t2, .inr (5, [.ref n1])), (n1, .inl (cs 0, 6, .inl f_n_23))]) (pl := va_pl L f) (pl1 := va_pl L f) hP hD [4, 0, 1, 2, 3] [5] rfl rfl (by decide) (by decide) hk1 hFc hP1 hD1
        generalize H1 = H at hP hS ⊢
        have hP : va_P (dC, dI) vwCl ([(t3, .inl (cs 1, 6, .inl f_t_12)), (h0, .inr (4, [.ref t1, .ref t2, .ref t3, .int y_ruleCount_16, .int y_faultKind_17, .int y_faultPlace_18, .int y_place_19, .int y_token_20, .int y_tokenPlace_21, .int y_value_22])), (t1, .inr (7, [.ref u1, .int i_len])), (u1, .inl (cs 0, 200, .inl a_b)), (t2, .inr (5, [.ref n1])), (n1, .inl (cs 0, 6, .inl f_n_23))] ++ va_pl L f) H := hP
        have hD : va_D A ([(t3, .inl (cs 1, 6, .inl f_t_12)), (h0, .inr (4, [.ref t1, .ref t2, .ref t3, .int y_ruleCount_16, .int y_faultKind_17, .int y_faultPlace_18, .int y_place_19, .int y_token_20, .int y_tokenPlace_21, .int y_value_22])), (t1, .inr (7, [.ref u1, .int i_len])), (u1, .inl (cs 0, 200, .inl a_b)), (t2, .inr (5, [.ref n1])), (n1, .inl (cs 0, 6, .inl f_n_23))] ++ va_pl L f) := hD
        refine W.widen (k := 0) (n := 0) (Nat.le_of_ble_eq_true rfl) (Nat.le_of_ble_eq_true rfl) ?_
        have hw_24 := hw
        refine lv_if_eq (tgt := 72) hx hb dX4_readRule_58 (by decide) (fun c_25 => ?_) (fun c_25 => ?_)
        · refine lv_iconst (v := 0) hx hb dX4_readRule_72 (by decide) ?_
          have hP9 := hP.part (cx := [(h0, .inr (4, [.ref t1, .ref t2, .ref t3, .int y_ruleCount_16, .int y_faultKind_17, .int y_faultPlace_18, .int y_place_19, .int y_token_20, .int y_tokenPlace_21, .int y_value_22])), (t1, .inr (7, [.ref u1, .int i_len])), (u1, .inl (cs 0, 200, .inl a_b)), (t2, .inr (5, [.ref n1])), (n1, .inl (cs 0, 6, .inl f_n_23)), (t3, .inl (cs 1, 6, .inl f_t_12))]) [1, 2, 3, 4, 5, 0] rfl
          have hD9 := hD.part (cx := [(h0, .inr (4, [.ref t1, .ref t2, .ref t3, .int y_ruleCount_16, .int y_faultKind_17, .int y_faultPlace_18, .int y_place_19, .int y_token_20, .int y_tokenPlace_21, .int y_value_22])), (t1, .inr (7, [.ref u1, .int i_len])), (u1, .inl (cs 0, 200, .inl a_b)), (t2, .inr (5, [.ref n1])), (n1, .inl (cs 0, 6, .inl f_n_23)), (t3, .inl (cs 1, 6, .inl f_t_12))]) [1, 2, 3, 4, 5, 0] (by decide) rfl
          have hK9 := hK.sub (tys' := []) [] rfl
          refine W.widen (k := 0) (n := 0) (Nat.le_of_ble_eq_true rfl) (Nat.le_of_ble_eq_true rfl) ?_
          exact W.zret (v := 0) hx hb hr rfl (fun t9 ht hW => ⟨⟨_, (), rfl, (Or.inl rfl), y_ruleCount_16, y_faultKind_17, y_faultPlace_18, y_place_19, y_token_20, y_tokenPlace_21, y_value_22, f_n_23, f_t_12, by rw [ht]; exact hP9, va_K.moved hW.alike hK9, hD9⟩, hS.F ht⟩) hS.2.2 dX4_readRule_73
        · refine lv_aload_n hx hb dX4_readRule_61 rfl (lv_at hl 1 rfl) ?_
          have hPc := hP.part (cx := [(h0, .inr (4, [.ref t1, .ref t2, .ref t3, .int y_ruleCount_16, .int y_faultKind_17, .int y_faultPlace_18, .int y_place_19, .int y_token_20, .int y_tokenPlace_21, .int y_value_22])), (t1, .inr (7, [.ref u1, .int i_len])), (u1, .inl (cs 0, 200, .inl a_b))]) [1, 2, 3] rfl
          have hDc := hD.part (cx := [(h0, .inr (4, [.ref t1, .ref t2, .ref t3, .int y_ruleCount_16, .int y_faultKind_17, .int y_faultPlace_18, .int y_place_19, .int y_token_20, .int y_tokenPlace_21, .int y_value_22])), (t1, .inr (7, [.ref u1, .int i_len])), (u1, .inl (cs 0, 200, .inl a_b))]) [1, 2, 3] (by decide) rfl
          have hKc := hK
          have hFc := va_freeP (cx := [(h0, .inr (4, [.ref t1, .ref t2, .ref t3, .int y_ruleCount_16, .int y_faultKind_17, .int y_faultPlace_18, .int y_place_19, .int y_token_20, .int y_tokenPlace_21, .int y_value_22])), (t1, .inr (7, [.ref u1, .int i_len])), (u1, .inl (cs 0, 200, .inl a_b))]) hD hS hA [1, 2, 3] rfl
          refine va_calli (va_runV (As := []) (rest := []) ⟨hx, hb, hml, hown, hts⟩ (e_X4_readSemicolon l dC dI cs L ka ix ad n0 n6 n2 S f h0 t1 t2 t3 y_ruleCount_16 y_faultKind_17 y_faultPlace_18 y_place_19 y_token_20 y_tokenPlace_21 y_value_22 u1 i_len a_b H.size hT) (cwV 0 hts gX4_readRule_X4_readSemicolon rfl rfl rfl (by decide +kernel) ⟨Nat.le_of_ble_eq_true rfl, Nat.le_of_ble_eq_true rfl⟩) ⟨c_blind, va_recv hKc hPc (ci := 4) (q0 := 0) rfl rfl, c_pre hPc hKc hDc hN⟩ rfl rfl hl.1 rfl (lv_room (Nat.le_of_ble_eq_true rfl)) dX4_readRule_62 ⟨Nat.le_of_ble_eq_true rfl, Nat.le_of_ble_eq_true rfl⟩) hS (fun q _ h => hFc q h) hFc (fun r_26 u9 t9 H1 locs ht hvm hw hB hz1 hk1 hS => ?_)
          obtain ⟨y_ruleCount_27, y_faultKind_28, y_faultPlace_29, y_place_30, y_token_31, y_tokenPlace_32, y_value_33, hP1, hK1, hD1⟩ := hB
          rw [ht] at hP1
          have hK1 := va_K.moved hvm.symm hK1
          obtain ⟨hP, hD⟩ := va_joinP (X := [(t3, .inl (cs 1, 6, .inl f_t_12)), (h0, .inr (4, [.ref t1, .ref t2, .ref t3, .int y_ruleCount_16, .int y_faultKind_17, .int y_faultPlace_18, .int y_place_19, .int y_token_20, .int y_tokenPlace_21, .int y_value_22])), (t1, .inr (7, [.ref u1, .int i_len])), (u1, .inl (cs 0, 200, .inl a_b)), (t2, .inr (5, [.ref n1])), (n1, .inl (cs 0, 6, .inl f_n_23))]) (cx := [(h0, .inr (4, [.ref t1, .ref t2, .ref t3, .int y_ruleCount_16, .int y_faultKind_17, .int y_faultPlace_18, .int y_place_19, .int y_token_20, .int y_tokenPlace_21, .int y_value_22])), (t1, .inr (7, [.ref u1, .int i_len])), (u1, .inl (cs 0, 200, .inl a_b))]) (wr := [(t3, .inl (cs 1, 6, .inl f_t_12)), (t2, .inr (5, [.ref n1])), (n1, .inl (cs 0, 6, .inl f_n_23))]) (rx := [(h0, .inr (4, [.ref t1, .ref t2, .ref t3, .int y_ruleCount_27, .int y_faultKind_28, .int y_faultPlace_29, .int y_place_30, .int y_token_31, .int y_tokenPlace_32, .int y_value_33])), (t1, .inr (7, [.ref u1, .int i_len])), (u1, .inl (cs 0, 200, .inl a_b))]) (pl := va_pl L f) (pl1 := va_pl L f) hP hD [1, 2, 3] [0, 4, 5] rfl rfl (by decide) (by decide) hk1 hFc hP1 hD1
          generalize H1 = H at hP hS ⊢
          have hP : va_P (dC, dI) vwCl ([(t3, .inl (cs 1, 6, .inl f_t_12)), (t2, .inr (5, [.ref n1])), (n1, .inl (cs 0, 6, .inl f_n_23)), (h0, .inr (4, [.ref t1, .ref t2, .ref t3, .int y_ruleCount_27, .int y_faultKind_28, .int y_faultPlace_29, .int y_place_30, .int y_token_31, .int y_tokenPlace_32, .int y_value_33])), (t1, .inr (7, [.ref u1, .int i_len])), (u1, .inl (cs 0, 200, .inl a_b))] ++ va_pl L f) H := hP
          have hD : va_D A ([(t3, .inl (cs 1, 6, .inl f_t_12)), (t2, .inr (5, [.ref n1])), (n1, .inl (cs 0, 6, .inl f_n_23)), (h0, .inr (4, [.ref t1, .ref t2, .ref t3, .int y_ruleCount_27, .int y_faultKind_28, .int y_faultPlace_29, .int y_place_30, .int y_token_31, .int y_tokenPlace_32, .int y_value_33])), (t1, .inr (7, [.ref u1, .int i_len])), (u1, .inl (cs 0, 200, .inl a_b))] ++ va_pl L f) := hD
          refine W.widen (k := 0) (n := 0) (Nat.le_of_ble_eq_true rfl) (Nat.le_of_ble_eq_true rfl) ?_
          have hw_34 := hw
          refine lv_if_eq (tgt := 72) hx hb dX4_readRule_65 (by decide) (fun c_35 => ?_) (fun c_35 => ?_)
          · refine lv_iconst (v := 0) hx hb dX4_readRule_72 (by decide) ?_
            have hP9 := hP.part (cx := [(h0, .inr (4, [.ref t1, .ref t2, .ref t3, .int y_ruleCount_27, .int y_faultKind_28, .int y_faultPlace_29, .int y_place_30, .int y_token_31, .int y_tokenPlace_32, .int y_value_33])), (t1, .inr (7, [.ref u1, .int i_len])), (u1, .inl (cs 0, 200, .inl a_b)), (t2, .inr (5, [.ref n1])), (n1, .inl (cs 0, 6, .inl f_n_23)), (t3, .inl (cs 1, 6, .inl f_t_12))]) [3, 4, 5, 1, 2, 0] rfl
            have hD9 := hD.part (cx := [(h0, .inr (4, [.ref t1, .ref t2, .ref t3, .int y_ruleCount_27, .int y_faultKind_28, .int y_faultPlace_29, .int y_place_30, .int y_token_31, .int y_tokenPlace_32, .int y_value_33])), (t1, .inr (7, [.ref u1, .int i_len])), (u1, .inl (cs 0, 200, .inl a_b)), (t2, .inr (5, [.ref n1])), (n1, .inl (cs 0, 6, .inl f_n_23)), (t3, .inl (cs 1, 6, .inl f_t_12))]) [3, 4, 5, 1, 2, 0] (by decide) rfl
            have hK9 := hK.sub (tys' := []) [] rfl
            refine W.widen (k := 0) (n := 0) (Nat.le_of_ble_eq_true rfl) (Nat.le_of_ble_eq_true rfl) ?_
            exact W.zret (v := 0) hx hb hr rfl (fun t9 ht hW => ⟨⟨_, (), rfl, (Or.inl rfl), y_ruleCount_27, y_faultKind_28, y_faultPlace_29, y_place_30, y_token_31, y_tokenPlace_32, y_value_33, f_n_23, f_t_12, by rw [ht]; exact hP9, va_K.moved hW.alike hK9, hD9⟩, hS.F ht⟩) hS.2.2 dX4_readRule_73
          · refine lv_iconst (v := 1) hx hb dX4_readRule_68 (by decide) ?_
            refine lv_goto (tgt := 73) hx hb dX4_readRule_69 (by decide) ?_
            have hP9 := hP.part (cx := [(h0, .inr (4, [.ref t1, .ref t2, .ref t3, .int y_ruleCount_27, .int y_faultKind_28, .int y_faultPlace_29, .int y_place_30, .int y_token_31, .int y_tokenPlace_32, .int y_value_33])), (t1, .inr (7, [.ref u1, .int i_len])), (u1, .inl (cs 0, 200, .inl a_b)), (t2, .inr (5, [.ref n1])), (n1, .inl (cs 0, 6, .inl f_n_23)), (t3, .inl (cs 1, 6, .inl f_t_12))]) [3, 4, 5, 1, 2, 0] rfl
            have hD9 := hD.part (cx := [(h0, .inr (4, [.ref t1, .ref t2, .ref t3, .int y_ruleCount_27, .int y_faultKind_28, .int y_faultPlace_29, .int y_place_30, .int y_token_31, .int y_tokenPlace_32, .int y_value_33])), (t1, .inr (7, [.ref u1, .int i_len])), (u1, .inl (cs 0, 200, .inl a_b)), (t2, .inr (5, [.ref n1])), (n1, .inl (cs 0, 6, .inl f_n_23)), (t3, .inl (cs 1, 6, .inl f_t_12))]) [3, 4, 5, 1, 2, 0] (by decide) rfl
            have hK9 := hK.sub (tys' := []) [] rfl
            refine W.widen (k := 0) (n := 0) (Nat.le_of_ble_eq_true rfl) (Nat.le_of_ble_eq_true rfl) ?_
            exact W.zret (v := 1) hx hb hr rfl (fun t9 ht hW => ⟨⟨_, (), rfl, (Or.inr rfl), y_ruleCount_27, y_faultKind_28, y_faultPlace_29, y_place_30, y_token_31, y_tokenPlace_32, y_value_33, f_n_23, f_t_12, by rw [ht]; exact hP9, va_K.moved hW.alike hK9, hD9⟩, hS.F ht⟩) hS.2.2 dX4_readRule_73
    · refine lv_aload_n hx hb dX4_readRule_21 rfl (lv_at hl 1 rfl) ?_
      have hPc := hP.part (cx := [(h0, .inr (4, [.ref t1, .ref t2, .ref t3, .int i_ruleCount, .int i_faultKind, .int i_faultPlace, .int i_place, .int i_token, .int i_tokenPlace, .int i_value])), (t1, .inr (7, [.ref u1, .int i_len])), (u1, .inl (cs 0, 200, .inl a_b))]) [0, 1, 2] rfl
      have hDc := hD.part (cx := [(h0, .inr (4, [.ref t1, .ref t2, .ref t3, .int i_ruleCount, .int i_faultKind, .int i_faultPlace, .int i_place, .int i_token, .int i_tokenPlace, .int i_value])), (t1, .inr (7, [.ref u1, .int i_len])), (u1, .inl (cs 0, 200, .inl a_b))]) [0, 1, 2] (by decide) rfl
      have hKc := hK
      have hFc := va_freeP (cx := [(h0, .inr (4, [.ref t1, .ref t2, .ref t3, .int i_ruleCount, .int i_faultKind, .int i_faultPlace, .int i_place, .int i_token, .int i_tokenPlace, .int i_value])), (t1, .inr (7, [.ref u1, .int i_len])), (u1, .inl (cs 0, 200, .inl a_b))]) hD hS hA [0, 1, 2] rfl
      refine va_callv (va_runV (As := []) (rest := []) ⟨hx, hb, hml, hown, hts⟩ (e_X4_readToken l dC dI cs L ka ix ad n0 n6 n2 S f h0 t1 t2 t3 i_ruleCount i_faultKind i_faultPlace i_place i_token i_tokenPlace i_value u1 i_len a_b s.heap.size hT) (cwV 0 hts gX4_readRule_X4_readToken rfl rfl rfl (by decide +kernel) ⟨Nat.le_of_ble_eq_true rfl, Nat.le_of_ble_eq_true rfl⟩) ⟨c_blind, va_recv hKc hPc (ci := 4) (q0 := 0) rfl rfl, c_pre hPc hKc hDc hN⟩ rfl rfl hl.1 rfl (lv_room (Nat.le_of_ble_eq_true rfl)) dX4_readRule_22 ⟨Nat.le_of_ble_eq_true rfl, Nat.le_of_ble_eq_true rfl⟩) hS (fun q _ h => hFc q h) hFc (fun u9 t9 H1 locs ht hvm hw hB hz1 hk1 hS => ?_)
      obtain ⟨y_ruleCount_37, y_faultKind_38, y_faultPlace_39, y_place_40, y_token_41, y_tokenPlace_42, y_value_43, hP1, hK1, hD1⟩ := hB
      rw [ht] at hP1
      have hK1 := va_K.moved hvm.symm hK1
      obtain ⟨hP, hD⟩ := va_joinP (X := [(h0, .inr (4, [.ref t1, .ref t2, .ref t3, .int i_ruleCount, .int i_faultKind, .int i_faultPlace, .int i_place, .int i_token, .int i_tokenPlace, .int i_value])), (t1, .inr (7, [.ref u1, .int i_len])), (u1, .inl (cs 0, 200, .inl a_b)), (t2, .inr (5, [.ref n1])), (n1, .inl (cs 0, 6, .inl a_n)), (t3, .inl (cs 1, 6, .inl a_t))]) (cx := [(h0, .inr (4, [.ref t1, .ref t2, .ref t3, .int i_ruleCount, .int i_faultKind, .int i_faultPlace, .int i_place, .int i_token, .int i_tokenPlace, .int i_value])), (t1, .inr (7, [.ref u1, .int i_len])), (u1, .inl (cs 0, 200, .inl a_b))]) (wr := [(t2, .inr (5, [.ref n1])), (n1, .inl (cs 0, 6, .inl a_n)), (t3, .inl (cs 1, 6, .inl a_t))]) (rx := [(h0, .inr (4, [.ref t1, .ref t2, .ref t3, .int y_ruleCount_37, .int y_faultKind_38, .int y_faultPlace_39, .int y_place_40, .int y_token_41, .int y_tokenPlace_42, .int y_value_43])), (t1, .inr (7, [.ref u1, .int i_len])), (u1, .inl (cs 0, 200, .inl a_b))]) (pl := va_pl L f) (pl1 := va_pl L f) hP hD [0, 1, 2] [3, 4, 5] rfl rfl (by decide) (by decide) hk1 hFc hP1 hD1
      generalize H1 = H at hP hS ⊢
      have hP : va_P (dC, dI) vwCl ([(t2, .inr (5, [.ref n1])), (n1, .inl (cs 0, 6, .inl a_n)), (t3, .inl (cs 1, 6, .inl a_t)), (h0, .inr (4, [.ref t1, .ref t2, .ref t3, .int y_ruleCount_37, .int y_faultKind_38, .int y_faultPlace_39, .int y_place_40, .int y_token_41, .int y_tokenPlace_42, .int y_value_43])), (t1, .inr (7, [.ref u1, .int i_len])), (u1, .inl (cs 0, 200, .inl a_b))] ++ va_pl L f) H := hP
      have hD : va_D A ([(t2, .inr (5, [.ref n1])), (n1, .inl (cs 0, 6, .inl a_n)), (t3, .inl (cs 1, 6, .inl a_t)), (h0, .inr (4, [.ref t1, .ref t2, .ref t3, .int y_ruleCount_37, .int y_faultKind_38, .int y_faultPlace_39, .int y_place_40, .int y_token_41, .int y_tokenPlace_42, .int y_value_43])), (t1, .inr (7, [.ref u1, .int i_len])), (u1, .inl (cs 0, 200, .inl a_b))] ++ va_pl L f) := hD
      refine W.widen (k := 0) (n := 0) (Nat.le_of_ble_eq_true rfl) (Nat.le_of_ble_eq_true rfl) ?_
      refine lv_aload_n hx hb dX4_readRule_25 rfl (lv_at hl 1 rfl) ?_
      refine lv_iconst (v := 1) hx hb dX4_readRule_26 (by decide) ?_
      refine lv_iconst (v := 3) hx hb dX4_readRule_27 (by decide) ?_
      have hPc := hP.part (cx := [(h0, .inr (4, [.ref t1, .ref t2, .ref t3, .int y_ruleCount_37, .int y_faultKind_38, .int y_faultPlace_39, .int y_place_40, .int y_token_41, .int y_tokenPlace_42, .int y_value_43]))]) [3] rfl
      have hDc := hD.part (cx := [(h0, .inr (4, [.ref t1, .ref t2, .ref t3, .int y_ruleCount_37, .int y_faultKind_38, .int y_faultPlace_39, .int y_place_40, .int y_token_41, .int y_tokenPlace_42, .int y_value_43]))]) [3] (by decide) rfl
      have hKc := hK
      have hFc := va_freeP (cx := [(h0, .inr (4, [.ref t1, .ref t2, .ref t3, .int y_ruleCount_37, .int y_faultKind_38, .int y_faultPlace_39, .int y_place_40, .int y_token_41, .int y_tokenPlace_42, .int y_value_43]))]) hD hS hA [3] rfl
      refine va_calli (va_runV (As := [.int 1, .int 3]) (rest := []) ⟨hx, hb, hml, hown, hts⟩ (e_X4_isNumberWithin l dC dI cs L ka ix ad n0 n6 n2 S f h0 t1 t2 t3 y_ruleCount_37 y_faultKind_38 y_faultPlace_39 y_place_40 y_token_41 y_tokenPlace_42 y_value_43 1 3 H.size hT) (cwV 2 hts gX4_readRule_X4_isNumberWithin rfl rfl rfl (by decide +kernel) ⟨Nat.le_of_ble_eq_true rfl, Nat.le_of_ble_eq_true rfl⟩) ⟨c_blind, va_recv hKc hPc (ci := 4) (q0 := 0) rfl rfl, c_pre hPc hKc hDc hN⟩ rfl rfl hl.1 rfl (lv_room (Nat.le_of_ble_eq_true rfl)) dX4_readRule_28 ⟨Nat.le_of_ble_eq_true rfl, Nat.le_of_ble_eq_true rfl⟩) hS (fun q _ h => hFc q h) hFc (fun r_44 u9 t9 H1 locs ht hvm hw hB hz1 hk1 hS => ?_)
      obtain ⟨y_ruleCount_45, y_faultKind_46, y_faultPlace_47, y_place_48, y_token_49, y_tokenPlace_50, y_value_51, hP1, hK1, hD1⟩ := hB
      rw [ht] at hP1
      have hK1 := va_K.moved hvm.symm hK1
      obtain ⟨hP, hD⟩ := va_joinP (X := [(t2, .inr (5, [.ref n1])), (n1, .inl (cs 0, 6, .inl a_n)), (t3, .inl (cs 1, 6, .inl a_t)), (h0, .inr (4, [.ref t1, .ref t2, .ref t3, .int y_ruleCount_37, .int y_faultKind_38, .int y_faultPlace_39, .int y_place_40, .int y_token_41, .int y_tokenPlace_42, .int y_value_43])), (t1, .inr (7, [.ref u1, .int i_len])), (u1, .inl (cs 0, 200, .inl a_b))]) (cx := [(h0, .inr (4, [.ref t1, .ref t2, .ref t3, .int y_ruleCount_37, .int y_faultKind_38, .int y_faultPlace_39, .int y_place_40, .int y_token_41, .int y_tokenPlace_42, .int y_value_43]))]) (wr := [(t2, .inr (5, [.ref n1])), (n1, .inl (cs 0, 6, .inl a_n)), (t3, .inl (cs 1, 6, .inl a_t)), (t1, .inr (7, [.ref u1, .int i_len])), (u1, .inl (cs 0, 200, .inl a_b))]) (rx := [(h0, .inr (4, [.ref t1, .ref t2, .ref t3, .int y_ruleCount_45, .int y_faultKind_46, .int y_faultPlace_47, .int y_place_48, .int y_token_49, .int y_tokenPlace_50, .int y_value_51]))]) (pl := va_pl L f) (pl1 := va_pl L f) hP hD [3] [0, 1, 2, 4, 5] rfl rfl (by decide) (by decide) hk1 hFc hP1 hD1
      generalize H1 = H at hP hS ⊢
      have hP : va_P (dC, dI) vwCl ([(t2, .inr (5, [.ref n1])), (n1, .inl (cs 0, 6, .inl a_n)), (t3, .inl (cs 1, 6, .inl a_t)), (t1, .inr (7, [.ref u1, .int i_len])), (u1, .inl (cs 0, 200, .inl a_b)), (h0, .inr (4, [.ref t1, .ref t2, .ref t3, .int y_ruleCount_45, .int y_faultKind_46, .int y_faultPlace_47, .int y_place_48, .int y_token_49, .int y_tokenPlace_50, .int y_value_51]))] ++ va_pl L f) H := hP
      have hD : va_D A ([(t2, .inr (5, [.ref n1])), (n1, .inl (cs 0, 6, .inl a_n)), (t3, .inl (cs 1, 6, .inl a_t)), (t1, .inr (7, [.ref u1, .int i_len])), (u1, .inl (cs 0, 200, .inl a_b)), (h0, .inr (4, [.ref t1, .ref t2, .ref t3, .int y_ruleCount_45, .int y_faultKind_46, .int y_faultPlace_47, .int y_place_48, .int y_token_49, .int y_tokenPlace_50, .int y_value_51]))] ++ va_pl L f) := hD
      refine W.widen (k := 0) (n := 0) (Nat.le_of_ble_eq_true rfl) (Nat.le_of_ble_eq_true rfl) ?_
      have hw_52 := hw
      refine lv_if_ne (tgt := 36) hx hb dX4_readRule_31 (by decide) (fun c_53 => ?_) (fun c_53 => ?_)
      · refine lv_iconst (v := 3) hx hb dX4_readRule_36 (by decide) ?_
        refine lv_aload_n hx hb dX4_readRule_37 rfl (lv_at hl 1 rfl) ?_
        refine va_get (D := (dC, dI)) (ci := 4) (v := .int y_value_51) (C := RX4) (T := TX4) (N := 10) hx hb hts hin4 hown hK hP 5 rfl rfl 9 (by decide) (hts (.fieldLink RX4 52 "YamRiders$StatuteReader" "value" "I") (by decide +kernel)) (fun _ h9 => h9) rfl dX4_readRule_38 ?_
        refine lv_iadd hx hb dX4_readRule_41 ?_
        refine lv_topi (fun v_54 ev_54 => ?_)
        refine lv_iconst (v := 1) hx hb dX4_readRule_42 (by decide) ?_
        refine lv_isub hx hb dX4_readRule_43 ?_
        refine lv_topi (fun v_55 ev_55 => ?_)
        refine lv_istore_n (lv' := [(1, .int v_55), (0, .ref h0)]) hx hb dX4_readRule_44 rfl hl (by decide) rfl (fun ls hl => ?_)
        refine lv_aload_n hx hb dX4_readRule_45 rfl (lv_at hl 1 rfl) ?_
        refine lv_iload_n hx hb dX4_readRule_46 rfl (lv_at hl 0 rfl) ?_
        have hPc := hP.part (cx := [(h0, .inr (4, [.ref t1, .ref t2, .ref t3, .int y_ruleCount_45, .int y_faultKind_46, .int y_faultPlace_47, .int y_place_48, .int y_token_49, .int y_tokenPlace_50, .int y_value_51])), (t3, .inl (cs 1, 6, .inl a_t))]) [5, 2] rfl
        have hDc := hD.part (cx := [(h0, .inr (4, [.ref t1, .ref t2, .ref t3, .int y_ruleCount_45, .int y_faultKind_46, .int y_faultPlace_47, .int y_place_48, .int y_token_49, .int y_tokenPlace_50, .int y_value_51])), (t3, .inl (cs 1, 6, .inl a_t))]) [5, 2] (by decide) rfl
        have hKc := hK
        have hFc := va_freeP (cx := [(h0, .inr (4, [.ref t1, .ref t2, .ref t3, .int y_ruleCount_45, .int y_faultKind_46, .int y_faultPlace_47, .int y_place_48, .int y_token_49, .int y_tokenPlace_50, .int y_value_51])), (t3, .inl (cs 1, 6, .inl a_t))]) hD hS hA [5, 2] rfl
        refine va_calli (va_runV (As := [.int v_55]) (rest := []) ⟨hx, hb, hml, hown, hts⟩ (e_X4_isFirstOf l dC dI cs L ka ix ad n0 n6 n2 S f h0 t1 t2 t3 y_ruleCount_45 y_faultKind_46 y_faultPlace_47 y_place_48 y_token_49 y_tokenPlace_50 y_value_51 a_t v_55 H.size hT) (cwV 1 hts gX4_readRule_X4_isFirstOf rfl rfl rfl (by decide +kernel) ⟨Nat.le_of_ble_eq_true rfl, Nat.le_of_ble_eq_true rfl⟩) ⟨c_blind, va_recv hKc hPc (ci := 4) (q0 := 0) rfl rfl, c_pre hPc hKc hDc hN⟩ rfl rfl hl.1 rfl (lv_room (Nat.le_of_ble_eq_true rfl)) dX4_readRule_47 ⟨Nat.le_of_ble_eq_true rfl, Nat.le_of_ble_eq_true rfl⟩) hS (fun q _ h => hFc q h) hFc (fun r_56 u9 t9 H1 locs ht hvm hw hB hz1 hk1 hS => ?_)
        obtain ⟨y_ruleCount_57, y_faultKind_58, y_faultPlace_59, y_place_60, y_token_61, y_tokenPlace_62, y_value_63, f_t_64, hP1, hK1, hD1⟩ := hB
        rw [ht] at hP1
        have hK1 := va_K.moved hvm.symm hK1
        obtain ⟨hP, hD⟩ := va_joinP (X := [(t2, .inr (5, [.ref n1])), (n1, .inl (cs 0, 6, .inl a_n)), (t3, .inl (cs 1, 6, .inl a_t)), (t1, .inr (7, [.ref u1, .int i_len])), (u1, .inl (cs 0, 200, .inl a_b)), (h0, .inr (4, [.ref t1, .ref t2, .ref t3, .int y_ruleCount_45, .int y_faultKind_46, .int y_faultPlace_47, .int y_place_48, .int y_token_49, .int y_tokenPlace_50, .int y_value_51]))]) (cx := [(h0, .inr (4, [.ref t1, .ref t2, .ref t3, .int y_ruleCount_45, .int y_faultKind_46, .int y_faultPlace_47, .int y_place_48, .int y_token_49, .int y_tokenPlace_50, .int y_value_51])), (t3, .inl (cs 1, 6, .inl a_t))]) (wr := [(t2, .inr (5, [.ref n1])), (n1, .inl (cs 0, 6, .inl a_n)), (t1, .inr (7, [.ref u1, .int i_len])), (u1, .inl (cs 0, 200, .inl a_b))]) (rx := [(h0, .inr (4, [.ref t1, .ref t2, .ref t3, .int y_ruleCount_57, .int y_faultKind_58, .int y_faultPlace_59, .int y_place_60, .int y_token_61, .int y_tokenPlace_62, .int y_value_63])), (t3, .inl (cs 1, 6, .inl f_t_64))]) (pl := va_pl L f) (pl1 := va_pl L f) hP hD [5, 2] [0, 1, 3, 4] rfl rfl (by decide) (by decide) hk1 hFc hP1 hD1
        generalize H1 = H at hP hS ⊢
        have hP : va_P (dC, dI) vwCl ([(t2, .inr (5, [.ref n1])), (n1, .inl (cs 0, 6, .inl a_n)), (t1, .inr (7, [.ref u1, .int i_len])), (u1, .inl (cs 0, 200, .inl a_b)), (h0, .inr (4, [.ref t1, .ref t2, .ref t3, .int y_ruleCount_57, .int y_faultKind_58, .int y_faultPlace_59, .int y_place_60, .int y_token_61, .int y_tokenPlace_62, .int y_value_63])), (t3, .inl (cs 1, 6, .inl f_t_64))] ++ va_pl L f) H := hP
        have hD : va_D A ([(t2, .inr (5, [.ref n1])), (n1, .inl (cs 0, 6, .inl a_n)), (t1, .inr (7, [.ref u1, .int i_len])), (u1, .inl (cs 0, 200, .inl a_b)), (h0, .inr (4, [.ref t1, .ref t2, .ref t3, .int y_ruleCount_57, .int y_faultKind_58, .int y_faultPlace_59, .int y_place_60, .int y_token_61, .int y_tokenPlace_62, .int y_value_63])), (t3, .inl (cs 1, 6, .inl f_t_64))] ++ va_pl L f) := hD
        refine W.widen (k := 0) (n := 0) (Nat.le_of_ble_eq_true rfl) (Nat.le_of_ble_eq_true rfl) ?_
        have hw_65 := hw
        refine lv_if_eq (tgt := 72) hx hb dX4_readRule_50 (by decide) (fun c_66 => ?_) (fun c_66 => ?_)
        · refine lv_iconst (v := 0) hx hb dX4_readRule_72 (by decide) ?_
          have hP9 := hP.part (cx := [(h0, .inr (4, [.ref t1, .ref t2, .ref t3, .int y_ruleCount_57, .int y_faultKind_58, .int y_faultPlace_59, .int y_place_60, .int y_token_61, .int y_tokenPlace_62, .int y_value_63])), (t1, .inr (7, [.ref u1, .int i_len])), (u1, .inl (cs 0, 200, .inl a_b)), (t2, .inr (5, [.ref n1])), (n1, .inl (cs 0, 6, .inl a_n)), (t3, .inl (cs 1, 6, .inl f_t_64))]) [4, 2, 3, 0, 1, 5] rfl
          have hD9 := hD.part (cx := [(h0, .inr (4, [.ref t1, .ref t2, .ref t3, .int y_ruleCount_57, .int y_faultKind_58, .int y_faultPlace_59, .int y_place_60, .int y_token_61, .int y_tokenPlace_62, .int y_value_63])), (t1, .inr (7, [.ref u1, .int i_len])), (u1, .inl (cs 0, 200, .inl a_b)), (t2, .inr (5, [.ref n1])), (n1, .inl (cs 0, 6, .inl a_n)), (t3, .inl (cs 1, 6, .inl f_t_64))]) [4, 2, 3, 0, 1, 5] (by decide) rfl
          have hK9 := hK.sub (tys' := []) [] rfl
          refine W.widen (k := 0) (n := 0) (Nat.le_of_ble_eq_true rfl) (Nat.le_of_ble_eq_true rfl) ?_
          exact W.zret (v := 0) hx hb hr rfl (fun t9 ht hW => ⟨⟨_, (), rfl, (Or.inl rfl), y_ruleCount_57, y_faultKind_58, y_faultPlace_59, y_place_60, y_token_61, y_tokenPlace_62, y_value_63, a_n, f_t_64, by rw [ht]; exact hP9, va_K.moved hW.alike hK9, hD9⟩, hS.F ht⟩) hS.2.2 dX4_readRule_73
        · refine lv_aload_n hx hb dX4_readRule_53 rfl (lv_at hl 1 rfl) ?_
          refine lv_iload_n hx hb dX4_readRule_54 rfl (lv_at hl 0 rfl) ?_
          have hPc := hP.part (cx := [(h0, .inr (4, [.ref t1, .ref t2, .ref t3, .int y_ruleCount_57, .int y_faultKind_58, .int y_faultPlace_59, .int y_place_60, .int y_token_61, .int y_tokenPlace_62, .int y_value_63])), (t1, .inr (7, [.ref u1, .int i_len])), (u1, .inl (cs 0, 200, .inl a_b)), (t2, .inr (5, [.ref n1])), (n1, .inl (cs 0, 6, .inl a_n))]) [4, 2, 3, 0, 1] rfl
          have hDc := hD.part (cx := [(h0, .inr (4, [.ref t1, .ref t2, .ref t3, .int y_ruleCount_57, .int y_faultKind_58, .int y_faultPlace_59, .int y_place_60, .int y_token_61, .int y_tokenPlace_62, .int y_value_63])), (t1, .inr (7, [.ref u1, .int i_len])), (u1, .inl (cs 0, 200, .inl a_b)), (t2, .inr (5, [.ref n1])), (n1, .inl (cs 0, 6, .inl a_n))]) [4, 2, 3, 0, 1] (by decide) rfl
          have hKc := hK
          have hFc := va_freeP (cx := [(h0, .inr (4, [.ref t1, .ref t2, .ref t3, .int y_ruleCount_57, .int y_faultKind_58, .int y_faultPlace_59, .int y_place_60, .int y_token_61, .int y_tokenPlace_62, .int y_value_63])), (t1, .inr (7, [.ref u1, .int i_len])), (u1, .inl (cs 0, 200, .inl a_b)), (t2, .inr (5, [.ref n1])), (n1, .inl (cs 0, 6, .inl a_n))]) hD hS hA [4, 2, 3, 0, 1] rfl
          refine va_calli (va_runV (As := [.int v_55]) (rest := []) ⟨hx, hb, hml, hown, hts⟩ (e_X4_readNumberOf l dC dI cs L ka ix ad n0 n6 n2 S f h0 t1 t2 t3 y_ruleCount_57 y_faultKind_58 y_faultPlace_59 y_place_60 y_token_61 y_tokenPlace_62 y_value_63 u1 i_len a_b n1 a_n v_55 H.size hT) (cwV 1 hts gX4_readRule_X4_readNumberOf rfl rfl rfl (by decide +kernel) ⟨Nat.le_of_ble_eq_true rfl, Nat.le_of_ble_eq_true rfl⟩) ⟨c_blind, va_recv hKc hPc (ci := 4) (q0 := 0) rfl rfl, c_pre hPc hKc hDc hN⟩ rfl rfl hl.1 rfl (lv_room (Nat.le_of_ble_eq_true rfl)) dX4_readRule_55 ⟨Nat.le_of_ble_eq_true rfl, Nat.le_of_ble_eq_true rfl⟩) hS (fun q _ h => hFc q h) hFc (fun r_67 u9 t9 H1 locs ht hvm hw hB hz1 hk1 hS => ?_)
          obtain ⟨y_ruleCount_68, y_faultKind_69, y_faultPlace_70, y_place_71, y_token_72, y_tokenPlace_73, y_value_74, f_n_75, hP1, hK1, hD1⟩ := hB
          rw [ht] at hP1
          have hK1 := va_K.moved hvm.symm hK1
          obtain ⟨hP, hD⟩ := va_joinP (X := [(t2, .inr (5, [.ref n1])), (n1, .inl (cs 0, 6, .inl a_n)), (t1, .inr (7, [.ref u1, .int i_len])), (u1, .inl (cs 0, 200, .inl a_b)), (h0, .inr (4, [.ref t1, .ref t2, .ref t3, .int y_ruleCount_57, .int y_faultKind_58, .int y_faultPlace_59, .int y_place_60, .int y_token_61, .int y_tokenPlace_62, .int y_value_63])), (t3, .inl (cs 1, 6, .inl f_t_64))]) (cx := [(h0, .inr (4, [.ref t1, .ref t2, .ref t3, .int y_ruleCount_57, .int y_faultKind_58, .int y_faultPlace_59, .int y_place_60, .int y_token_61, .int y_tokenPlace_62, .int y_value_63])), (t1, .inr (7, [.ref u1, .int i_len])), (u1, .inl (cs 0, 200, .inl a_b)), (t2, .inr (5, [.ref n1])), (n1, .inl (cs 0, 6, .inl a_n))]) (wr := [(t3, .inl (cs 1, 6, .inl f_t_64))]) (rx := [(h0, .inr (4, [.ref t1, .ref t2, .ref t3, .int y_ruleCount_68, .int y_faultKind_69, .int y_faultPlace_70, .int y_place_71, .int y_token_72, .int y_tokenPlace_73, .int y_value_74])), (t1, .inr (7, [.ref u1, .int i_len])), (u1, .inl (cs 0, 200, .inl a_b)), (t2, .inr (5, [.ref n1])), (n1, .inl (cs 0, 6, .inl f_n_75))]) (pl := va_pl L f) (pl1 := va_pl L f) hP hD [4, 2, 3, 0, 1] [5] rfl rfl (by decide) (by decide) hk1 hFc hP1 hD1
          generalize H1 = H at hP hS ⊢
          have hP : va_P (dC, dI) vwCl ([(t3, .inl (cs 1, 6, .inl f_t_64)), (h0, .inr (4, [.ref t1, .ref t2, .ref t3, .int y_ruleCount_68, .int y_faultKind_69, .int y_faultPlace_70, .int y_place_71, .int y_token_72, .int y_tokenPlace_73, .int y_value_74])), (t1, .inr (7, [.ref u1, .int i_len])), (u1, .inl (cs 0, 200, .inl a_b)), (t2, .inr (5, [.ref n1])), (n1, .inl (cs 0, 6, .inl f_n_75))] ++ va_pl L f) H := hP
          have hD : va_D A ([(t3, .inl (cs 1, 6, .inl f_t_64)), (h0, .inr (4, [.ref t1, .ref t2, .ref t3, .int y_ruleCount_68, .int y_faultKind_69, .int y_faultPlace_70, .int y_place_71, .int y_token_72, .int y_tokenPlace_73, .int y_value_74])), (t1, .inr (7, [.ref u1, .int i_len])), (u1, .inl (cs 0, 200, .inl a_b)), (t2, .inr (5, [.ref n1])), (n1, .inl (cs 0, 6, .inl f_n_75))] ++ va_pl L f) := hD
          refine W.widen (k := 0) (n := 0) (Nat.le_of_ble_eq_true rfl) (Nat.le_of_ble_eq_true rfl) ?_
          have hw_76 := hw
          refine lv_if_eq (tgt := 72) hx hb dX4_readRule_58 (by decide) (fun c_77 => ?_) (fun c_77 => ?_)
          · refine lv_iconst (v := 0) hx hb dX4_readRule_72 (by decide) ?_
            have hP9 := hP.part (cx := [(h0, .inr (4, [.ref t1, .ref t2, .ref t3, .int y_ruleCount_68, .int y_faultKind_69, .int y_faultPlace_70, .int y_place_71, .int y_token_72, .int y_tokenPlace_73, .int y_value_74])), (t1, .inr (7, [.ref u1, .int i_len])), (u1, .inl (cs 0, 200, .inl a_b)), (t2, .inr (5, [.ref n1])), (n1, .inl (cs 0, 6, .inl f_n_75)), (t3, .inl (cs 1, 6, .inl f_t_64))]) [1, 2, 3, 4, 5, 0] rfl
            have hD9 := hD.part (cx := [(h0, .inr (4, [.ref t1, .ref t2, .ref t3, .int y_ruleCount_68, .int y_faultKind_69, .int y_faultPlace_70, .int y_place_71, .int y_token_72, .int y_tokenPlace_73, .int y_value_74])), (t1, .inr (7, [.ref u1, .int i_len])), (u1, .inl (cs 0, 200, .inl a_b)), (t2, .inr (5, [.ref n1])), (n1, .inl (cs 0, 6, .inl f_n_75)), (t3, .inl (cs 1, 6, .inl f_t_64))]) [1, 2, 3, 4, 5, 0] (by decide) rfl
            have hK9 := hK.sub (tys' := []) [] rfl
            refine W.widen (k := 0) (n := 0) (Nat.le_of_ble_eq_true rfl) (Nat.le_of_ble_eq_true rfl) ?_
            exact W.zret (v := 0) hx hb hr rfl (fun t9 ht hW => ⟨⟨_, (), rfl, (Or.inl rfl), y_ruleCount_68, y_faultKind_69, y_faultPlace_70, y_place_71, y_token_72, y_tokenPlace_73, y_value_74, f_n_75, f_t_64, by rw [ht]; exact hP9, va_K.moved hW.alike hK9, hD9⟩, hS.F ht⟩) hS.2.2 dX4_readRule_73
          · refine lv_aload_n hx hb dX4_readRule_61 rfl (lv_at hl 1 rfl) ?_
            have hPc := hP.part (cx := [(h0, .inr (4, [.ref t1, .ref t2, .ref t3, .int y_ruleCount_68, .int y_faultKind_69, .int y_faultPlace_70, .int y_place_71, .int y_token_72, .int y_tokenPlace_73, .int y_value_74])), (t1, .inr (7, [.ref u1, .int i_len])), (u1, .inl (cs 0, 200, .inl a_b))]) [1, 2, 3] rfl
            have hDc := hD.part (cx := [(h0, .inr (4, [.ref t1, .ref t2, .ref t3, .int y_ruleCount_68, .int y_faultKind_69, .int y_faultPlace_70, .int y_place_71, .int y_token_72, .int y_tokenPlace_73, .int y_value_74])), (t1, .inr (7, [.ref u1, .int i_len])), (u1, .inl (cs 0, 200, .inl a_b))]) [1, 2, 3] (by decide) rfl
            have hKc := hK
            have hFc := va_freeP (cx := [(h0, .inr (4, [.ref t1, .ref t2, .ref t3, .int y_ruleCount_68, .int y_faultKind_69, .int y_faultPlace_70, .int y_place_71, .int y_token_72, .int y_tokenPlace_73, .int y_value_74])), (t1, .inr (7, [.ref u1, .int i_len])), (u1, .inl (cs 0, 200, .inl a_b))]) hD hS hA [1, 2, 3] rfl
            refine va_calli (va_runV (As := []) (rest := []) ⟨hx, hb, hml, hown, hts⟩ (e_X4_readSemicolon l dC dI cs L ka ix ad n0 n6 n2 S f h0 t1 t2 t3 y_ruleCount_68 y_faultKind_69 y_faultPlace_70 y_place_71 y_token_72 y_tokenPlace_73 y_value_74 u1 i_len a_b H.size hT) (cwV 0 hts gX4_readRule_X4_readSemicolon rfl rfl rfl (by decide +kernel) ⟨Nat.le_of_ble_eq_true rfl, Nat.le_of_ble_eq_true rfl⟩) ⟨c_blind, va_recv hKc hPc (ci := 4) (q0 := 0) rfl rfl, c_pre hPc hKc hDc hN⟩ rfl rfl hl.1 rfl (lv_room (Nat.le_of_ble_eq_true rfl)) dX4_readRule_62 ⟨Nat.le_of_ble_eq_true rfl, Nat.le_of_ble_eq_true rfl⟩) hS (fun q _ h => hFc q h) hFc (fun r_78 u9 t9 H1 locs ht hvm hw hB hz1 hk1 hS => ?_)
            obtain ⟨y_ruleCount_79, y_faultKind_80, y_faultPlace_81, y_place_82, y_token_83, y_tokenPlace_84, y_value_85, hP1, hK1, hD1⟩ := hB
            rw [ht] at hP1
            have hK1 := va_K.moved hvm.symm hK1
            obtain ⟨hP, hD⟩ := va_joinP (X := [(t3, .inl (cs 1, 6, .inl f_t_64)), (h0, .inr (4, [.ref t1, .ref t2, .ref t3, .int y_ruleCount_68, .int y_faultKind_69, .int y_faultPlace_70, .int y_place_71, .int y_token_72, .int y_tokenPlace_73, .int y_value_74])), (t1, .inr (7, [.ref u1, .int i_len])), (u1, .inl (cs 0, 200, .inl a_b)), (t2, .inr (5, [.ref n1])), (n1, .inl (cs 0, 6, .inl f_n_75))]) (cx := [(h0, .inr (4, [.ref t1, .ref t2, .ref t3, .int y_ruleCount_68, .int y_faultKind_69, .int y_faultPlace_70, .int y_place_71, .int y_token_72, .int y_tokenPlace_73, .int y_value_74])), (t1, .inr (7, [.ref u1, .int i_len])), (u1, .inl (cs 0, 200, .inl a_b))]) (wr := [(t3, .inl (cs 1, 6, .inl f_t_64)), (t2, .inr (5, [.ref n1])), (n1, .inl (cs 0, 6, .inl f_n_75))]) (rx := [(h0, .inr (4, [.ref t1, .ref t2, .ref t3, .int y_ruleCount_79, .int y_faultKind_80, .int y_faultPlace_81, .int y_place_82, .int y_token_83, .int y_tokenPlace_84, .int y_value_85])), (t1, .inr (7, [.ref u1, .int i_len])), (u1, .inl (cs 0, 200, .inl a_b))]) (pl := va_pl L f) (pl1 := va_pl L f) hP hD [1, 2, 3] [0, 4, 5] rfl rfl (by decide) (by decide) hk1 hFc hP1 hD1
            generalize H1 = H at hP hS ⊢
            have hP : va_P (dC, dI) vwCl ([(t3, .inl (cs 1, 6, .inl f_t_64)), (t2, .inr (5, [.ref n1])), (n1, .inl (cs 0, 6, .inl f_n_75)), (h0, .inr (4, [.ref t1, .ref t2, .ref t3, .int y_ruleCount_79, .int y_faultKind_80, .int y_faultPlace_81, .int y_place_82, .int y_token_83, .int y_tokenPlace_84, .int y_value_85])), (t1, .inr (7, [.ref u1, .int i_len])), (u1, .inl (cs 0, 200, .inl a_b))] ++ va_pl L f) H := hP
            have hD : va_D A ([(t3, .inl (cs 1, 6, .inl f_t_64)), (t2, .inr (5, [.ref n1])), (n1, .inl (cs 0, 6, .inl f_n_75)), (h0, .inr (4, [.ref t1, .ref t2, .ref t3, .int y_ruleCount_79, .int y_faultKind_80, .int y_faultPlace_81, .int y_place_82, .int y_token_83, .int y_tokenPlace_84, .int y_value_85])), (t1, .inr (7, [.ref u1, .int i_len])), (u1, .inl (cs 0, 200, .inl a_b))] ++ va_pl L f) := hD
            refine W.widen (k := 0) (n := 0) (Nat.le_of_ble_eq_true rfl) (Nat.le_of_ble_eq_true rfl) ?_
            have hw_86 := hw
            refine lv_if_eq (tgt := 72) hx hb dX4_readRule_65 (by decide) (fun c_87 => ?_) (fun c_87 => ?_)
            · refine lv_iconst (v := 0) hx hb dX4_readRule_72 (by decide) ?_
              have hP9 := hP.part (cx := [(h0, .inr (4, [.ref t1, .ref t2, .ref t3, .int y_ruleCount_79, .int y_faultKind_80, .int y_faultPlace_81, .int y_place_82, .int y_token_83, .int y_tokenPlace_84, .int y_value_85])), (t1, .inr (7, [.ref u1, .int i_len])), (u1, .inl (cs 0, 200, .inl a_b)), (t2, .inr (5, [.ref n1])), (n1, .inl (cs 0, 6, .inl f_n_75)), (t3, .inl (cs 1, 6, .inl f_t_64))]) [3, 4, 5, 1, 2, 0] rfl
              have hD9 := hD.part (cx := [(h0, .inr (4, [.ref t1, .ref t2, .ref t3, .int y_ruleCount_79, .int y_faultKind_80, .int y_faultPlace_81, .int y_place_82, .int y_token_83, .int y_tokenPlace_84, .int y_value_85])), (t1, .inr (7, [.ref u1, .int i_len])), (u1, .inl (cs 0, 200, .inl a_b)), (t2, .inr (5, [.ref n1])), (n1, .inl (cs 0, 6, .inl f_n_75)), (t3, .inl (cs 1, 6, .inl f_t_64))]) [3, 4, 5, 1, 2, 0] (by decide) rfl
              have hK9 := hK.sub (tys' := []) [] rfl
              refine W.widen (k := 0) (n := 0) (Nat.le_of_ble_eq_true rfl) (Nat.le_of_ble_eq_true rfl) ?_
              exact W.zret (v := 0) hx hb hr rfl (fun t9 ht hW => ⟨⟨_, (), rfl, (Or.inl rfl), y_ruleCount_79, y_faultKind_80, y_faultPlace_81, y_place_82, y_token_83, y_tokenPlace_84, y_value_85, f_n_75, f_t_64, by rw [ht]; exact hP9, va_K.moved hW.alike hK9, hD9⟩, hS.F ht⟩) hS.2.2 dX4_readRule_73
            · refine lv_iconst (v := 1) hx hb dX4_readRule_68 (by decide) ?_
              refine lv_goto (tgt := 73) hx hb dX4_readRule_69 (by decide) ?_
              have hP9 := hP.part (cx := [(h0, .inr (4, [.ref t1, .ref t2, .ref t3, .int y_ruleCount_79, .int y_faultKind_80, .int y_faultPlace_81, .int y_place_82, .int y_token_83, .int y_tokenPlace_84, .int y_value_85])), (t1, .inr (7, [.ref u1, .int i_len])), (u1, .inl (cs 0, 200, .inl a_b)), (t2, .inr (5, [.ref n1])), (n1, .inl (cs 0, 6, .inl f_n_75)), (t3, .inl (cs 1, 6, .inl f_t_64))]) [3, 4, 5, 1, 2, 0] rfl
              have hD9 := hD.part (cx := [(h0, .inr (4, [.ref t1, .ref t2, .ref t3, .int y_ruleCount_79, .int y_faultKind_80, .int y_faultPlace_81, .int y_place_82, .int y_token_83, .int y_tokenPlace_84, .int y_value_85])), (t1, .inr (7, [.ref u1, .int i_len])), (u1, .inl (cs 0, 200, .inl a_b)), (t2, .inr (5, [.ref n1])), (n1, .inl (cs 0, 6, .inl f_n_75)), (t3, .inl (cs 1, 6, .inl f_t_64))]) [3, 4, 5, 1, 2, 0] (by decide) rfl
              have hK9 := hK.sub (tys' := []) [] rfl
              refine W.widen (k := 0) (n := 0) (Nat.le_of_ble_eq_true rfl) (Nat.le_of_ble_eq_true rfl) ?_
              exact W.zret (v := 1) hx hb hr rfl (fun t9 ht hW => ⟨⟨_, (), rfl, (Or.inr rfl), y_ruleCount_79, y_faultKind_80, y_faultPlace_81, y_place_82, y_token_83, y_tokenPlace_84, y_value_85, f_n_75, f_t_64, by rw [ht]; exact hP9, va_K.moved hW.alike hK9, hD9⟩, hS.F ht⟩) hS.2.2 dX4_readRule_73
      · refine lv_iconst (v := 0) hx hb dX4_readRule_34 (by decide) ?_
        have hP9 := hP.part (cx := [(h0, .inr (4, [.ref t1, .ref t2, .ref t3, .int y_ruleCount_45, .int y_faultKind_46, .int y_faultPlace_47, .int y_place_48, .int y_token_49, .int y_tokenPlace_50, .int y_value_51])), (t1, .inr (7, [.ref u1, .int i_len])), (u1, .inl (cs 0, 200, .inl a_b)), (t2, .inr (5, [.ref n1])), (n1, .inl (cs 0, 6, .inl a_n)), (t3, .inl (cs 1, 6, .inl a_t))]) [5, 3, 4, 0, 1, 2] rfl
        have hD9 := hD.part (cx := [(h0, .inr (4, [.ref t1, .ref t2, .ref t3, .int y_ruleCount_45, .int y_faultKind_46, .int y_faultPlace_47, .int y_place_48, .int y_token_49, .int y_tokenPlace_50, .int y_value_51])), (t1, .inr (7, [.ref u1, .int i_len])), (u1, .inl (cs 0, 200, .inl a_b)), (t2, .inr (5, [.ref n1])), (n1, .inl (cs 0, 6, .inl a_n)), (t3, .inl (cs 1, 6, .inl a_t))]) [5, 3, 4, 0, 1, 2] (by decide) rfl
        have hK9 := hK.sub (tys' := []) [] rfl
        refine W.widen (k := 0) (n := 0) (Nat.le_of_ble_eq_true rfl) (Nat.le_of_ble_eq_true rfl) ?_
        exact W.zret (v := 0) hx hb hr rfl (fun t9 ht hW => ⟨⟨_, (), rfl, (Or.inl rfl), y_ruleCount_45, y_faultKind_46, y_faultPlace_47, y_place_48, y_token_49, y_tokenPlace_50, y_value_51, a_n, a_t, by rw [ht]; exact hP9, va_K.moved hW.alike hK9, hD9⟩, hS.F ht⟩) hS.2.2 dX4_readRule_35
  · refine lv_aload_n hx hb dX4_readRule_10 rfl (lv_at hl 1 rfl) ?_
    refine lv_iconst (v := 2) hx hb dX4_readRule_11 (by decide) ?_
    have hPc := hP.part (cx := [(h0, .inr (4, [.ref t1, .ref t2, .ref t3, .int i_ruleCount, .int i_faultKind, .int i_faultPlace, .int i_place, .int i_token, .int i_tokenPlace, .int i_value]))]) [0] rfl
    have hDc := hD.part (cx := [(h0, .inr (4, [.ref t1, .ref t2, .ref t3, .int i_ruleCount, .int i_faultKind, .int i_faultPlace, .int i_place, .int i_token, .int i_tokenPlace, .int i_value]))]) [0] (by decide) rfl
    have hKc := hK
    have hFc := va_freeP (cx := [(h0, .inr (4, [.ref t1, .ref t2, .ref t3, .int i_ruleCount, .int i_faultKind, .int i_faultPlace, .int i_place, .int i_token, .int i_tokenPlace, .int i_value]))]) hD hS hA [0] rfl
    refine va_calli (va_runV (As := [.int 2]) (rest := []) ⟨hx, hb, hml, hown, hts⟩ (e_X4_stopAtToken l dC dI cs L ka ix ad n0 n6 n2 S f h0 t1 t2 t3 i_ruleCount i_faultKind i_faultPlace i_place i_token i_tokenPlace i_value 2 s.heap.size hT) (cwV 1 hts gX4_readRule_X4_stopAtToken rfl rfl rfl (by decide +kernel) ⟨Nat.le_of_ble_eq_true rfl, Nat.le_of_ble_eq_true rfl⟩) ⟨c_blind, va_recv hKc hPc (ci := 4) (q0 := 0) rfl rfl, c_pre hPc hKc hDc hN⟩ rfl rfl hl.1 rfl (lv_room (Nat.le_of_ble_eq_true rfl)) dX4_readRule_12 ⟨Nat.le_of_ble_eq_true rfl, Nat.le_of_ble_eq_true rfl⟩) hS (fun q _ h => hFc q h) hFc (fun r_88 u9 t9 H1 locs ht hvm hw hB hz1 hk1 hS => ?_)
    obtain ⟨y_ruleCount_89, y_faultKind_90, y_faultPlace_91, y_place_92, y_token_93, y_tokenPlace_94, y_value_95, hP1, hK1, hD1⟩ := hB
    rw [ht] at hP1
    have hK1 := va_K.moved hvm.symm hK1
    obtain ⟨hP, hD⟩ := va_joinP (X := [(h0, .inr (4, [.ref t1, .ref t2, .ref t3, .int i_ruleCount, .int i_faultKind, .int i_faultPlace, .int i_place, .int i_token, .int i_tokenPlace, .int i_value])), (t1, .inr (7, [.ref u1, .int i_len])), (u1, .inl (cs 0, 200, .inl a_b)), (t2, .inr (5, [.ref n1])), (n1, .inl (cs 0, 6, .inl a_n)), (t3, .inl (cs 1, 6, .inl a_t))]) (cx := [(h0, .inr (4, [.ref t1, .ref t2, .ref t3, .int i_ruleCount, .int i_faultKind, .int i_faultPlace, .int i_place, .int i_token, .int i_tokenPlace, .int i_value]))]) (wr := [(t1, .inr (7, [.ref u1, .int i_len])), (u1, .inl (cs 0, 200, .inl a_b)), (t2, .inr (5, [.ref n1])), (n1, .inl (cs 0, 6, .inl a_n)), (t3, .inl (cs 1, 6, .inl a_t))]) (rx := [(h0, .inr (4, [.ref t1, .ref t2, .ref t3, .int y_ruleCount_89, .int y_faultKind_90, .int y_faultPlace_91, .int y_place_92, .int y_token_93, .int y_tokenPlace_94, .int y_value_95]))]) (pl := va_pl L f) (pl1 := va_pl L f) hP hD [0] [1, 2, 3, 4, 5] rfl rfl (by decide) (by decide) hk1 hFc hP1 hD1
    generalize H1 = H at hP hS ⊢
    have hP : va_P (dC, dI) vwCl ([(t1, .inr (7, [.ref u1, .int i_len])), (u1, .inl (cs 0, 200, .inl a_b)), (t2, .inr (5, [.ref n1])), (n1, .inl (cs 0, 6, .inl a_n)), (t3, .inl (cs 1, 6, .inl a_t)), (h0, .inr (4, [.ref t1, .ref t2, .ref t3, .int y_ruleCount_89, .int y_faultKind_90, .int y_faultPlace_91, .int y_place_92, .int y_token_93, .int y_tokenPlace_94, .int y_value_95]))] ++ va_pl L f) H := hP
    have hD : va_D A ([(t1, .inr (7, [.ref u1, .int i_len])), (u1, .inl (cs 0, 200, .inl a_b)), (t2, .inr (5, [.ref n1])), (n1, .inl (cs 0, 6, .inl a_n)), (t3, .inl (cs 1, 6, .inl a_t)), (h0, .inr (4, [.ref t1, .ref t2, .ref t3, .int y_ruleCount_89, .int y_faultKind_90, .int y_faultPlace_91, .int y_place_92, .int y_token_93, .int y_tokenPlace_94, .int y_value_95]))] ++ va_pl L f) := hD
    refine W.widen (k := 0) (n := 0) (Nat.le_of_ble_eq_true rfl) (Nat.le_of_ble_eq_true rfl) ?_
    have hw_96 := hw
    have hP9 := hP.part (cx := [(h0, .inr (4, [.ref t1, .ref t2, .ref t3, .int y_ruleCount_89, .int y_faultKind_90, .int y_faultPlace_91, .int y_place_92, .int y_token_93, .int y_tokenPlace_94, .int y_value_95])), (t1, .inr (7, [.ref u1, .int i_len])), (u1, .inl (cs 0, 200, .inl a_b)), (t2, .inr (5, [.ref n1])), (n1, .inl (cs 0, 6, .inl a_n)), (t3, .inl (cs 1, 6, .inl a_t))]) [5, 0, 1, 2, 3, 4] rfl
    have hD9 := hD.part (cx := [(h0, .inr (4, [.ref t1, .ref t2, .ref t3, .int y_ruleCount_89, .int y_faultKind_90, .int y_faultPlace_91, .int y_place_92, .int y_token_93, .int y_tokenPlace_94, .int y_value_95])), (t1, .inr (7, [.ref u1, .int i_len])), (u1, .inl (cs 0, 200, .inl a_b)), (t2, .inr (5, [.ref n1])), (n1, .inl (cs 0, 6, .inl a_n)), (t3, .inl (cs 1, 6, .inl a_t))]) [5, 0, 1, 2, 3, 4] (by decide) rfl
    have hK9 := hK.sub (tys' := []) [] rfl
    refine W.widen (k := 0) (n := 0) (Nat.le_of_ble_eq_true rfl) (Nat.le_of_ble_eq_true rfl) ?_
    exact W.zret (v := r_88) hx hb hr (nz01 hw_96) (fun t9 ht hW => ⟨⟨_, (), rfl, hw_96, y_ruleCount_89, y_faultKind_90, y_faultPlace_91, y_place_92, y_token_93, y_tokenPlace_94, y_value_95, a_n, a_t, by rw [ht]; exact hP9, va_K.moved hW.alike hK9, hD9⟩, hS.F ht⟩) hS.2.2 dX4_readRule_15

set_option maxHeartbeats 4000000 in
set_option maxRecDepth 100000 in
theorem e_X4_readText (l : Launch) (dC : Nat → ClassId) (dI : Nat → Nat → Nat) (cs : Nat → ClassId) (L : List Nat) (ka : Nat → Nat) (ix : Nat → Nat) (ad : Nat → Nat → Nat) (n0 : Nat) (n6 : Nat) (n2 : Nat) (S : Nat → Nat → Nat → Int32) (f : Nat → va_E) (adK : Nat → Nat) (adV : Nat → Nat) (h0 : Nat) (t1 : Nat) (t2 : Nat) (t3 : Nat) (i_ruleCount : Int32) (i_faultKind : Int32) (i_faultPlace : Int32) (i_place : Int32) (i_token : Int32) (i_tokenPlace : Int32) (i_value : Int32) (u1 : Nat) (i_len : Int32) (a_b : Nat → Int32) (n1 : Nat) (a_n : Nat → Int32) (a_t : Nat → Int32) (sz : Nat) (hT : tB L ka ix ad cs n0 n6 n2 S f) : Met l yX4_readText wsX4_readText ({ frames := 7, cells := 0, slots := 0, locals := 154 }) (va_Pc [.ref h0] (fun U => cP dC dI ([(h0, .inr (4, [.ref t1, .ref t2, .ref t3, .int i_ruleCount, .int i_faultKind, .int i_faultPlace, .int i_place, .int i_token, .int i_tokenPlace, .int i_value])), (t1, .inr (7, [.ref u1, .int i_len])), (u1, .inl (cs 0, 200, .inl a_b)), (t2, .inr (5, [.ref n1])), (n1, .inl (cs 0, 6, .inl a_n)), (t3, .inl (cs 1, 6, .inl a_t))] ++ va_pl L f) (tyC cs) sz U ∧ EV adK adV (va_A ([(h0, .inr (4, [.ref t1, .ref t2, .ref t3, .int i_ruleCount, .int i_faultKind, .int i_faultPlace, .int i_place, .int i_token, .int i_tokenPlace, .int i_value])), (t1, .inr (7, [.ref u1, .int i_len])), (u1, .inl (cs 0, 200, .inl a_b)), (t2, .inr (5, [.ref n1])), (n1, .inl (cs 0, 6, .inl a_n)), (t3, .inl (cs 1, 6, .inl a_t))] ++ va_pl L f) sz) U U.heap ∧ SR adK U)) (va_Qv (fun (_ : Unit) => True) (fun (_ : Unit) t9 => ∃ (y_ruleCount : Int32) (y_faultKind : Int32) (y_faultPlace : Int32) (y_place : Int32) (y_token : Int32) (y_tokenPlace : Int32) (y_value : Int32) (f_n : Nat → Int32) (f_t : Nat → Int32), cQ dC dI ([(h0, .inr (4, [.ref t1, .ref t2, .ref t3, .int y_ruleCount, .int y_faultKind, .int y_faultPlace, .int y_place, .int y_token, .int y_tokenPlace, .int y_value])), (t1, .inr (7, [.ref u1, .int i_len])), (u1, .inl (cs 0, 200, .inl a_b)), (t2, .inr (5, [.ref n1])), (n1, .inl (cs 0, 6, .inl f_n)), (t3, .inl (cs 1, 6, .inl f_t))] ++ va_pl L f) [] (va_A ([(h0, .inr (4, [.ref t1, .ref t2, .ref t3, .int i_ruleCount, .int i_faultKind, .int i_faultPlace, .int i_place, .int i_token, .int i_tokenPlace, .int i_value])), (t1, .inr (7, [.ref u1, .int i_len])), (u1, .inl (cs 0, 200, .inl a_b)), (t2, .inr (5, [.ref n1])), (n1, .inl (cs 0, 6, .inl a_n)), (t3, .inl (cs 1, 6, .inl a_t))] ++ va_pl L f) sz) t9) (va_A ([(h0, .inr (4, [.ref t1, .ref t2, .ref t3, .int i_ruleCount, .int i_faultKind, .int i_faultPlace, .int i_place, .int i_token, .int i_tokenPlace, .int i_value])), (t1, .inr (7, [.ref u1, .int i_len])), (u1, .inl (cs 0, 200, .inl a_b)), (t2, .inr (5, [.ref n1])), (n1, .inl (cs 0, 6, .inl a_n)), (t3, .inl (cs 1, 6, .inl a_t))] ++ va_pl L f) sz)) 0 0 (va_A ([(h0, .inr (4, [.ref t1, .ref t2, .ref t3, .int i_ruleCount, .int i_faultKind, .int i_faultPlace, .int i_place, .int i_token, .int i_tokenPlace, .int i_value])), (t1, .inr (7, [.ref u1, .int i_len])), (u1, .inl (cs 0, 200, .inl a_b)), (t2, .inr (5, [.ref n1])), (n1, .inl (cs 0, 6, .inl a_n)), (t3, .inl (cs 1, 6, .inl a_t))] ++ va_pl L f) sz) := by
  refine Met.ofW (cc := cX4_readText) (maxL := 2) (ret := none) (by decide) rfl ?_
  intro p e s m args below meth c s₁ B hml hv
  obtain ⟨rfl, ⟨hsz, hP, hK, hD0, hN⟩, hE, hR⟩ := hv
  have hx := B.exec
  have hb := B.bytes
  have hr := B.returns
  have hts := atoms_spec (ws := wsX4_readText) B.pre
  have hown : s.vm.findClass RX4 = some m.cls := findClass_of_methodNamed B.named
  have hlocks := B.notSynchronized
  subst hsz
  have hin4 : ∀ w ∈ u_ws RX4 TX4 10, w ∈ wsX4_readText := by decide +kernel
  have hD := hD0.self (sz := s.heap.size)
  generalize hAe : va_A ([(h0, .inr (4, [.ref t1, .ref t2, .ref t3, .int i_ruleCount, .int i_faultKind, .int i_faultPlace, .int i_place, .int i_token, .int i_tokenPlace, .int i_value])), (t1, .inr (7, [.ref u1, .int i_len])), (u1, .inl (cs 0, 200, .inl a_b)), (t2, .inr (5, [.ref n1])), (n1, .inl (cs 0, 6, .inl a_n)), (t3, .inl (cs 1, 6, .inl a_t))] ++ va_pl L f) s.heap.size = A at hD hE ⊢
  have hA : ∀ q : Nat, s.heap.size ≤ q → A q := fun q h => by rw [← hAe]; exact Or.inr h
  have hS : va_S A s.heap s.heap [] := va_S.rf
  have hP : va_P (dC, dI) vwCl ([(h0, .inr (4, [.ref t1, .ref t2, .ref t3, .int i_ruleCount, .int i_faultKind, .int i_faultPlace, .int i_place, .int i_token, .int i_tokenPlace, .int i_value])), (t1, .inr (7, [.ref u1, .int i_len])), (u1, .inl (cs 0, 200, .inl a_b)), (t2, .inr (5, [.ref n1])), (n1, .inl (cs 0, 6, .inl a_n)), (t3, .inl (cs 1, 6, .inl a_t))] ++ va_pl L f) s.heap := hP
  have hl := lv_entry ([.ref h0]) (n := 2) (Nat.le_of_ble_eq_true rfl)
  rw [lg_entry_eq]
  generalize (lg_sl ([.ref h0]) ++ List.replicate (2 - (lg_sl ([.ref h0])).length) Slot.unset).toArray = ls at hl ⊢
  have hl : lv_has ls 2 [(0, .ref h0)] := hl
  refine lv_aload_n hx hb dX4_readText_0 rfl (lv_at hl 0 rfl) ?_
  have hPc := hP.part (cx := [(h0, .inr (4, [.ref t1, .ref t2, .ref t3, .int i_ruleCount, .int i_faultKind, .int i_faultPlace, .int i_place, .int i_token, .int i_tokenPlace, .int i_value])), (t1, .inr (7, [.ref u1, .int i_len])), (u1, .inl (cs 0, 200, .inl a_b))]) [0, 1, 2] rfl
  have hDc := hD.part (cx := [(h0, .inr (4, [.ref t1, .ref t2, .ref t3, .int i_ruleCount, .int i_faultKind, .int i_faultPlace, .int i_place, .int i_token, .int i_tokenPlace, .int i_value])), (t1, .inr (7, [.ref u1, .int i_len])), (u1, .inl (cs 0, 200, .inl a_b))]) [0, 1, 2] (by decide) rfl
  have hKc := hK
  have hFc := va_freeP (cx := [(h0, .inr (4, [.ref t1, .ref t2, .ref t3, .int i_ruleCount, .int i_faultKind, .int i_faultPlace, .int i_place, .int i_token, .int i_tokenPlace, .int i_value])), (t1, .inr (7, [.ref u1, .int i_len])), (u1, .inl (cs 0, 200, .inl a_b))]) hD hS hA [0, 1, 2] rfl
  refine va_callv (va_runV (As := []) (rest := []) ⟨hx, hb, hml, hown, hts⟩ (e_X4_readToken l dC dI cs L ka ix ad n0 n6 n2 S f h0 t1 t2 t3 i_ruleCount i_faultKind i_faultPlace i_place i_token i_tokenPlace i_value u1 i_len a_b s.heap.size hT) (cwV 0 hts gX4_readText_X4_readToken rfl rfl rfl (by decide +kernel) ⟨Nat.le_of_ble_eq_true rfl, Nat.le_of_ble_eq_true rfl⟩) ⟨c_blind, va_recv hKc hPc (ci := 4) (q0 := 0) rfl rfl, c_pre hPc hKc hDc hN⟩ rfl rfl hl.1 rfl (lv_room (Nat.le_of_ble_eq_true rfl)) dX4_readText_1 ⟨Nat.le_of_ble_eq_true rfl, Nat.le_of_ble_eq_true rfl⟩) hS (fun q _ h => hFc q h) hFc (fun u9 t9 H1 locs ht hvm hw hB hz1 hk1 hS => ?_)
  obtain ⟨y_ruleCount_2, y_faultKind_3, y_faultPlace_4, y_place_5, y_token_6, y_tokenPlace_7, y_value_8, hP1, hK1, hD1⟩ := hB
  rw [ht] at hP1
  have hK1 := va_K.moved hvm.symm hK1
  obtain ⟨hP, hD⟩ := va_joinP (X := [(h0, .inr (4, [.ref t1, .ref t2, .ref t3, .int i_ruleCount, .int i_faultKind, .int i_faultPlace, .int i_place, .int i_token, .int i_tokenPlace, .int i_value])), (t1, .inr (7, [.ref u1, .int i_len])), (u1, .inl (cs 0, 200, .inl a_b)), (t2, .inr (5, [.ref n1])), (n1, .inl (cs 0, 6, .inl a_n)), (t3, .inl (cs 1, 6, .inl a_t))]) (cx := [(h0, .inr (4, [.ref t1, .ref t2, .ref t3, .int i_ruleCount, .int i_faultKind, .int i_faultPlace, .int i_place, .int i_token, .int i_tokenPlace, .int i_value])), (t1, .inr (7, [.ref u1, .int i_len])), (u1, .inl (cs 0, 200, .inl a_b))]) (wr := [(t2, .inr (5, [.ref n1])), (n1, .inl (cs 0, 6, .inl a_n)), (t3, .inl (cs 1, 6, .inl a_t))]) (rx := [(h0, .inr (4, [.ref t1, .ref t2, .ref t3, .int y_ruleCount_2, .int y_faultKind_3, .int y_faultPlace_4, .int y_place_5, .int y_token_6, .int y_tokenPlace_7, .int y_value_8])), (t1, .inr (7, [.ref u1, .int i_len])), (u1, .inl (cs 0, 200, .inl a_b))]) (pl := va_pl L f) (pl1 := va_pl L f) hP hD [0, 1, 2] [3, 4, 5] rfl rfl (by decide) (by decide) hk1 hFc hP1 hD1
  generalize H1 = H at hP hS ⊢
  have hP : va_P (dC, dI) vwCl ([(t2, .inr (5, [.ref n1])), (n1, .inl (cs 0, 6, .inl a_n)), (t3, .inl (cs 1, 6, .inl a_t)), (h0, .inr (4, [.ref t1, .ref t2, .ref t3, .int y_ruleCount_2, .int y_faultKind_3, .int y_faultPlace_4, .int y_place_5, .int y_token_6, .int y_tokenPlace_7, .int y_value_8])), (t1, .inr (7, [.ref u1, .int i_len])), (u1, .inl (cs 0, 200, .inl a_b))] ++ va_pl L f) H := hP
  have hD : va_D A ([(t2, .inr (5, [.ref n1])), (n1, .inl (cs 0, 6, .inl a_n)), (t3, .inl (cs 1, 6, .inl a_t)), (h0, .inr (4, [.ref t1, .ref t2, .ref t3, .int y_ruleCount_2, .int y_faultKind_3, .int y_faultPlace_4, .int y_place_5, .int y_token_6, .int y_tokenPlace_7, .int y_value_8])), (t1, .inr (7, [.ref u1, .int i_len])), (u1, .inl (cs 0, 200, .inl a_b))] ++ va_pl L f) := hD
  refine W.widen (k := 0) (n := 0) (Nat.le_of_ble_eq_true rfl) (Nat.le_of_ble_eq_true rfl) ?_
  refine lv_iconst (v := 0) hx hb dX4_readText_4 (by decide) ?_
  refine lv_istore_n (lv' := [(1, .int 0), (0, .ref h0)]) hx hb dX4_readText_5 rfl hl (by decide) rfl (fun ls hl => ?_)
  have HL : ∀ (n k : Nat) (z_ruleCount : Int32) (z_faultKind : Int32) (z_faultPlace : Int32) (z_place : Int32) (z_token : Int32) (z_tokenPlace : Int32) (z_value : Int32) (g_n : Nat → Int32) (g_t : Nat → Int32), k ≤ 7 → 7 + 1 ≤ k + n → ∀ (H : Heap) (locs : List Loc), va_P (dC, dI) vwCl ([(h0, .inr (4, [.ref t1, .ref t2, .ref t3, .int z_ruleCount, .int z_faultKind, .int z_faultPlace, .int z_place, .int z_token, .int z_tokenPlace, .int z_value])), (t1, .inr (7, [.ref u1, .int i_len])), (u1, .inl (cs 0, 200, .inl a_b)), (t2, .inr (5, [.ref n1])), (n1, .inl (cs 0, 6, .inl g_n)), (t3, .inl (cs 1, 6, .inl g_t))] ++ va_pl L f) H → va_D A ([(h0, .inr (4, [.ref t1, .ref t2, .ref t3, .int z_ruleCount, .int z_faultKind, .int z_faultPlace, .int z_place, .int z_token, .int z_tokenPlace, .int z_value])), (t1, .inr (7, [.ref u1, .int i_len])), (u1, .inl (cs 0, 200, .inl a_b)), (t2, .inr (5, [.ref n1])), (n1, .inl (cs 0, 6, .inl g_n)), (t3, .inl (cs 1, 6, .inl g_t))] ++ va_pl L f) → va_S A s.heap H locs → ∀ ls : Array Slot, lv_has ls 2 [(0, .ref h0), (1, .int (nI k))] → W p l e (headSpec wsX4_readText ({ frames := 7, cells := 0, slots := 0, locals := 154 })).room s m ([.ref h0]).toArray below meth c H locs 0 0 (MQ below (va_Qv (fun (_ : Unit) => True) (fun (_ : Unit) t9 => ∃ (y_ruleCount : Int32) (y_faultKind : Int32) (y_faultPlace : Int32) (y_place : Int32) (y_token : Int32) (y_tokenPlace : Int32) (y_value : Int32) (f_n : Nat → Int32) (f_t : Nat → Int32), cQ dC dI ([(h0, .inr (4, [.ref t1, .ref t2, .ref t3, .int y_ruleCount, .int y_faultKind, .int y_faultPlace, .int y_place, .int y_token, .int y_tokenPlace, .int y_value])), (t1, .inr (7, [.ref u1, .int i_len])), (u1, .inl (cs 0, 200, .inl a_b)), (t2, .inr (5, [.ref n1])), (n1, .inl (cs 0, 6, .inl f_n)), (t3, .inl (cs 1, 6, .inl f_t))] ++ va_pl L f) [] A t9) A) ([.ref h0]).toArray s 0 0 A) (F0 m 6 ls []) := by
    intro n
    induction n with
    | zero => intro k z_ruleCount z_faultKind z_faultPlace z_place z_token z_tokenPlace z_value g_n g_t h1 h2; exact absurd h2 (by omega)
    | succ n ih =>
      intro k z_ruleCount z_faultKind z_faultPlace z_place z_token z_tokenPlace z_value g_n g_t hk hn H locs hP hD hS ls hl
      refine lv_iload_n hx hb dX4_readText_6 rfl (lv_at hl 1 rfl) ?_
      refine lv_bipush (v := 6) hx hb dX4_readText_7 (by decide) ?_
      refine lv_icmp_gt (tgt := 43) hx hb dX4_readText_9 (by decide) (fun c_9 => ?_) (fun c_9 => ?_)
      · have hP9 := hP.part (cx := [(h0, .inr (4, [.ref t1, .ref t2, .ref t3, .int z_ruleCount, .int z_faultKind, .int z_faultPlace, .int z_place, .int z_token, .int z_tokenPlace, .int z_value])), (t1, .inr (7, [.ref u1, .int i_len])), (u1, .inl (cs 0, 200, .inl a_b)), (t2, .inr (5, [.ref n1])), (n1, .inl (cs 0, 6, .inl g_n)), (t3, .inl (cs 1, 6, .inl g_t))]) [0, 1, 2, 3, 4, 5] rfl
        have hD9 := hD.part (cx := [(h0, .inr (4, [.ref t1, .ref t2, .ref t3, .int z_ruleCount, .int z_faultKind, .int z_faultPlace, .int z_place, .int z_token, .int z_tokenPlace, .int z_value])), (t1, .inr (7, [.ref u1, .int i_len])), (u1, .inl (cs 0, 200, .inl a_b)), (t2, .inr (5, [.ref n1])), (n1, .inl (cs 0, 6, .inl g_n)), (t3, .inl (cs 1, 6, .inl g_t))]) [0, 1, 2, 3, 4, 5] (by decide) rfl
        have hK9 := hK.sub (tys' := []) [] rfl
        refine W.widen (k := 0) (n := 0) (Nat.le_of_ble_eq_true rfl) (Nat.le_of_ble_eq_true rfl) ?_
        exact W.vret hx hb hr (fun t9 ht hW => ⟨⟨(), rfl, trivial, z_ruleCount, z_faultKind, z_faultPlace, z_place, z_token, z_tokenPlace, z_value, g_n, g_t, by rw [ht]; exact hP9, va_K.moved hW.alike hK9, hD9⟩, hS.F ht⟩) hS.2.2 dX4_readText_43
      · refine lv_aload_n hx hb dX4_readText_12 rfl (lv_at hl 0 rfl) ?_
        refine va_get (D := (dC, dI)) (ci := 4) (v := .int z_token) (C := RX4) (T := TX4) (N := 10) hx hb hts hin4 hown hK hP 0 rfl rfl 7 (by decide) (hts (.fieldLink RX4 29 "YamRiders$StatuteReader" "token" "I") (by decide +kernel)) (fun _ h9 => h9) rfl dX4_readText_13 ?_
        refine lv_if_eq (tgt := 26) hx hb dX4_readText_16 (by decide) (fun c_10 => ?_) (fun c_10 => ?_)
        · have hP9 := hP.part (cx := [(h0, .inr (4, [.ref t1, .ref t2, .ref t3, .int z_ruleCount, .int z_faultKind, .int z_faultPlace, .int z_place, .int z_token, .int z_tokenPlace, .int z_value])), (t1, .inr (7, [.ref u1, .int i_len])), (u1, .inl (cs 0, 200, .inl a_b)), (t2, .inr (5, [.ref n1])), (n1, .inl (cs 0, 6, .inl g_n)), (t3, .inl (cs 1, 6, .inl g_t))]) [0, 1, 2, 3, 4, 5] rfl
          have hD9 := hD.part (cx := [(h0, .inr (4, [.ref t1, .ref t2, .ref t3, .int z_ruleCount, .int z_faultKind, .int z_faultPlace, .int z_place, .int z_token, .int z_tokenPlace, .int z_value])), (t1, .inr (7, [.ref u1, .int i_len])), (u1, .inl (cs 0, 200, .inl a_b)), (t2, .inr (5, [.ref n1])), (n1, .inl (cs 0, 6, .inl g_n)), (t3, .inl (cs 1, 6, .inl g_t))]) [0, 1, 2, 3, 4, 5] (by decide) rfl
          have hK9 := hK.sub (tys' := []) [] rfl
          refine W.widen (k := 0) (n := 0) (Nat.le_of_ble_eq_true rfl) (Nat.le_of_ble_eq_true rfl) ?_
          exact W.vret hx hb hr (fun t9 ht hW => ⟨⟨(), rfl, trivial, z_ruleCount, z_faultKind, z_faultPlace, z_place, z_token, z_tokenPlace, z_value, g_n, g_t, by rw [ht]; exact hP9, va_K.moved hW.alike hK9, hD9⟩, hS.F ht⟩) hS.2.2 dX4_readText_26
        · refine lv_aload_n hx hb dX4_readText_19 rfl (lv_at hl 0 rfl) ?_
          have hPc := hP.part (cx := [(h0, .inr (4, [.ref t1, .ref t2, .ref t3, .int z_ruleCount, .int z_faultKind, .int z_faultPlace, .int z_place, .int z_token, .int z_tokenPlace, .int z_value])), (t1, .inr (7, [.ref u1, .int i_len])), (u1, .inl (cs 0, 200, .inl a_b)), (t2, .inr (5, [.ref n1])), (n1, .inl (cs 0, 6, .inl g_n)), (t3, .inl (cs 1, 6, .inl g_t))]) [0, 1, 2, 3, 4, 5] rfl
          have hDc := hD.part (cx := [(h0, .inr (4, [.ref t1, .ref t2, .ref t3, .int z_ruleCount, .int z_faultKind, .int z_faultPlace, .int z_place, .int z_token, .int z_tokenPlace, .int z_value])), (t1, .inr (7, [.ref u1, .int i_len])), (u1, .inl (cs 0, 200, .inl a_b)), (t2, .inr (5, [.ref n1])), (n1, .inl (cs 0, 6, .inl g_n)), (t3, .inl (cs 1, 6, .inl g_t))]) [0, 1, 2, 3, 4, 5] (by decide) rfl
          have hKc := hK
          have hFc := va_freeP (cx := [(h0, .inr (4, [.ref t1, .ref t2, .ref t3, .int z_ruleCount, .int z_faultKind, .int z_faultPlace, .int z_place, .int z_token, .int z_tokenPlace, .int z_value])), (t1, .inr (7, [.ref u1, .int i_len])), (u1, .inl (cs 0, 200, .inl a_b)), (t2, .inr (5, [.ref n1])), (n1, .inl (cs 0, 6, .inl g_n)), (t3, .inl (cs 1, 6, .inl g_t))]) hD hS hA [0, 1, 2, 3, 4, 5] rfl
          refine va_calli (va_runV (As := []) (rest := []) ⟨hx, hb, hml, hown, hts⟩ (e_X4_readRule l dC dI cs L ka ix ad n0 n6 n2 S f adK adV h0 t1 t2 t3 z_ruleCount z_faultKind z_faultPlace z_place z_token z_tokenPlace z_value u1 i_len a_b n1 g_n g_t H.size hT) (cwV 0 hts gX4_readText_X4_readRule rfl rfl rfl (by decide +kernel) ⟨Nat.le_of_ble_eq_true rfl, Nat.le_of_ble_eq_true rfl⟩) ⟨e_blind, va_recv hKc hPc (ci := 4) (q0 := 0) rfl rfl, e_pre hPc hKc hDc hN (hE.kept hS.2.1) hFc hR⟩ rfl rfl hl.1 rfl (lv_room (Nat.le_of_ble_eq_true rfl)) dX4_readText_20 ⟨Nat.le_of_ble_eq_true rfl, Nat.le_of_ble_eq_true rfl⟩) hS (fun q _ h => hFc q h) hFc (fun r_11 u9 t9 H1 locs ht hvm hw hB hz1 hk1 hS => ?_)
          obtain ⟨y_ruleCount_12, y_faultKind_13, y_faultPlace_14, y_place_15, y_token_16, y_tokenPlace_17, y_value_18, f_n_19, f_t_20, hP1, hK1, hD1⟩ := hB
          rw [ht] at hP1
          have hK1 := va_K.moved hvm.symm hK1
          obtain ⟨hP, hD⟩ := va_joinP (X := [(h0, .inr (4, [.ref t1, .ref t2, .ref t3, .int z_ruleCount, .int z_faultKind, .int z_faultPlace, .int z_place, .int z_token, .int z_tokenPlace, .int z_value])), (t1, .inr (7, [.ref u1, .int i_len])), (u1, .inl (cs 0, 200, .inl a_b)), (t2, .inr (5, [.ref n1])), (n1, .inl (cs 0, 6, .inl g_n)), (t3, .inl (cs 1, 6, .inl g_t))]) (cx := [(h0, .inr (4, [.ref t1, .ref t2, .ref t3, .int z_ruleCount, .int z_faultKind, .int z_faultPlace, .int z_place, .int z_token, .int z_tokenPlace, .int z_value])), (t1, .inr (7, [.ref u1, .int i_len])), (u1, .inl (cs 0, 200, .inl a_b)), (t2, .inr (5, [.ref n1])), (n1, .inl (cs 0, 6, .inl g_n)), (t3, .inl (cs 1, 6, .inl g_t))]) (wr := []) (rx := [(h0, .inr (4, [.ref t1, .ref t2, .ref t3, .int y_ruleCount_12, .int y_faultKind_13, .int y_faultPlace_14, .int y_place_15, .int y_token_16, .int y_tokenPlace_17, .int y_value_18])), (t1, .inr (7, [.ref u1, .int i_len])), (u1, .inl (cs 0, 200, .inl a_b)), (t2, .inr (5, [.ref n1])), (n1, .inl (cs 0, 6, .inl f_n_19)), (t3, .inl (cs 1, 6, .inl f_t_20))]) (pl := va_pl L f) (pl1 := va_pl L f) hP hD [0, 1, 2, 3, 4, 5] [] rfl rfl (by decide) (by decide) hk1 hFc hP1 hD1
          generalize H1 = H at hP hS ⊢
          have hP : va_P (dC, dI) vwCl ([(h0, .inr (4, [.ref t1, .ref t2, .ref t3, .int y_ruleCount_12, .int y_faultKind_13, .int y_faultPlace_14, .int y_place_15, .int y_token_16, .int y_tokenPlace_17, .int y_value_18])), (t1, .inr (7, [.ref u1, .int i_len])), (u1, .inl (cs 0, 200, .inl a_b)), (t2, .inr (5, [.ref n1])), (n1, .inl (cs 0, 6, .inl f_n_19)), (t3, .inl (cs 1, 6, .inl f_t_20))] ++ va_pl L f) H := hP
          have hD : va_D A ([(h0, .inr (4, [.ref t1, .ref t2, .ref t3, .int y_ruleCount_12, .int y_faultKind_13, .int y_faultPlace_14, .int y_place_15, .int y_token_16, .int y_tokenPlace_17, .int y_value_18])), (t1, .inr (7, [.ref u1, .int i_len])), (u1, .inl (cs 0, 200, .inl a_b)), (t2, .inr (5, [.ref n1])), (n1, .inl (cs 0, 6, .inl f_n_19)), (t3, .inl (cs 1, 6, .inl f_t_20))] ++ va_pl L f) := hD
          refine W.widen (k := 0) (n := 0) (Nat.le_of_ble_eq_true rfl) (Nat.le_of_ble_eq_true rfl) ?_
          have hw_21 := hw
          refine lv_if_ne (tgt := 27) hx hb dX4_readText_23 (by decide) (fun c_22 => ?_) (fun c_22 => ?_)
          · refine lv_aload_n hx hb dX4_readText_27 rfl (lv_at hl 0 rfl) ?_
            refine lv_dup hx hb dX4_readText_28 rfl ?_
            refine va_get (D := (dC, dI)) (ci := 4) (v := .int y_ruleCount_12) (C := RX4) (T := TX4) (N := 10) hx hb hts hin4 hown hK hP 0 rfl rfl 3 (by decide) (hts (.fieldLink RX4 37 "YamRiders$StatuteReader" "ruleCount" "I") (by decide +kernel)) (fun _ h9 => h9) rfl dX4_readText_29 ?_
            refine lv_iconst (v := 1) hx hb dX4_readText_32 (by decide) ?_
            refine lv_iadd hx hb dX4_readText_33 ?_
            refine lv_topi (fun v_23 ev_23 => ?_)
            refine va_put (D := (dC, dI)) (ci := 4) (v := .int v_23) (ty := (tyX4 3)) (C := RX4) (T := TX4) (N := 10) hx hb hts hin4 tyX4 tyX4_ok nmX4 hown hK hP hD hS 0 rfl rfl 3 (by decide) (hts (.fieldLink RX4 37 "YamRiders$StatuteReader" "ruleCount" "I") (by decide +kernel)) (fun _ h9 => h9) rfl (by decide +kernel) rfl rfl (Nat.le_of_ble_eq_true rfl) dX4_readText_34 (fun H locs hP hD hS => ?_)
            have hP : va_P (dC, dI) vwCl ([(h0, .inr (4, [.ref t1, .ref t2, .ref t3, .int v_23, .int y_faultKind_13, .int y_faultPlace_14, .int y_place_15, .int y_token_16, .int y_tokenPlace_17, .int y_value_18])), (t1, .inr (7, [.ref u1, .int i_len])), (u1, .inl (cs 0, 200, .inl a_b)), (t2, .inr (5, [.ref n1])), (n1, .inl (cs 0, 6, .inl f_n_19)), (t3, .inl (cs 1, 6, .inl f_t_20))] ++ va_pl L f) H := hP
            have hD : va_D A ([(h0, .inr (4, [.ref t1, .ref t2, .ref t3, .int v_23, .int y_faultKind_13, .int y_faultPlace_14, .int y_place_15, .int y_token_16, .int y_tokenPlace_17, .int y_value_18])), (t1, .inr (7, [.ref u1, .int i_len])), (u1, .inl (cs 0, 200, .inl a_b)), (t2, .inr (5, [.ref n1])), (n1, .inl (cs 0, 6, .inl f_n_19)), (t3, .inl (cs 1, 6, .inl f_t_20))] ++ va_pl L f) := hD
            refine lv_iinc (v := nI (k + 1)) (lv' := [(1, .int (nI (k + 1))), (0, .ref h0)]) hx hb dX4_readText_37 hl (k := 1) rfl (by exact (nI_1 k)) (by decide) rfl (fun ls hl => ?_)
            refine lv_goto (tgt := 6) hx hb dX4_readText_40 (by decide) ?_
            have hk6 : k ≤ 6 := gt_n (n := 6) c_9 (by decide) (by omega)
            exact ih (k + 1) v_23 y_faultKind_13 y_faultPlace_14 y_place_15 y_token_16 y_tokenPlace_17 y_value_18 f_n_19 f_t_20 (by omega) (by omega) _ _ (hP.part (cx := _) [0, 1, 2, 3, 4, 5] rfl) (hD.part (cx := _) [0, 1, 2, 3, 4, 5] (by decide) rfl) hS ls (lv_sub hl [1, 0] rfl)
          · have hP9 := hP.part (cx := [(h0, .inr (4, [.ref t1, .ref t2, .ref t3, .int y_ruleCount_12, .int y_faultKind_13, .int y_faultPlace_14, .int y_place_15, .int y_token_16, .int y_tokenPlace_17, .int y_value_18])), (t1, .inr (7, [.ref u1, .int i_len])), (u1, .inl (cs 0, 200, .inl a_b)), (t2, .inr (5, [.ref n1])), (n1, .inl (cs 0, 6, .inl f_n_19)), (t3, .inl (cs 1, 6, .inl f_t_20))]) [0, 1, 2, 3, 4, 5] rfl
            have hD9 := hD.part (cx := [(h0, .inr (4, [.ref t1, .ref t2, .ref t3, .int y_ruleCount_12, .int y_faultKind_13, .int y_faultPlace_14, .int y_place_15, .int y_token_16, .int y_tokenPlace_17, .int y_value_18])), (t1, .inr (7, [.ref u1, .int i_len])), (u1, .inl (cs 0, 200, .inl a_b)), (t2, .inr (5, [.ref n1])), (n1, .inl (cs 0, 6, .inl f_n_19)), (t3, .inl (cs 1, 6, .inl f_t_20))]) [0, 1, 2, 3, 4, 5] (by decide) rfl
            have hK9 := hK.sub (tys' := []) [] rfl
            refine W.widen (k := 0) (n := 0) (Nat.le_of_ble_eq_true rfl) (Nat.le_of_ble_eq_true rfl) ?_
            exact W.vret hx hb hr (fun t9 ht hW => ⟨⟨(), rfl, trivial, y_ruleCount_12, y_faultKind_13, y_faultPlace_14, y_place_15, y_token_16, y_tokenPlace_17, y_value_18, f_n_19, f_t_20, by rw [ht]; exact hP9, va_K.moved hW.alike hK9, hD9⟩, hS.F ht⟩) hS.2.2 dX4_readText_26
  exact HL 8 0 y_ruleCount_2 y_faultKind_3 y_faultPlace_4 y_place_5 y_token_6 y_tokenPlace_7 y_value_8 a_n a_t (by omega) (by omega) _ _ (hP.part (cx := _) [3, 4, 5, 0, 1, 2] rfl) (hD.part (cx := _) [3, 4, 5, 0, 1, 2] (by decide) rfl) hS ls (lv_sub hl [1, 0] rfl)
