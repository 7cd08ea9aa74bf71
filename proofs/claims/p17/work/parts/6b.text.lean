def sp_pk (f : Nat → Int32) (sz p : Nat) : Int32 := if sz ≤ p then -1 else f p &&& 255
def sp_sm (x : Int32) : Int32 := if x < 97 then 0 else if 122 < x then 0 else 1
def sp_dg (x : Int32) : Int32 := if x < 48 then 0 else if 57 < x then 0 else 1
theorem pk_no {f : Nat → Int32} {sz p : Nat} (h : ¬ p < sz) : sp_pk f sz p = -1 := by
  unfold sp_pk; rw [if_pos (by omega)]
theorem pk_l32 {f : Nat → Int32} {sz p : Nat} (h : sp_pk f sz p = 32) : p < sz := Decidable.byContradiction fun q => by rw [pk_no q] at h; exact absurd h (by decide)
theorem pk_l10 {f : Nat → Int32} {sz p : Nat} (h : sp_pk f sz p = 10) : p < sz := Decidable.byContradiction fun q => by rw [pk_no q] at h; exact absurd h (by decide)
theorem pk_l0 {f : Nat → Int32} {sz p : Nat} (h : 0 ≤ sp_pk f sz p) : p < sz := Decidable.byContradiction fun q => by rw [pk_no q] at h; exact absurd h (by decide)
theorem pk_sm {f : Nat → Int32} {sz p : Nat} (h : ¬ sp_sm (sp_pk f sz p) = 0) : p < sz := Decidable.byContradiction fun q => by rw [pk_no q] at h; exact absurd (by decide) h
theorem pk_dg {f : Nat → Int32} {sz p : Nat} (h : ¬ sp_dg (sp_pk f sz p) = 0) : p < sz := Decidable.byContradiction fun q => by rw [pk_no q] at h; exact absurd (by decide) h
theorem pk_leaf1 {f : Nat → Int32} {sz p : Nat} (hs : sz ≤ 200) (hp : p ≤ 200) (c : nI sz ≤ nI p) : -1 = sp_pk f sz p := by
  unfold sp_pk; rw [if_pos ((nI_leI (by omega) (by omega)).mp c)]
theorem pk_leaf2 {f : Nat → Int32} {sz p : Nat} (hs : sz ≤ 200) (hp : p ≤ 200) (c : ¬ nI sz ≤ nI p) : f (nI p).toNatClampNeg &&& 255 = sp_pk f sz p := by
  unfold sp_pk; rw [if_neg (fun q => c ((nI_leI (by omega) (by omega)).mpr q)), nI_clamp (by omega)]
theorem pkt_in {sz p : Nat} (hs : sz ≤ 200) (c : ¬ nI sz ≤ nI p) (hp : p ≤ 200) : vp_in (nI p) 200 := vp_in_nI (Decidable.byContradiction fun q => c (nI_le (by omega) (by omega))) (by decide)
theorem nx_adv {f : Nat → Int32} {sz a b : Nat} (h : a ≤ b) (he : ¬ (sp_sm (sp_pk f sz a) = 0 ∧ sp_dg (sp_pk f sz a) = 0)) (h1 : sp_sm (sp_pk f sz b) = 0) (h2 : sp_dg (sp_pk f sz b) = 0) : a < b := by
  rcases Nat.lt_or_ge a b with q | q
  · exact q
  · rw [show a = b by omega] at he; exact absurd ⟨h1, h2⟩ he

set_option maxHeartbeats 4000000 in
set_option maxRecDepth 100000 in
theorem g_X9_isSmall (l : Launch) (dC : Nat → ClassId) (dI : Nat → Nat → Nat) (p0 : Int32) (sz : Nat) : Met l yX9_isSmall wsX9_isSmall ({ frames := 0, cells := 0, slots := 0, locals := 0 }) (va_Pc [.int p0] (cP dC dI [] [] sz)) (vp_Si (fun r => r = sp_sm p0)) 0 0 (fun _ => False) := by
  refine Met.ofW (cc := cX9_isSmall) (maxL := 1) (ret := (some .boolean)) (by decide) rfl ?_
  intro p e s m args below meth c s₁ B hml hv
  obtain ⟨rfl, hsz, hP, hK, hD0, hN⟩ := hv
  have hx := B.exec
  have hb := B.bytes
  have hr := B.returns
  have hts := atoms_spec (ws := wsX9_isSmall) B.pre
  have hown : s.vm.findClass RX9 = some m.cls := findClass_of_methodNamed B.named
  have hlocks := B.notSynchronized
  subst hsz
  have hD := hD0
  have hP : va_P (dC, dI) vwCl [] s.heap := hP
  have hl := lv_entry ([.int p0]) (n := 1) (Nat.le_of_ble_eq_true rfl)
  rw [lg_entry_eq]
  generalize (lg_sl ([.int p0]) ++ List.replicate (1 - (lg_sl ([.int p0])).length) Slot.unset).toArray = ls at hl ⊢
  have hl : lv_has ls 1 [(0, .int p0)] := hl
  refine lv_iload_n hx hb dX9_isSmall_0 rfl (lv_at hl 0 rfl) ?_
  refine lv_bipush (v := 97) hx hb dX9_isSmall_1 (by decide) ?_
  refine lv_icmp_lt (tgt := 16) hx hb dX9_isSmall_3 (by decide) (fun c_1 => ?_) (fun c_1 => ?_)
  · refine lv_iconst (v := 0) hx hb dX9_isSmall_16 (by decide) ?_
    exact W.zret (v := 0) hx hb hr rfl (fun t9 ht hW => ⟨_, rfl, (by unfold sp_sm; rw [if_pos c_1]), ht⟩) (fun q h => nomatch h) dX9_isSmall_17
  · refine lv_iload_n hx hb dX9_isSmall_6 rfl (lv_at hl 0 rfl) ?_
    refine lv_bipush (v := 122) hx hb dX9_isSmall_7 (by decide) ?_
    refine lv_icmp_gt (tgt := 16) hx hb dX9_isSmall_9 (by decide) (fun c_2 => ?_) (fun c_2 => ?_)
    · refine lv_iconst (v := 0) hx hb dX9_isSmall_16 (by decide) ?_
      exact W.zret (v := 0) hx hb hr rfl (fun t9 ht hW => ⟨_, rfl, (by unfold sp_sm; rw [if_neg c_1, if_pos c_2]), ht⟩) (fun q h => nomatch h) dX9_isSmall_17
    · refine lv_iconst (v := 1) hx hb dX9_isSmall_12 (by decide) ?_
      refine lv_goto (tgt := 17) hx hb dX9_isSmall_13 (by decide) ?_
      exact W.zret (v := 1) hx hb hr rfl (fun t9 ht hW => ⟨_, rfl, (by unfold sp_sm; rw [if_neg c_1, if_neg c_2]), ht⟩) (fun q h => nomatch h) dX9_isSmall_17

set_option maxHeartbeats 4000000 in
set_option maxRecDepth 100000 in
theorem g_X9_isDigit (l : Launch) (dC : Nat → ClassId) (dI : Nat → Nat → Nat) (p0 : Int32) (sz : Nat) : Met l yX9_isDigit wsX9_isDigit ({ frames := 0, cells := 0, slots := 0, locals := 0 }) (va_Pc [.int p0] (cP dC dI [] [] sz)) (vp_Si (fun r => r = sp_dg p0)) 0 0 (fun _ => False) := by
  refine Met.ofW (cc := cX9_isDigit) (maxL := 1) (ret := (some .boolean)) (by decide) rfl ?_
  intro p e s m args below meth c s₁ B hml hv
  obtain ⟨rfl, hsz, hP, hK, hD0, hN⟩ := hv
  have hx := B.exec
  have hb := B.bytes
  have hr := B.returns
  have hts := atoms_spec (ws := wsX9_isDigit) B.pre
  have hown : s.vm.findClass RX9 = some m.cls := findClass_of_methodNamed B.named
  have hlocks := B.notSynchronized
  subst hsz
  have hD := hD0
  have hP : va_P (dC, dI) vwCl [] s.heap := hP
  have hl := lv_entry ([.int p0]) (n := 1) (Nat.le_of_ble_eq_true rfl)
  rw [lg_entry_eq]
  generalize (lg_sl ([.int p0]) ++ List.replicate (1 - (lg_sl ([.int p0])).length) Slot.unset).toArray = ls at hl ⊢
  have hl : lv_has ls 1 [(0, .int p0)] := hl
  refine lv_iload_n hx hb dX9_isDigit_0 rfl (lv_at hl 0 rfl) ?_
  refine lv_bipush (v := 48) hx hb dX9_isDigit_1 (by decide) ?_
  refine lv_icmp_lt (tgt := 16) hx hb dX9_isDigit_3 (by decide) (fun c_1 => ?_) (fun c_1 => ?_)
  · refine lv_iconst (v := 0) hx hb dX9_isDigit_16 (by decide) ?_
    exact W.zret (v := 0) hx hb hr rfl (fun t9 ht hW => ⟨_, rfl, (by unfold sp_dg; rw [if_pos c_1]), ht⟩) (fun q h => nomatch h) dX9_isDigit_17
  · refine lv_iload_n hx hb dX9_isDigit_6 rfl (lv_at hl 0 rfl) ?_
    refine lv_bipush (v := 57) hx hb dX9_isDigit_7 (by decide) ?_
    refine lv_icmp_gt (tgt := 16) hx hb dX9_isDigit_9 (by decide) (fun c_2 => ?_) (fun c_2 => ?_)
    · refine lv_iconst (v := 0) hx hb dX9_isDigit_16 (by decide) ?_
      exact W.zret (v := 0) hx hb hr rfl (fun t9 ht hW => ⟨_, rfl, (by unfold sp_dg; rw [if_neg c_1, if_pos c_2]), ht⟩) (fun q h => nomatch h) dX9_isDigit_17
    · refine lv_iconst (v := 1) hx hb dX9_isDigit_12 (by decide) ?_
      refine lv_goto (tgt := 17) hx hb dX9_isDigit_13 (by decide) ?_
      exact W.zret (v := 1) hx hb hr rfl (fun t9 ht hW => ⟨_, rfl, (by unfold sp_dg; rw [if_neg c_1, if_neg c_2]), ht⟩) (fun q h => nomatch h) dX9_isDigit_17

set_option maxHeartbeats 4000000 in
set_option maxRecDepth 100000 in
theorem g_X9_peek (l : Launch) (dC : Nat → ClassId) (dI : Nat → Nat → Nat) (h0 : Nat) (m1 : Nat) (m5 : Nat) (m6 : Nat) (m7 : Nat) (m15 : Nat) (m16 : Nat) (m17 : Nat) (m18 : Nat) (m19 : Nat) (m20 : Nat) (m22 : Nat) (m23 : Nat) (m24 : Nat) (m25 : Nat) (m26 : Nat) (m27 : Nat) (m28 : Nat) (m29 : Nat) (m30 : Nat) (m31 : Nat) (m32 : Nat) (m33 : Nat) (m34 : Nat) (m37 : Nat) (m38 : Nat) (m39 : Nat) (m40 : Nat) (m41 : Nat) (m42 : Nat) (m43 : Nat) (m44 : Nat) (m45 : Nat) (m46 : Nat) (i_thrown : Int32) (i_length : Int32) (i_token : Int32) (i_at : Int32) (i_number : Int32) (i_fault : Int32) (i_faultAt : Int32) (i_hour : Int32) (i_horses : Int32) (i_tablets : Int32) (i_riders : Int32) (i_word : Int64) (k_tape : ClassId) (a_tape : Nat → Int32) (sz9 : Nat) (p9 : Nat) (sz : Nat) (hsz : sz9 ≤ 200) (hp9 : p9 ≤ 200) : Met l yX9_peek wsX9_peek ({ frames := 0, cells := 0, slots := 0, locals := 0 }) (va_Pc [.ref h0] (cP dC dI [(h0, .inr (9, [.int i_thrown, .ref m1, .int i_length, .int (nI sz9), .int (nI p9), .ref m5, .ref m6, .ref m7, .int i_token, .int i_at, .int i_number, .int i_fault, .int i_faultAt, .int i_hour, .long i_word, .ref m15, .ref m16, .ref m17, .ref m18, .ref m19, .ref m20, .int i_horses, .ref m22, .ref m23, .ref m24, .ref m25, .ref m26, .ref m27, .ref m28, .ref m29, .ref m30, .ref m31, .ref m32, .ref m33, .ref m34, .int i_tablets, .int i_riders, .ref m37, .ref m38, .ref m39, .ref m40, .ref m41, .ref m42, .ref m43, .ref m44, .ref m45, .ref m46])), (m1, .inl (k_tape, 200, .inl a_tape))] [(k_tape, .byte)] sz)) (vp_Si (fun r => r = sp_pk a_tape sz9 p9)) 0 0 (fun _ => False) := by
  refine Met.ofW (cc := cX9_peek) (maxL := 1) (ret := (some .int)) (by decide) rfl ?_
  intro p e s m args below meth c s₁ B hml hv
  obtain ⟨rfl, hsz, hP, hK, hD0, hN⟩ := hv
  have hx := B.exec
  have hb := B.bytes
  have hr := B.returns
  have hts := atoms_spec (ws := wsX9_peek) B.pre
  have hown : s.vm.findClass RX9 = some m.cls := findClass_of_methodNamed B.named
  have hlocks := B.notSynchronized
  subst hsz
  have hin9 : ∀ w ∈ u_ws RX9 TX9 47, w ∈ wsX9_peek := by decide +kernel
  have hD := hD0
  have hP : va_P (dC, dI) vwCl [(h0, .inr (9, [.int i_thrown, .ref m1, .int i_length, .int (nI sz9), .int (nI p9), .ref m5, .ref m6, .ref m7, .int i_token, .int i_at, .int i_number, .int i_fault, .int i_faultAt, .int i_hour, .long i_word, .ref m15, .ref m16, .ref m17, .ref m18, .ref m19, .ref m20, .int i_horses, .ref m22, .ref m23, .ref m24, .ref m25, .ref m26, .ref m27, .ref m28, .ref m29, .ref m30, .ref m31, .ref m32, .ref m33, .ref m34, .int i_tablets, .int i_riders, .ref m37, .ref m38, .ref m39, .ref m40, .ref m41, .ref m42, .ref m43, .ref m44, .ref m45, .ref m46])), (m1, .inl (k_tape, 200, .inl a_tape))] s.heap := hP
  have hl := lv_entry ([.ref h0]) (n := 1) (Nat.le_of_ble_eq_true rfl)
  rw [lg_entry_eq]
  generalize (lg_sl ([.ref h0]) ++ List.replicate (1 - (lg_sl ([.ref h0])).length) Slot.unset).toArray = ls at hl ⊢
  have hl : lv_has ls 1 [(0, .ref h0)] := hl
  refine lv_aload_n hx hb dX9_peek_0 rfl (lv_at hl 0 rfl) ?_
  refine va_get (D := (dC, dI)) (ci := 9) (v := .int (nI p9)) (C := RX9) (T := TX9) (N := 47) hx hb hts hin9 hown hK hP 0 rfl rfl 4 (by decide) (hts (.fieldLink RX9 125 "YamRidersModel" "p" "I") (by decide +kernel)) (fun _ h9 => h9) rfl dX9_peek_1 ?_
  refine lv_aload_n hx hb dX9_peek_4 rfl (lv_at hl 0 rfl) ?_
  refine va_get (D := (dC, dI)) (ci := 9) (v := .int (nI sz9)) (C := RX9) (T := TX9) (N := 47) hx hb hts hin9 hown hK hP 0 rfl rfl 3 (by decide) (hts (.fieldLink RX9 122 "YamRidersModel" "size" "I") (by decide +kernel)) (fun _ h9 => h9) rfl dX9_peek_5 ?_
  refine lv_icmp_ge (tgt := 27) hx hb dX9_peek_8 (by decide) (fun c_1 => ?_) (fun c_1 => ?_)
  · refine lv_iconst (v := (-1)) hx hb dX9_peek_27 (by decide) ?_
    exact W.iret (v := (-1)) hx hb hr (fun t9 ht hW => ⟨_, rfl, (pk_leaf1 hsz hp9 c_1), ht⟩) (fun q h => nomatch h) dX9_peek_28
  · refine lv_aload_n hx hb dX9_peek_11 rfl (lv_at hl 0 rfl) ?_
    refine va_get (D := (dC, dI)) (ci := 9) (v := .ref m1) (C := RX9) (T := TX9) (N := 47) hx hb hts hin9 hown hK hP 0 rfl rfl 1 (by decide) (hts (.fieldLink RX9 7 "YamRidersModel" "tape" "[B") (by decide +kernel)) (fun _ h9 => h9) rfl dX9_peek_12 ?_
    refine lv_aload_n hx hb dX9_peek_15 rfl (lv_at hl 0 rfl) ?_
    refine va_get (D := (dC, dI)) (ci := 9) (v := .int (nI p9)) (C := RX9) (T := TX9) (N := 47) hx hb hts hin9 hown hK hP 0 rfl rfl 4 (by decide) (hts (.fieldLink RX9 125 "YamRidersModel" "p" "I") (by decide +kernel)) (fun _ h9 => h9) rfl dX9_peek_16 ?_
    refine va_bald hx hb hK hP 1 0 rfl rfl (pkt_in hsz c_1 hp9) dX9_peek_19 ?_
    refine lv_sipush (v := 255) hx hb dX9_peek_20 (by decide) ?_
    refine lv_iand hx hb dX9_peek_23 ?_
    refine lv_goto (tgt := 28) hx hb dX9_peek_24 (by decide) ?_
    exact W.iret (v := (a_tape (nI p9).toNatClampNeg) &&& 255) hx hb hr (fun t9 ht hW => ⟨_, rfl, (pk_leaf2 hsz hp9 c_1), ht⟩) (fun q h => nomatch h) dX9_peek_28
