theorem sw_i {x : Int32} {n : Int} {y : Int32} (hy : y.toInt = n) (h : ¬ x = y) : ¬ x.toInt = n := fun q => h (Int32.toInt_inj.mp (q.trans hy.symm))
theorem sw_out0_2 {x : Int32} (h0 : ¬ x = 0) (h1 : ¬ x = 1) (h2 : ¬ x = 2) : x.toInt < 0 ∨ 2 < x.toInt := by
  have g0 := sw_i (n := 0) (by decide) h0
  have g1 := sw_i (n := 1) (by decide) h1
  have g2 := sw_i (n := 2) (by decide) h2
  omega
theorem sw_out0_4 {x : Int32} (h0 : ¬ x = 0) (h1 : ¬ x = 1) (h2 : ¬ x = 2) (h3 : ¬ x = 3) (h4 : ¬ x = 4) : x.toInt < 0 ∨ 4 < x.toInt := by
  have g0 := sw_i (n := 0) (by decide) h0
  have g1 := sw_i (n := 1) (by decide) h1
  have g2 := sw_i (n := 2) (by decide) h2
  have g3 := sw_i (n := 3) (by decide) h3
  have g4 := sw_i (n := 4) (by decide) h4
  omega
theorem sw_out0_5 {x : Int32} (h0 : ¬ x = 0) (h1 : ¬ x = 1) (h2 : ¬ x = 2) (h3 : ¬ x = 3) (h4 : ¬ x = 4) (h5 : ¬ x = 5) : x.toInt < 0 ∨ 5 < x.toInt := by
  have g0 := sw_i (n := 0) (by decide) h0
  have g1 := sw_i (n := 1) (by decide) h1
  have g2 := sw_i (n := 2) (by decide) h2
  have g3 := sw_i (n := 3) (by decide) h3
  have g4 := sw_i (n := 4) (by decide) h4
  have g5 := sw_i (n := 5) (by decide) h5
  omega
theorem sw_out0_21 {x : Int32} (h0 : ¬ x = 0) (h1 : ¬ x = 1) (h2 : ¬ x = 2) (h3 : ¬ x = 3) (h4 : ¬ x = 4) (h5 : ¬ x = 5) (h6 : ¬ x = 6) (h7 : ¬ x = 7) (h8 : ¬ x = 8) (h9 : ¬ x = 9) (h10 : ¬ x = 10) (h11 : ¬ x = 11) (h12 : ¬ x = 12) (h13 : ¬ x = 13) (h14 : ¬ x = 14) (h15 : ¬ x = 15) (h16 : ¬ x = 16) (h17 : ¬ x = 17) (h18 : ¬ x = 18) (h19 : ¬ x = 19) (h20 : ¬ x = 20) (h21 : ¬ x = 21) : x.toInt < 0 ∨ 21 < x.toInt := by
  have g0 := sw_i (n := 0) (by decide) h0
  have g1 := sw_i (n := 1) (by decide) h1
  have g2 := sw_i (n := 2) (by decide) h2
  have g3 := sw_i (n := 3) (by decide) h3
  have g4 := sw_i (n := 4) (by decide) h4
  have g5 := sw_i (n := 5) (by decide) h5
  have g6 := sw_i (n := 6) (by decide) h6
  have g7 := sw_i (n := 7) (by decide) h7
  have g8 := sw_i (n := 8) (by decide) h8
  have g9 := sw_i (n := 9) (by decide) h9
  have g10 := sw_i (n := 10) (by decide) h10
  have g11 := sw_i (n := 11) (by decide) h11
  have g12 := sw_i (n := 12) (by decide) h12
  have g13 := sw_i (n := 13) (by decide) h13
  have g14 := sw_i (n := 14) (by decide) h14
  have g15 := sw_i (n := 15) (by decide) h15
  have g16 := sw_i (n := 16) (by decide) h16
  have g17 := sw_i (n := 17) (by decide) h17
  have g18 := sw_i (n := 18) (by decide) h18
  have g19 := sw_i (n := 19) (by decide) h19
  have g20 := sw_i (n := 20) (by decide) h20
  have g21 := sw_i (n := 21) (by decide) h21
  omega
theorem nI_s1 {m n : Nat} (h : m = n + 1) : nI m - 1 = nI n := by
  subst h
  rw [← nI_1 n]
  exact Int32.add_sub_cancel (nI n) 1
theorem nI_m1 {m n : Nat} (h : m = n + 1) : nI m + (-1) = nI n := by
  rw [← Int32.sub_eq_add_neg]
  exact nI_s1 h
theorem nI_p {m : Nat} (c : ¬ nI m ≤ 0) (hm : m < 2 ^ 31) : 0 < m := by
  rcases Nat.eq_zero_or_pos m with h | h
  · subst h; exact absurd (Int32.le_refl _) c
  · exact h
theorem nI_ltq {m n : Nat} (c : nI m < nI n) (hm : m < 2 ^ 31) (hn : n < 2 ^ 31) : m < n := Decidable.byContradiction fun q => absurd (nI_le (by omega : n ≤ m) hm) (Int32.not_le.mpr c)
theorem nI_nleq {m n : Nat} (c : ¬ nI n ≤ nI m) (hm : m < 2 ^ 31) : m < n := Decidable.byContradiction fun q => c (nI_le (by omega) hm)
theorem ka_eq {D : va_G} {cl : List vw_C} {tys : List (ClassId × FieldType)} {U : State} {c d : ClassId} (hK : va_K D cl tys U) (i j : Nat) (hi : tys[i]? = some (c, .int)) (hj : tys[j]? = some (d, .int)) : d = c := by
  have h1 := (hK.2 i _ hi).2
  have h2 := (hK.2 j _ hj).2
  exact Option.some.inj (h2.symm.trans h1)

set_option maxHeartbeats 4000000 in
set_option maxRecDepth 100000 in
theorem e_X8_horseOf (l : Launch) (dC : Nat → ClassId) (dI : Nat → Nat → Nat) (cs : Nat → ClassId) (L : List Nat) (ka : Nat → Nat) (ix : Nat → Nat) (ad : Nat → Nat → Nat) (n0 : Nat) (n6 : Nat) (n2 : Nat) (S : Nat → Nat → Nat → Int32) (f : Nat → va_E) (gq : Nat) (h0 : Nat) (a1 : Nat) (a2 : Nat) (a3 : Nat) (a4 : Nat) (a5 : Nat) (a6 : Nat) (a7 : Nat) (a8 : Nat) (a9 : Nat) (j_faultKind : Int32) (j_horseCount : Int32) (j_tabletCount : Int32) (j_riderCount : Int32) (j_lineLength : Int32) (j_hour : Int32) (p0 : Int32) (sz : Nat) (hT : tB L ka ix ad cs n0 n6 n2 S f) (hY : yX L ka ix ad gq a2 a3 a4 a5 a6 a7 a8 a9) : Met l yX8_horseOf wsX8_horseOf ({ frames := 0, cells := 0, slots := 0, locals := 0 }) (va_Pc [.ref h0, .int p0] (cP dC dI ([(h0, .inr (8, [.ref a1, .ref a2, .ref a3, .ref a4, .ref a5, .ref a6, .ref a7, .ref a8, .ref a9, .int j_faultKind, .int j_horseCount, .int j_tabletCount, .int j_riderCount, .int j_lineLength, .int j_hour]))] ++ va_pl L f) (tyC cs) sz)) (va_Sq (fun r => r = oq ad 0 (hOf n0 p0))) 0 0 (fun _ => False) := by
  refine Met.ofW (cc := cX8_horseOf) (maxL := 2) (ret := (some (.object "YamRiders$Horse"))) (by decide) rfl ?_
  intro p e s m args below meth c s₁ B hml hv
  obtain ⟨rfl, hsz, hP, hK, hD0, hN⟩ := hv
  have hx := B.exec
  have hb := B.bytes
  have hr := B.returns
  have hts := atoms_spec (ws := wsX8_horseOf) B.pre
  have hown : s.vm.findClass RX8 = some m.cls := findClass_of_methodNamed B.named
  have hlocks := B.notSynchronized
  subst hsz
  have hin8 : ∀ w ∈ u_ws RX8 TX8 15, w ∈ wsX8_horseOf := by decide +kernel
  have hD := hD0
  have hP : va_P (dC, dI) vwCl ([(h0, .inr (8, [.ref a1, .ref a2, .ref a3, .ref a4, .ref a5, .ref a6, .ref a7, .ref a8, .ref a9, .int j_faultKind, .int j_horseCount, .int j_tabletCount, .int j_riderCount, .int j_lineLength, .int j_hour]))] ++ va_pl L f) s.heap := hP
  have hl := lv_entry ([.ref h0, .int p0]) (n := 2) (Nat.le_of_ble_eq_true rfl)
  rw [lg_entry_eq]
  generalize (lg_sl ([.ref h0, .int p0]) ++ List.replicate (2 - (lg_sl ([.ref h0, .int p0])).length) Slot.unset).toArray = ls at hl ⊢
  have hl : lv_has ls 2 [(0, .ref h0), (1, .int p0)] := hl
  refine lv_iload_n hx hb dX8_horseOf_0 rfl (lv_at hl 1 rfl) ?_
  refine lv_if_lt (tgt := 19) hx hb dX8_horseOf_1 (by decide) (fun c_1 => ?_) (fun c_1 => ?_)
  · refine lv_null hx hb dX8_horseOf_19 ?_
    exact W.aret (v := .null) hx hb hr (by first | exact Or.inl ⟨_, rfl⟩ | exact Or.inr ⟨_, rfl⟩) (Or.inl rfl) (fun t9 ht hW => ⟨none, rfl, (hOf_a c_1), ht⟩) (fun q h => nomatch h) dX8_horseOf_20
  · refine lv_iload_n hx hb dX8_horseOf_4 rfl (lv_at hl 1 rfl) ?_
    refine lv_bipush (v := 60) hx hb dX8_horseOf_5 (by decide) ?_
    refine lv_icmp_ge (tgt := 19) hx hb dX8_horseOf_7 (by decide) (fun c_2 => ?_) (fun c_2 => ?_)
    · refine lv_null hx hb dX8_horseOf_19 ?_
      exact W.aret (v := .null) hx hb hr (by first | exact Or.inl ⟨_, rfl⟩ | exact Or.inr ⟨_, rfl⟩) (Or.inl rfl) (fun t9 ht hW => ⟨none, rfl, (hOf_b (N := 60) hT.b0 (by decide) c_2), ht⟩) (fun q h => nomatch h) dX8_horseOf_20
    · refine lv_aload_n hx hb dX8_horseOf_10 rfl (lv_at hl 0 rfl) ?_
      refine va_get (D := (dC, dI)) (ci := 8) (v := .ref a5) (C := RX8) (T := TX8) (N := 15) hx hb hts hin8 hown hK hP 0 rfl rfl 4 (by decide) (hts (.fieldLink RX8 36 "YamRiders" "horses" "[LYamRiders$Horse;") (by decide +kernel)) (fun _ h9 => h9) rfl dX8_horseOf_11 ?_
      refine lv_iload_n hx hb dX8_horseOf_14 rfl (lv_at hl 1 rfl) ?_
      obtain ⟨u_3, hu_3, rfl⟩ := nat_lt2 (n := 60) c_1 c_2 (by omega)
      have hf_4 : f a5 = .inl (cs 3, 60, .inr (.inr (.inr (.inr (gl ad 0 n0))))) := hT.get hY.2.2.2.1
      obtain ⟨q_5, hq_5⟩ := pl_at (X := [(h0, .inr (8, [.ref a1, .ref a2, .ref a3, .ref a4, .ref a5, .ref a6, .ref a7, .ref a8, .ref a9, .int j_faultKind, .int j_horseCount, .int j_tabletCount, .int j_riderCount, .int j_lineLength, .int j_hour]))]) (f := f) (e := .inl (cs 3, 60, .inr (.inr (.inr (.inr (gl ad 0 n0)))))) hY.2.2.2.1.1 hf_4
      refine va_aldq hx hb hK hP q_5 3 hq_5 rfl (vp_in_nI (by omega) (by omega)) dX8_horseOf_15 ?_
      by_cases c_6 : u_3 < n0
      · rw [show gl ad 0 n0 (nI u_3).toNatClampNeg = some (ad 0 u_3) from by rw [(nI_clamp (by omega))]; exact gl_p c_6]
        refine W.eq (g2 := F0 m 16 ls [.ref (ad 0 u_3)]) rfl ?_
        refine lv_goto (tgt := 20) hx hb dX8_horseOf_16 (by decide) ?_
        exact W.aret (v := .ref (ad 0 u_3)) hx hb hr (by first | exact Or.inl ⟨_, rfl⟩ | exact Or.inr ⟨_, rfl⟩) (Or.inr ⟨_, rfl⟩) (fun t9 ht hW => ⟨(some (ad 0 u_3)), rfl, (hOf_d (by have h9 := hT.b0; omega) c_6), ht⟩) (fun q h => nomatch h) dX8_horseOf_20
      · rw [show gl ad 0 n0 (nI u_3).toNatClampNeg = none from by rw [(nI_clamp (by omega))]; exact gl_n c_6]
        refine W.eq (g2 := F0 m 16 ls [.null]) rfl ?_
        refine lv_goto (tgt := 20) hx hb dX8_horseOf_16 (by decide) ?_
        exact W.aret (v := .null) hx hb hr (by first | exact Or.inl ⟨_, rfl⟩ | exact Or.inr ⟨_, rfl⟩) (Or.inl rfl) (fun t9 ht hW => ⟨none, rfl, (hOf_c (by omega) c_6), ht⟩) (fun q h => nomatch h) dX8_horseOf_20

set_option maxHeartbeats 4000000 in
set_option maxRecDepth 100000 in
theorem e_X8_tabletOf (l : Launch) (dC : Nat → ClassId) (dI : Nat → Nat → Nat) (cs : Nat → ClassId) (L : List Nat) (ka : Nat → Nat) (ix : Nat → Nat) (ad : Nat → Nat → Nat) (n0 : Nat) (n6 : Nat) (n2 : Nat) (S : Nat → Nat → Nat → Int32) (f : Nat → va_E) (gq : Nat) (h0 : Nat) (a1 : Nat) (a2 : Nat) (a3 : Nat) (a4 : Nat) (a5 : Nat) (a6 : Nat) (a7 : Nat) (a8 : Nat) (a9 : Nat) (j_faultKind : Int32) (j_horseCount : Int32) (j_tabletCount : Int32) (j_riderCount : Int32) (j_lineLength : Int32) (j_hour : Int32) (p0 : Int32) (sz : Nat) (hT : tB L ka ix ad cs n0 n6 n2 S f) (hY : yX L ka ix ad gq a2 a3 a4 a5 a6 a7 a8 a9) : Met l yX8_tabletOf wsX8_tabletOf ({ frames := 0, cells := 0, slots := 0, locals := 0 }) (va_Pc [.ref h0, .int p0] (cP dC dI ([(h0, .inr (8, [.ref a1, .ref a2, .ref a3, .ref a4, .ref a5, .ref a6, .ref a7, .ref a8, .ref a9, .int j_faultKind, .int j_horseCount, .int j_tabletCount, .int j_riderCount, .int j_lineLength, .int j_hour]))] ++ va_pl L f) (tyC cs) sz)) (va_Sq (fun r => r = oq ad 6 (hOf n6 p0))) 0 0 (fun _ => False) := by
  refine Met.ofW (cc := cX8_tabletOf) (maxL := 2) (ret := (some (.object "YamRiders$Tablet"))) (by decide) rfl ?_
  intro p e s m args below meth c s₁ B hml hv
  obtain ⟨rfl, hsz, hP, hK, hD0, hN⟩ := hv
  have hx := B.exec
  have hb := B.bytes
  have hr := B.returns
  have hts := atoms_spec (ws := wsX8_tabletOf) B.pre
  have hown : s.vm.findClass RX8 = some m.cls := findClass_of_methodNamed B.named
  have hlocks := B.notSynchronized
  subst hsz
  have hin8 : ∀ w ∈ u_ws RX8 TX8 15, w ∈ wsX8_tabletOf := by decide +kernel
  have hD := hD0
  have hP : va_P (dC, dI) vwCl ([(h0, .inr (8, [.ref a1, .ref a2, .ref a3, .ref a4, .ref a5, .ref a6, .ref a7, .ref a8, .ref a9, .int j_faultKind, .int j_horseCount, .int j_tabletCount, .int j_riderCount, .int j_lineLength, .int j_hour]))] ++ va_pl L f) s.heap := hP
  have hl := lv_entry ([.ref h0, .int p0]) (n := 2) (Nat.le_of_ble_eq_true rfl)
  rw [lg_entry_eq]
  generalize (lg_sl ([.ref h0, .int p0]) ++ List.replicate (2 - (lg_sl ([.ref h0, .int p0])).length) Slot.unset).toArray = ls at hl ⊢
  have hl : lv_has ls 2 [(0, .ref h0), (1, .int p0)] := hl
  refine lv_iload_n hx hb dX8_tabletOf_0 rfl (lv_at hl 1 rfl) ?_
  refine lv_if_lt (tgt := 19) hx hb dX8_tabletOf_1 (by decide) (fun c_1 => ?_) (fun c_1 => ?_)
  · refine lv_null hx hb dX8_tabletOf_19 ?_
    exact W.aret (v := .null) hx hb hr (by first | exact Or.inl ⟨_, rfl⟩ | exact Or.inr ⟨_, rfl⟩) (Or.inl rfl) (fun t9 ht hW => ⟨none, rfl, (hOf_a c_1), ht⟩) (fun q h => nomatch h) dX8_tabletOf_20
  · refine lv_iload_n hx hb dX8_tabletOf_4 rfl (lv_at hl 1 rfl) ?_
    refine lv_bipush (v := 20) hx hb dX8_tabletOf_5 (by decide) ?_
    refine lv_icmp_ge (tgt := 19) hx hb dX8_tabletOf_7 (by decide) (fun c_2 => ?_) (fun c_2 => ?_)
    · refine lv_null hx hb dX8_tabletOf_19 ?_
      exact W.aret (v := .null) hx hb hr (by first | exact Or.inl ⟨_, rfl⟩ | exact Or.inr ⟨_, rfl⟩) (Or.inl rfl) (fun t9 ht hW => ⟨none, rfl, (hOf_b (N := 20) hT.b6 (by decide) c_2), ht⟩) (fun q h => nomatch h) dX8_tabletOf_20
    · refine lv_aload_n hx hb dX8_tabletOf_10 rfl (lv_at hl 0 rfl) ?_
      refine va_get (D := (dC, dI)) (ci := 8) (v := .ref a6) (C := RX8) (T := TX8) (N := 15) hx hb hts hin8 hown hK hP 0 rfl rfl 5 (by decide) (hts (.fieldLink RX8 42 "YamRiders" "tablets" "[LYamRiders$Tablet;") (by decide +kernel)) (fun _ h9 => h9) rfl dX8_tabletOf_11 ?_
      refine lv_iload_n hx hb dX8_tabletOf_14 rfl (lv_at hl 1 rfl) ?_
      obtain ⟨u_3, hu_3, rfl⟩ := nat_lt2 (n := 20) c_1 c_2 (by omega)
      have hf_4 : f a6 = .inl (cs 4, 20, .inr (.inr (.inr (.inr (gl ad 6 n6))))) := hT.get hY.2.2.2.2.1
      obtain ⟨q_5, hq_5⟩ := pl_at (X := [(h0, .inr (8, [.ref a1, .ref a2, .ref a3, .ref a4, .ref a5, .ref a6, .ref a7, .ref a8, .ref a9, .int j_faultKind, .int j_horseCount, .int j_tabletCount, .int j_riderCount, .int j_lineLength, .int j_hour]))]) (f := f) (e := .inl (cs 4, 20, .inr (.inr (.inr (.inr (gl ad 6 n6)))))) hY.2.2.2.2.1.1 hf_4
      refine va_aldq hx hb hK hP q_5 4 hq_5 rfl (vp_in_nI (by omega) (by omega)) dX8_tabletOf_15 ?_
      by_cases c_6 : u_3 < n6
      · rw [show gl ad 6 n6 (nI u_3).toNatClampNeg = some (ad 6 u_3) from by rw [(nI_clamp (by omega))]; exact gl_p c_6]
        refine W.eq (g2 := F0 m 16 ls [.ref (ad 6 u_3)]) rfl ?_
        refine lv_goto (tgt := 20) hx hb dX8_tabletOf_16 (by decide) ?_
        exact W.aret (v := .ref (ad 6 u_3)) hx hb hr (by first | exact Or.inl ⟨_, rfl⟩ | exact Or.inr ⟨_, rfl⟩) (Or.inr ⟨_, rfl⟩) (fun t9 ht hW => ⟨(some (ad 6 u_3)), rfl, (hOf_d (by have h9 := hT.b6; omega) c_6), ht⟩) (fun q h => nomatch h) dX8_tabletOf_20
      · rw [show gl ad 6 n6 (nI u_3).toNatClampNeg = none from by rw [(nI_clamp (by omega))]; exact gl_n c_6]
        refine W.eq (g2 := F0 m 16 ls [.null]) rfl ?_
        refine lv_goto (tgt := 20) hx hb dX8_tabletOf_16 (by decide) ?_
        exact W.aret (v := .null) hx hb hr (by first | exact Or.inl ⟨_, rfl⟩ | exact Or.inr ⟨_, rfl⟩) (Or.inl rfl) (fun t9 ht hW => ⟨none, rfl, (hOf_c (by omega) c_6), ht⟩) (fun q h => nomatch h) dX8_tabletOf_20

set_option maxHeartbeats 4000000 in
set_option maxRecDepth 100000 in
theorem e_X8_riderOf (l : Launch) (dC : Nat → ClassId) (dI : Nat → Nat → Nat) (cs : Nat → ClassId) (L : List Nat) (ka : Nat → Nat) (ix : Nat → Nat) (ad : Nat → Nat → Nat) (n0 : Nat) (n6 : Nat) (n2 : Nat) (S : Nat → Nat → Nat → Int32) (f : Nat → va_E) (gq : Nat) (h0 : Nat) (a1 : Nat) (a2 : Nat) (a3 : Nat) (a4 : Nat) (a5 : Nat) (a6 : Nat) (a7 : Nat) (a8 : Nat) (a9 : Nat) (j_faultKind : Int32) (j_horseCount : Int32) (j_tabletCount : Int32) (j_riderCount : Int32) (j_lineLength : Int32) (j_hour : Int32) (p0 : Int32) (sz : Nat) (hT : tB L ka ix ad cs n0 n6 n2 S f) (hY : yX L ka ix ad gq a2 a3 a4 a5 a6 a7 a8 a9) : Met l yX8_riderOf wsX8_riderOf ({ frames := 0, cells := 0, slots := 0, locals := 0 }) (va_Pc [.ref h0, .int p0] (cP dC dI ([(h0, .inr (8, [.ref a1, .ref a2, .ref a3, .ref a4, .ref a5, .ref a6, .ref a7, .ref a8, .ref a9, .int j_faultKind, .int j_horseCount, .int j_tabletCount, .int j_riderCount, .int j_lineLength, .int j_hour]))] ++ va_pl L f) (tyC cs) sz)) (va_Sq (fun r => r = oq ad 2 (hOf n2 p0))) 0 0 (fun _ => False) := by
  refine Met.ofW (cc := cX8_riderOf) (maxL := 2) (ret := (some (.object "YamRiders$Rider"))) (by decide) rfl ?_
  intro p e s m args below meth c s₁ B hml hv
  obtain ⟨rfl, hsz, hP, hK, hD0, hN⟩ := hv
  have hx := B.exec
  have hb := B.bytes
  have hr := B.returns
  have hts := atoms_spec (ws := wsX8_riderOf) B.pre
  have hown : s.vm.findClass RX8 = some m.cls := findClass_of_methodNamed B.named
  have hlocks := B.notSynchronized
  subst hsz
  have hin8 : ∀ w ∈ u_ws RX8 TX8 15, w ∈ wsX8_riderOf := by decide +kernel
  have hD := hD0
  have hP : va_P (dC, dI) vwCl ([(h0, .inr (8, [.ref a1, .ref a2, .ref a3, .ref a4, .ref a5, .ref a6, .ref a7, .ref a8, .ref a9, .int j_faultKind, .int j_horseCount, .int j_tabletCount, .int j_riderCount, .int j_lineLength, .int j_hour]))] ++ va_pl L f) s.heap := hP
  have hl := lv_entry ([.ref h0, .int p0]) (n := 2) (Nat.le_of_ble_eq_true rfl)
  rw [lg_entry_eq]
  generalize (lg_sl ([.ref h0, .int p0]) ++ List.replicate (2 - (lg_sl ([.ref h0, .int p0])).length) Slot.unset).toArray = ls at hl ⊢
  have hl : lv_has ls 2 [(0, .ref h0), (1, .int p0)] := hl
  refine lv_iload_n hx hb dX8_riderOf_0 rfl (lv_at hl 1 rfl) ?_
  refine lv_if_lt (tgt := 19) hx hb dX8_riderOf_1 (by decide) (fun c_1 => ?_) (fun c_1 => ?_)
  · refine lv_null hx hb dX8_riderOf_19 ?_
    exact W.aret (v := .null) hx hb hr (by first | exact Or.inl ⟨_, rfl⟩ | exact Or.inr ⟨_, rfl⟩) (Or.inl rfl) (fun t9 ht hW => ⟨none, rfl, (hOf_a c_1), ht⟩) (fun q h => nomatch h) dX8_riderOf_20
  · refine lv_iload_n hx hb dX8_riderOf_4 rfl (lv_at hl 1 rfl) ?_
    refine lv_bipush (v := 60) hx hb dX8_riderOf_5 (by decide) ?_
    refine lv_icmp_ge (tgt := 19) hx hb dX8_riderOf_7 (by decide) (fun c_2 => ?_) (fun c_2 => ?_)
    · refine lv_null hx hb dX8_riderOf_19 ?_
      exact W.aret (v := .null) hx hb hr (by first | exact Or.inl ⟨_, rfl⟩ | exact Or.inr ⟨_, rfl⟩) (Or.inl rfl) (fun t9 ht hW => ⟨none, rfl, (hOf_b (N := 60) hT.b2 (by decide) c_2), ht⟩) (fun q h => nomatch h) dX8_riderOf_20
    · refine lv_aload_n hx hb dX8_riderOf_10 rfl (lv_at hl 0 rfl) ?_
      refine va_get (D := (dC, dI)) (ci := 8) (v := .ref a7) (C := RX8) (T := TX8) (N := 15) hx hb hts hin8 hown hK hP 0 rfl rfl 6 (by decide) (hts (.fieldLink RX8 48 "YamRiders" "riders" "[LYamRiders$Rider;") (by decide +kernel)) (fun _ h9 => h9) rfl dX8_riderOf_11 ?_
      refine lv_iload_n hx hb dX8_riderOf_14 rfl (lv_at hl 1 rfl) ?_
      obtain ⟨u_3, hu_3, rfl⟩ := nat_lt2 (n := 60) c_1 c_2 (by omega)
      have hf_4 : f a7 = .inl (cs 5, 60, .inr (.inr (.inr (.inr (gl ad 2 n2))))) := hT.get hY.2.2.2.2.2.1
      obtain ⟨q_5, hq_5⟩ := pl_at (X := [(h0, .inr (8, [.ref a1, .ref a2, .ref a3, .ref a4, .ref a5, .ref a6, .ref a7, .ref a8, .ref a9, .int j_faultKind, .int j_horseCount, .int j_tabletCount, .int j_riderCount, .int j_lineLength, .int j_hour]))]) (f := f) (e := .inl (cs 5, 60, .inr (.inr (.inr (.inr (gl ad 2 n2)))))) hY.2.2.2.2.2.1.1 hf_4
      refine va_aldq hx hb hK hP q_5 5 hq_5 rfl (vp_in_nI (by omega) (by omega)) dX8_riderOf_15 ?_
      by_cases c_6 : u_3 < n2
      · rw [show gl ad 2 n2 (nI u_3).toNatClampNeg = some (ad 2 u_3) from by rw [(nI_clamp (by omega))]; exact gl_p c_6]
        refine W.eq (g2 := F0 m 16 ls [.ref (ad 2 u_3)]) rfl ?_
        refine lv_goto (tgt := 20) hx hb dX8_riderOf_16 (by decide) ?_
        exact W.aret (v := .ref (ad 2 u_3)) hx hb hr (by first | exact Or.inl ⟨_, rfl⟩ | exact Or.inr ⟨_, rfl⟩) (Or.inr ⟨_, rfl⟩) (fun t9 ht hW => ⟨(some (ad 2 u_3)), rfl, (hOf_d (by have h9 := hT.b2; omega) c_6), ht⟩) (fun q h => nomatch h) dX8_riderOf_20
      · rw [show gl ad 2 n2 (nI u_3).toNatClampNeg = none from by rw [(nI_clamp (by omega))]; exact gl_n c_6]
        refine W.eq (g2 := F0 m 16 ls [.null]) rfl ?_
        refine lv_goto (tgt := 20) hx hb dX8_riderOf_16 (by decide) ?_
        exact W.aret (v := .null) hx hb hr (by first | exact Or.inl ⟨_, rfl⟩ | exact Or.inr ⟨_, rfl⟩) (Or.inl rfl) (fun t9 ht hW => ⟨none, rfl, (hOf_c (by omega) c_6), ht⟩) (fun q h => nomatch h) dX8_riderOf_20

set_option maxHeartbeats 4000000 in
set_option maxRecDepth 100000 in
theorem e_X8_isHad (l : Launch) (dC : Nat → ClassId) (dI : Nat → Nat → Nat) (cs : Nat → ClassId) (L : List Nat) (ka : Nat → Nat) (ix : Nat → Nat) (ad : Nat → Nat → Nat) (n0 : Nat) (n6 : Nat) (n2 : Nat) (S : Nat → Nat → Nat → Int32) (f : Nat → va_E) (gq : Nat) (h0 : Nat) (a1 : Nat) (a2 : Nat) (a3 : Nat) (a4 : Nat) (a5 : Nat) (a6 : Nat) (a7 : Nat) (a8 : Nat) (a9 : Nat) (j_faultKind : Int32) (j_horseCount : Int32) (j_tabletCount : Int32) (j_riderCount : Int32) (j_lineLength : Int32) (j_hour : Int32) (p0 : Int32) (sz : Nat) (hT : tB L ka ix ad cs n0 n6 n2 S f) (hY : yX L ka ix ad gq a2 a3 a4 a5 a6 a7 a8 a9) : Met l yX8_isHad wsX8_isHad ({ frames := 1, cells := 0, slots := 0, locals := 20 }) (va_Pc [.ref h0, .int p0] (cP dC dI ([(h0, .inr (8, [.ref a1, .ref a2, .ref a3, .ref a4, .ref a5, .ref a6, .ref a7, .ref a8, .ref a9, .int j_faultKind, .int j_horseCount, .int j_tabletCount, .int j_riderCount, .int j_lineLength, .int j_hour]))] ++ va_pl L f) (tyC cs) sz)) (vp_Si (fun r => HAD S n2 p0 r)) 0 0 (fun _ => False) := by
  refine Met.ofW (cc := cX8_isHad) (maxL := 6) (ret := (some .boolean)) (by decide) rfl ?_
  intro p e s m args below meth c s₁ B hml hv
  obtain ⟨rfl, hsz, hP, hK, hD0, hN⟩ := hv
  have hx := B.exec
  have hb := B.bytes
  have hr := B.returns
  have hts := atoms_spec (ws := wsX8_isHad) B.pre
  have hown : s.vm.findClass RX8 = some m.cls := findClass_of_methodNamed B.named
  have hlocks := B.notSynchronized
  subst hsz
  have hin2 : ∀ w ∈ u_ws RX2 TX2 10, w ∈ wsX8_isHad := by decide +kernel
  have hin8 : ∀ w ∈ u_ws RX8 TX8 15, w ∈ wsX8_isHad := by decide +kernel
  have hD := hD0
  have hP : va_P (dC, dI) vwCl ([(h0, .inr (8, [.ref a1, .ref a2, .ref a3, .ref a4, .ref a5, .ref a6, .ref a7, .ref a8, .ref a9, .int j_faultKind, .int j_horseCount, .int j_tabletCount, .int j_riderCount, .int j_lineLength, .int j_hour]))] ++ va_pl L f) s.heap := hP
  have hl := lv_entry ([.ref h0, .int p0]) (n := 6) (Nat.le_of_ble_eq_true rfl)
  rw [lg_entry_eq]
  generalize (lg_sl ([.ref h0, .int p0]) ++ List.replicate (6 - (lg_sl ([.ref h0, .int p0])).length) Slot.unset).toArray = ls at hl ⊢
  have hl : lv_has ls 6 [(0, .ref h0), (1, .int p0)] := hl
  refine lv_aload_n hx hb dX8_isHad_0 rfl (lv_at hl 0 rfl) ?_
  refine va_get (D := (dC, dI)) (ci := 8) (v := .ref a7) (C := RX8) (T := TX8) (N := 15) hx hb hts hin8 hown hK hP 0 rfl rfl 6 (by decide) (hts (.fieldLink RX8 48 "YamRiders" "riders" "[LYamRiders$Rider;") (by decide +kernel)) (fun _ h9 => h9) rfl dX8_isHad_1 ?_
  refine lv_astore_n (lv' := [(2, .ref a7), (0, .ref h0), (1, .int p0)]) hx hb dX8_isHad_4 rfl hl (by decide) rfl (fun ls hl => ?_)
  refine lv_aload_n hx hb dX8_isHad_5 rfl (lv_at hl 0 rfl) ?_
  have hf_1 : f a7 = .inl (cs 5, 60, .inr (.inr (.inr (.inr (gl ad 2 n2))))) := hT.get hY.2.2.2.2.2.1
  obtain ⟨q_2, hq_2⟩ := pl_at (X := [(h0, .inr (8, [.ref a1, .ref a2, .ref a3, .ref a4, .ref a5, .ref a6, .ref a7, .ref a8, .ref a9, .int j_faultKind, .int j_horseCount, .int j_tabletCount, .int j_riderCount, .int j_lineLength, .int j_hour]))]) (f := f) (e := .inl (cs 5, 60, .inr (.inr (.inr (.inr (gl ad 2 n2)))))) hY.2.2.2.2.2.1.1 hf_1
  refine va_alen (v := 60) hx hb hK hP q_2 5 hq_2 rfl rfl dX8_isHad_6 ?_
  refine lv_istore_n (lv' := [(3, .int 60), (2, .ref a7), (0, .ref h0), (1, .int p0)]) hx hb dX8_isHad_7 rfl hl (by decide) rfl (fun ls hl => ?_)
  refine lv_iconst (v := 0) hx hb dX8_isHad_8 (by decide) ?_
  refine lv_istore (lv' := [(4, .int 0), (3, .int 60), (2, .ref a7), (0, .ref h0), (1, .int p0)]) hx hb dX8_isHad_9 hl (by decide) rfl (fun ls hl => ?_)
  have HL : ∀ (n k : Nat), k ≤ 60 → 60 + 1 ≤ k + n → (∀ q, q < k → q < n2 → S 32 q 0 = p0 → sUW S q = 0) → ∀ ls : Array Slot, lv_has ls 6 [(0, .ref h0), (1, .int p0), (2, .ref a7), (3, .int 60), (4, .int (nI k))] → W p l e (headSpec wsX8_isHad ({ frames := 1, cells := 0, slots := 0, locals := 20 })).room s m ([.ref h0, .int p0]).toArray below meth c s.heap [] 0 0 (MQ below (vp_Si (fun r => HAD S n2 p0 r)) ([.ref h0, .int p0]).toArray s 0 0 (fun _ => False)) (F0 m 11 ls []) := by
    intro n
    induction n with
    | zero => intro k h1 h2; exact absurd h2 (by omega)
    | succ n ih =>
      intro k hk hn hHd ls hl
      refine lv_iload hx hb dX8_isHad_11 (lv_at hl 4 rfl) ?_
      refine lv_iload_n hx hb dX8_isHad_13 rfl (lv_at hl 3 rfl) ?_
      refine lv_icmp_ge (tgt := 53) hx hb dX8_isHad_14 (by decide) (fun c_3 => ?_) (fun c_3 => ?_)
      · have hke : k = 60 := by
          rcases Nat.lt_or_ge k 60 with q | q
          · exact absurd c_3 (nI_ge q (by decide))
          · omega
        refine lv_iconst (v := 0) hx hb dX8_isHad_53 (by decide) ?_
        exact W.zret (v := 0) hx hb hr rfl (fun t9 ht hW => ⟨_, rfl, (Or.inr ⟨rfl, fun q h1 => hHd q (by have h9 := hT.b2; omega) h1⟩), ht⟩) (fun q h => nomatch h) dX8_isHad_54
      · have hlt : k < 60 := by
          rcases Nat.lt_or_ge k 60 with q | q
          · exact q
          · exact absurd (show nI 60 ≤ nI k from nI_le q (by omega)) c_3
        refine lv_aload_n hx hb dX8_isHad_17 rfl (lv_at hl 2 rfl) ?_
        refine lv_iload hx hb dX8_isHad_18 (lv_at hl 4 rfl) ?_
        have hf_4 : f a7 = .inl (cs 5, 60, .inr (.inr (.inr (.inr (gl ad 2 n2))))) := hT.get hY.2.2.2.2.2.1
        obtain ⟨q_5, hq_5⟩ := pl_at (X := [(h0, .inr (8, [.ref a1, .ref a2, .ref a3, .ref a4, .ref a5, .ref a6, .ref a7, .ref a8, .ref a9, .int j_faultKind, .int j_horseCount, .int j_tabletCount, .int j_riderCount, .int j_lineLength, .int j_hour]))]) (f := f) (e := .inl (cs 5, 60, .inr (.inr (.inr (.inr (gl ad 2 n2)))))) hY.2.2.2.2.2.1.1 hf_4
        refine va_aldq hx hb hK hP q_5 5 hq_5 rfl (vp_in_nI (by omega) (by omega)) dX8_isHad_20 ?_
        by_cases c_6 : k < n2
        · rw [show gl ad 2 n2 (nI k).toNatClampNeg = some (ad 2 k) from by rw [(nI_clamp (by omega))]; exact gl_p c_6]
          refine W.eq (g2 := F0 m 21 ls [.ref (ad 2 k)]) rfl ?_
          refine lv_astore (lv' := [(5, .ref (ad 2 k)), (0, .ref h0), (1, .int p0), (2, .ref a7), (3, .int 60), (4, .int (nI k))]) hx hb dX8_isHad_21 hl (by decide) rfl (fun ls hl => ?_)
          refine lv_aload hx hb dX8_isHad_23 (lv_at hl 0 rfl) ?_
          refine lv_ifnull hx hb dX8_isHad_25 ?_
          refine lv_aload hx hb dX8_isHad_28 (lv_at hl 0 rfl) ?_
          have hf_7 : f (ad 2 k) = .inr (2, [.int (S 32 k 0), .int (S 33 k 0), .ref (ad 37 k), .ref (ad 36 k), .int (S 36 k 0), .int (S 37 k 0), .int (S 38 k 0), va_rf (oq ad 0 (S 39 k 0)), .int (S 40 k 0), .int (S 41 k 0)]) := hT.get (hT.k2 (i := k) (by omega))
          obtain ⟨q_8, hq_8⟩ := pl_at (X := [(h0, .inr (8, [.ref a1, .ref a2, .ref a3, .ref a4, .ref a5, .ref a6, .ref a7, .ref a8, .ref a9, .int j_faultKind, .int j_horseCount, .int j_tabletCount, .int j_riderCount, .int j_lineLength, .int j_hour]))]) (f := f) (e := .inr (2, [.int (S 32 k 0), .int (S 33 k 0), .ref (ad 37 k), .ref (ad 36 k), .int (S 36 k 0), .int (S 37 k 0), .int (S 38 k 0), va_rf (oq ad 0 (S 39 k 0)), .int (S 40 k 0), .int (S 41 k 0)])) (hT.k2 (i := k) (by omega)).1 hf_7
          refine va_getN (D := (dC, dI)) (ci := 2) (v := .int (S 32 k 0)) (C := RX2) (T := TX2) (N := 10) hx hb hts hin2 hown hK hP q_8 hq_8 rfl 0 (by decide) (hN.nx (.fieldLinkNest RX8 193 "YamRiders$Rider" "tablet" "I" "YamRiders") (by decide +kernel)) (fun _ h9 => h9) rfl dX8_isHad_30 ?_
          refine lv_iload_n hx hb dX8_isHad_33 rfl (lv_at hl 2 rfl) ?_
          refine lv_icmp_ne (tgt := 47) hx hb dX8_isHad_34 (by decide) (fun c_9 => ?_) (fun c_9 => ?_)
          · refine lv_iinc (v := nI (k + 1)) (lv' := [(4, .int (nI (k + 1))), (5, .ref (ad 2 k)), (0, .ref h0), (1, .int p0), (2, .ref a7), (3, .int 60)]) hx hb dX8_isHad_47 hl (k := 5) rfl (by exact (nI_1 k)) (by decide) rfl (fun ls hl => ?_)
            refine lv_goto (tgt := 11) hx hb dX8_isHad_50 (by decide) ?_
            exact ih (k + 1) (by omega) (by omega) (HD_s hHd (fun _ w => absurd w c_9)) ls (lv_sub hl [2, 3, 4, 5, 0] rfl)
          · refine lv_aload hx hb dX8_isHad_37 (lv_at hl 0 rfl) ?_
            have hPc := hP.part (cx := []) [] rfl
            have hDc := hD.part (cx := []) [] (by decide) rfl
            have hKc := hK
            obtain ⟨q_10, hq_10⟩ := pl_at (X := []) (f := f) (e := .inr (2, [.int (S 32 k 0), .int (S 33 k 0), .ref (ad 37 k), .ref (ad 36 k), .int (S 36 k 0), .int (S 37 k 0), .int (S 38 k 0), va_rf (oq ad 0 (S 39 k 0)), .int (S 40 k 0), .int (S 41 k 0)])) (hT.k2 (i := k) (by omega)).1 hf_7
            refine cs_i (va_runV (As := []) (rest := []) ⟨hx, hb, hml, hown, hts⟩ (e_X2_isUnderWay l dC dI cs L ka ix ad n0 n6 n2 S f k (ad 2 k) s.heap.size hT (hT.k2 (i := k) (by omega)) (by omega)) (cwV 0 hts gX8_isHad_X2_isUnderWay rfl rfl rfl (by decide +kernel) ⟨Nat.le_of_ble_eq_true rfl, Nat.le_of_ble_eq_true rfl⟩) ⟨c_blind, va_recv hKc hPc (ci := 2) (q0 := q_10) rfl hq_10, c_pre hPc hKc hDc hN⟩ rfl rfl hl.1 rfl (lv_room (Nat.le_of_ble_eq_true rfl)) dX8_isHad_39 ⟨Nat.le_of_ble_eq_true rfl, Nat.le_of_ble_eq_true rfl⟩) (fun r_11 hr_11 => ?_)
            subst hr_11
            refine lv_if_eq (tgt := 47) hx hb dX8_isHad_42 (by decide) (fun c_12 => ?_) (fun c_12 => ?_)
            · refine lv_iinc (v := nI (k + 1)) (lv' := [(4, .int (nI (k + 1))), (5, .ref (ad 2 k)), (0, .ref h0), (1, .int p0), (2, .ref a7), (3, .int 60)]) hx hb dX8_isHad_47 hl (k := 5) rfl (by exact (nI_1 k)) (by decide) rfl (fun ls hl => ?_)
              refine lv_goto (tgt := 11) hx hb dX8_isHad_50 (by decide) ?_
              exact ih (k + 1) (by omega) (by omega) (HD_s hHd (fun _ _ => c_12)) ls (lv_sub hl [2, 3, 4, 5, 0] rfl)
            · refine lv_iconst (v := 1) hx hb dX8_isHad_45 (by decide) ?_
              exact W.zret (v := 1) hx hb hr rfl (fun t9 ht hW => ⟨_, rfl, (Or.inl ⟨rfl, k, c_6, c_9, c_12⟩), ht⟩) (fun q h => nomatch h) dX8_isHad_46
        · rw [show gl ad 2 n2 (nI k).toNatClampNeg = none from by rw [(nI_clamp (by omega))]; exact gl_n c_6]
          refine W.eq (g2 := F0 m 21 ls [.null]) rfl ?_
          refine lv_astoreN (lv' := [(5, .null), (0, .ref h0), (1, .int p0), (2, .ref a7), (3, .int 60), (4, .int (nI k))]) hx hb dX8_isHad_21 hl (by decide) rfl (fun ls hl => ?_)
          refine lv_aloadN hx hb dX8_isHad_23 (lv_at hl 0 rfl) ?_
          refine lv_ifnullN (tgt := 47) hx hb dX8_isHad_25 (by decide) ?_
          refine lv_iinc (v := nI (k + 1)) (lv' := [(4, .int (nI (k + 1))), (5, .null), (0, .ref h0), (1, .int p0), (2, .ref a7), (3, .int 60)]) hx hb dX8_isHad_47 hl (k := 5) rfl (by exact (nI_1 k)) (by decide) rfl (fun ls hl => ?_)
          refine lv_goto (tgt := 11) hx hb dX8_isHad_50 (by decide) ?_
          exact ih (k + 1) (by omega) (by omega) (HD_s hHd (fun w => absurd w c_6)) ls (lv_sub hl [2, 3, 4, 5, 0] rfl)
  exact HL 61 0 (by omega) (by omega) (fun _ w => absurd w (Nat.not_lt_zero _)) ls (lv_sub hl [3, 4, 2, 1, 0] rfl)

set_option maxHeartbeats 4000000 in
set_option maxRecDepth 100000 in
theorem e_X8_ridersUnderWay (l : Launch) (dC : Nat → ClassId) (dI : Nat → Nat → Nat) (cs : Nat → ClassId) (L : List Nat) (ka : Nat → Nat) (ix : Nat → Nat) (ad : Nat → Nat → Nat) (n0 : Nat) (n6 : Nat) (n2 : Nat) (S : Nat → Nat → Nat → Int32) (f : Nat → va_E) (gq : Nat) (h0 : Nat) (a1 : Nat) (a2 : Nat) (a3 : Nat) (a4 : Nat) (a5 : Nat) (a6 : Nat) (a7 : Nat) (a8 : Nat) (a9 : Nat) (j_faultKind : Int32) (j_horseCount : Int32) (j_tabletCount : Int32) (j_riderCount : Int32) (j_lineLength : Int32) (j_hour : Int32) (sz : Nat) (hT : tB L ka ix ad cs n0 n6 n2 S f) (hY : yX L ka ix ad gq a2 a3 a4 a5 a6 a7 a8 a9) : Met l yX8_ridersUnderWay wsX8_ridersUnderWay ({ frames := 1, cells := 0, slots := 0, locals := 20 }) (va_Pc [.ref h0] (cP dC dI ([(h0, .inr (8, [.ref a1, .ref a2, .ref a3, .ref a4, .ref a5, .ref a6, .ref a7, .ref a8, .ref a9, .int j_faultKind, .int j_horseCount, .int j_tabletCount, .int j_riderCount, .int j_lineLength, .int j_hour]))] ++ va_pl L f) (tyC cs) sz)) (vp_Si (fun r => r = nI (cn (pU S) n2))) 0 0 (fun _ => False) := by
  refine Met.ofW (cc := cX8_ridersUnderWay) (maxL := 6) (ret := (some .int)) (by decide) rfl ?_
  intro p e s m args below meth c s₁ B hml hv
  obtain ⟨rfl, hsz, hP, hK, hD0, hN⟩ := hv
  have hx := B.exec
  have hb := B.bytes
  have hr := B.returns
  have hts := atoms_spec (ws := wsX8_ridersUnderWay) B.pre
  have hown : s.vm.findClass RX8 = some m.cls := findClass_of_methodNamed B.named
  have hlocks := B.notSynchronized
  subst hsz
  have hin8 : ∀ w ∈ u_ws RX8 TX8 15, w ∈ wsX8_ridersUnderWay := by decide +kernel
  have hD := hD0
  have hP : va_P (dC, dI) vwCl ([(h0, .inr (8, [.ref a1, .ref a2, .ref a3, .ref a4, .ref a5, .ref a6, .ref a7, .ref a8, .ref a9, .int j_faultKind, .int j_horseCount, .int j_tabletCount, .int j_riderCount, .int j_lineLength, .int j_hour]))] ++ va_pl L f) s.heap := hP
  have hl := lv_entry ([.ref h0]) (n := 6) (Nat.le_of_ble_eq_true rfl)
  rw [lg_entry_eq]
  generalize (lg_sl ([.ref h0]) ++ List.replicate (6 - (lg_sl ([.ref h0])).length) Slot.unset).toArray = ls at hl ⊢
  have hl : lv_has ls 6 [(0, .ref h0)] := hl
  refine lv_iconst (v := 0) hx hb dX8_ridersUnderWay_0 (by decide) ?_
  refine lv_istore_n (lv' := [(1, .int 0), (0, .ref h0)]) hx hb dX8_ridersUnderWay_1 rfl hl (by decide) rfl (fun ls hl => ?_)
  refine lv_aload_n hx hb dX8_ridersUnderWay_2 rfl (lv_at hl 1 rfl) ?_
  refine va_get (D := (dC, dI)) (ci := 8) (v := .ref a7) (C := RX8) (T := TX8) (N := 15) hx hb hts hin8 hown hK hP 0 rfl rfl 6 (by decide) (hts (.fieldLink RX8 48 "YamRiders" "riders" "[LYamRiders$Rider;") (by decide +kernel)) (fun _ h9 => h9) rfl dX8_ridersUnderWay_3 ?_
  refine lv_astore_n (lv' := [(2, .ref a7), (1, .int 0), (0, .ref h0)]) hx hb dX8_ridersUnderWay_6 rfl hl (by decide) rfl (fun ls hl => ?_)
  refine lv_aload_n hx hb dX8_ridersUnderWay_7 rfl (lv_at hl 0 rfl) ?_
  have hf_1 : f a7 = .inl (cs 5, 60, .inr (.inr (.inr (.inr (gl ad 2 n2))))) := hT.get hY.2.2.2.2.2.1
  obtain ⟨q_2, hq_2⟩ := pl_at (X := [(h0, .inr (8, [.ref a1, .ref a2, .ref a3, .ref a4, .ref a5, .ref a6, .ref a7, .ref a8, .ref a9, .int j_faultKind, .int j_horseCount, .int j_tabletCount, .int j_riderCount, .int j_lineLength, .int j_hour]))]) (f := f) (e := .inl (cs 5, 60, .inr (.inr (.inr (.inr (gl ad 2 n2)))))) hY.2.2.2.2.2.1.1 hf_1
  refine va_alen (v := 60) hx hb hK hP q_2 5 hq_2 rfl rfl dX8_ridersUnderWay_8 ?_
  refine lv_istore_n (lv' := [(3, .int 60), (2, .ref a7), (1, .int 0), (0, .ref h0)]) hx hb dX8_ridersUnderWay_9 rfl hl (by decide) rfl (fun ls hl => ?_)
  refine lv_iconst (v := 0) hx hb dX8_ridersUnderWay_10 (by decide) ?_
  refine lv_istore (lv' := [(4, .int 0), (3, .int 60), (2, .ref a7), (1, .int 0), (0, .ref h0)]) hx hb dX8_ridersUnderWay_11 hl (by decide) rfl (fun ls hl => ?_)
  have HL : ∀ (n k : Nat) (x1 : Int32), k ≤ 60 → 60 + 1 ≤ k + n → (x1 = nI (cn (pU S) (mn k n2))) → ∀ ls : Array Slot, lv_has ls 6 [(0, .ref h0), (1, .int x1), (2, .ref a7), (3, .int 60), (4, .int (nI k))] → W p l e (headSpec wsX8_ridersUnderWay ({ frames := 1, cells := 0, slots := 0, locals := 20 })).room s m ([.ref h0]).toArray below meth c s.heap [] 0 0 (MQ below (vp_Si (fun r => r = nI (cn (pU S) n2))) ([.ref h0]).toArray s 0 0 (fun _ => False)) (F0 m 13 ls []) := by
    intro n
    induction n with
    | zero => intro k x1 h1 h2; exact absurd h2 (by omega)
    | succ n ih =>
      intro k x1 hk hn hcn ls hl
      refine lv_iload hx hb dX8_ridersUnderWay_13 (lv_at hl 4 rfl) ?_
      refine lv_iload_n hx hb dX8_ridersUnderWay_15 rfl (lv_at hl 3 rfl) ?_
      refine lv_icmp_ge (tgt := 47) hx hb dX8_ridersUnderWay_16 (by decide) (fun c_3 => ?_) (fun c_3 => ?_)
      · have hke : k = 60 := by
          rcases Nat.lt_or_ge k 60 with q | q
          · exact absurd c_3 (nI_ge q (by decide))
          · omega
        refine lv_iload_n hx hb dX8_ridersUnderWay_47 rfl (lv_at hl 1 rfl) ?_
        exact W.iret (v := x1) hx hb hr (fun t9 ht hW => ⟨_, rfl, (cn_e hcn hke hT.b2), ht⟩) (fun q h => nomatch h) dX8_ridersUnderWay_48
      · have hlt : k < 60 := by
          rcases Nat.lt_or_ge k 60 with q | q
          · exact q
          · exact absurd (show nI 60 ≤ nI k from nI_le q (by omega)) c_3
        refine lv_aload_n hx hb dX8_ridersUnderWay_19 rfl (lv_at hl 2 rfl) ?_
        refine lv_iload hx hb dX8_ridersUnderWay_20 (lv_at hl 4 rfl) ?_
        have hf_4 : f a7 = .inl (cs 5, 60, .inr (.inr (.inr (.inr (gl ad 2 n2))))) := hT.get hY.2.2.2.2.2.1
        obtain ⟨q_5, hq_5⟩ := pl_at (X := [(h0, .inr (8, [.ref a1, .ref a2, .ref a3, .ref a4, .ref a5, .ref a6, .ref a7, .ref a8, .ref a9, .int j_faultKind, .int j_horseCount, .int j_tabletCount, .int j_riderCount, .int j_lineLength, .int j_hour]))]) (f := f) (e := .inl (cs 5, 60, .inr (.inr (.inr (.inr (gl ad 2 n2)))))) hY.2.2.2.2.2.1.1 hf_4
        refine va_aldq hx hb hK hP q_5 5 hq_5 rfl (vp_in_nI (by omega) (by omega)) dX8_ridersUnderWay_22 ?_
        by_cases c_6 : k < n2
        · rw [show gl ad 2 n2 (nI k).toNatClampNeg = some (ad 2 k) from by rw [(nI_clamp (by omega))]; exact gl_p c_6]
          refine W.eq (g2 := F0 m 23 ls [.ref (ad 2 k)]) rfl ?_
          refine lv_astore (lv' := [(5, .ref (ad 2 k)), (0, .ref h0), (1, .int x1), (2, .ref a7), (3, .int 60), (4, .int (nI k))]) hx hb dX8_ridersUnderWay_23 hl (by decide) rfl (fun ls hl => ?_)
          refine lv_aload hx hb dX8_ridersUnderWay_25 (lv_at hl 0 rfl) ?_
          refine lv_ifnull hx hb dX8_ridersUnderWay_27 ?_
          refine lv_aload hx hb dX8_ridersUnderWay_30 (lv_at hl 0 rfl) ?_
          have hPc := hP.part (cx := []) [] rfl
          have hDc := hD.part (cx := []) [] (by decide) rfl
          have hKc := hK
          have hf_7 : f (ad 2 k) = .inr (2, [.int (S 32 k 0), .int (S 33 k 0), .ref (ad 37 k), .ref (ad 36 k), .int (S 36 k 0), .int (S 37 k 0), .int (S 38 k 0), va_rf (oq ad 0 (S 39 k 0)), .int (S 40 k 0), .int (S 41 k 0)]) := hT.get (hT.k2 (i := k) (by omega))
          obtain ⟨q_8, hq_8⟩ := pl_at (X := []) (f := f) (e := .inr (2, [.int (S 32 k 0), .int (S 33 k 0), .ref (ad 37 k), .ref (ad 36 k), .int (S 36 k 0), .int (S 37 k 0), .int (S 38 k 0), va_rf (oq ad 0 (S 39 k 0)), .int (S 40 k 0), .int (S 41 k 0)])) (hT.k2 (i := k) (by omega)).1 hf_7
          refine cs_i (va_runV (As := []) (rest := []) ⟨hx, hb, hml, hown, hts⟩ (e_X2_isUnderWay l dC dI cs L ka ix ad n0 n6 n2 S f k (ad 2 k) s.heap.size hT (hT.k2 (i := k) (by omega)) (by omega)) (cwV 0 hts gX8_ridersUnderWay_X2_isUnderWay rfl rfl rfl (by decide +kernel) ⟨Nat.le_of_ble_eq_true rfl, Nat.le_of_ble_eq_true rfl⟩) ⟨c_blind, va_recv hKc hPc (ci := 2) (q0 := q_8) rfl hq_8, c_pre hPc hKc hDc hN⟩ rfl rfl hl.1 rfl (lv_room (Nat.le_of_ble_eq_true rfl)) dX8_ridersUnderWay_32 ⟨Nat.le_of_ble_eq_true rfl, Nat.le_of_ble_eq_true rfl⟩) (fun r_9 hr_9 => ?_)
          subst hr_9
          refine lv_if_eq (tgt := 41) hx hb dX8_ridersUnderWay_35 (by decide) (fun c_10 => ?_) (fun c_10 => ?_)
          · refine lv_iinc (v := nI (k + 1)) (lv' := [(4, .int (nI (k + 1))), (5, .ref (ad 2 k)), (0, .ref h0), (1, .int x1), (2, .ref a7), (3, .int 60)]) hx hb dX8_ridersUnderWay_41 hl (k := 5) rfl (by exact (nI_1 k)) (by decide) rfl (fun ls hl => ?_)
            refine lv_goto (tgt := 13) hx hb dX8_ridersUnderWay_44 (by decide) ?_
            exact ih (k + 1) x1 (by omega) (by omega) (cn_2 c_6 hcn (by unfold pU; rw [if_pos c_10])) ls (lv_sub hl [2, 3, 4, 5, 0] rfl)
          · refine lv_iinc (v := x1 + 1) (lv' := [(1, .int (x1 + 1)), (5, .ref (ad 2 k)), (0, .ref h0), (2, .ref a7), (3, .int 60), (4, .int (nI k))]) hx hb dX8_ridersUnderWay_38 hl (k := 2) rfl rfl (by decide) rfl (fun ls hl => ?_)
            refine lv_iinc (v := nI (k + 1)) (lv' := [(4, .int (nI (k + 1))), (1, .int (x1 + 1)), (5, .ref (ad 2 k)), (0, .ref h0), (2, .ref a7), (3, .int 60)]) hx hb dX8_ridersUnderWay_41 hl (k := 5) rfl (by exact (nI_1 k)) (by decide) rfl (fun ls hl => ?_)
            refine lv_goto (tgt := 13) hx hb dX8_ridersUnderWay_44 (by decide) ?_
            exact ih (k + 1) (x1 + 1) (by omega) (by omega) (cn_1 c_6 hcn (by unfold pU; rw [if_neg c_10])) ls (lv_sub hl [3, 1, 4, 5, 0] rfl)
        · rw [show gl ad 2 n2 (nI k).toNatClampNeg = none from by rw [(nI_clamp (by omega))]; exact gl_n c_6]
          refine W.eq (g2 := F0 m 23 ls [.null]) rfl ?_
          refine lv_astoreN (lv' := [(5, .null), (0, .ref h0), (1, .int x1), (2, .ref a7), (3, .int 60), (4, .int (nI k))]) hx hb dX8_ridersUnderWay_23 hl (by decide) rfl (fun ls hl => ?_)
          refine lv_aloadN hx hb dX8_ridersUnderWay_25 (lv_at hl 0 rfl) ?_
          refine lv_ifnullN (tgt := 41) hx hb dX8_ridersUnderWay_27 (by decide) ?_
          refine lv_iinc (v := nI (k + 1)) (lv' := [(4, .int (nI (k + 1))), (5, .null), (0, .ref h0), (1, .int x1), (2, .ref a7), (3, .int 60)]) hx hb dX8_ridersUnderWay_41 hl (k := 5) rfl (by exact (nI_1 k)) (by decide) rfl (fun ls hl => ?_)
          refine lv_goto (tgt := 13) hx hb dX8_ridersUnderWay_44 (by decide) ?_
          exact ih (k + 1) x1 (by omega) (by omega) (cn_3 c_6 hcn) ls (lv_sub hl [2, 3, 4, 5, 0] rfl)
  exact HL 61 0 0 (by omega) (by omega) cn_0 ls (lv_sub hl [4, 3, 2, 1, 0] rfl)

set_option maxHeartbeats 4000000 in
set_option maxRecDepth 100000 in
theorem e_X8_ridersWaitingAt (l : Launch) (dC : Nat → ClassId) (dI : Nat → Nat → Nat) (cs : Nat → ClassId) (L : List Nat) (ka : Nat → Nat) (ix : Nat → Nat) (ad : Nat → Nat → Nat) (n0 : Nat) (n6 : Nat) (n2 : Nat) (S : Nat → Nat → Nat → Int32) (f : Nat → va_E) (gq : Nat) (h0 : Nat) (a1 : Nat) (a2 : Nat) (a3 : Nat) (a4 : Nat) (a5 : Nat) (a6 : Nat) (a7 : Nat) (a8 : Nat) (a9 : Nat) (j_faultKind : Int32) (j_horseCount : Int32) (j_tabletCount : Int32) (j_riderCount : Int32) (j_lineLength : Int32) (j_hour : Int32) (p0 : Int32) (sz : Nat) (hT : tB L ka ix ad cs n0 n6 n2 S f) (hY : yX L ka ix ad gq a2 a3 a4 a5 a6 a7 a8 a9) : Met l yX8_ridersWaitingAt wsX8_ridersWaitingAt ({ frames := 2, cells := 0, slots := 0, locals := 41 }) (va_Pc [.ref h0, .int p0] (cP dC dI ([(h0, .inr (8, [.ref a1, .ref a2, .ref a3, .ref a4, .ref a5, .ref a6, .ref a7, .ref a8, .ref a9, .int j_faultKind, .int j_horseCount, .int j_tabletCount, .int j_riderCount, .int j_lineLength, .int j_hour]))] ++ va_pl L f) (tyC cs) sz)) (vp_Si (fun r => r = nI (cn (pW S p0) n2))) 0 0 (fun _ => False) := by
  refine Met.ofW (cc := cX8_ridersWaitingAt) (maxL := 7) (ret := (some .int)) (by decide) rfl ?_
  intro p e s m args below meth c s₁ B hml hv
  obtain ⟨rfl, hsz, hP, hK, hD0, hN⟩ := hv
  have hx := B.exec
  have hb := B.bytes
  have hr := B.returns
  have hts := atoms_spec (ws := wsX8_ridersWaitingAt) B.pre
  have hown : s.vm.findClass RX8 = some m.cls := findClass_of_methodNamed B.named
  have hlocks := B.notSynchronized
  subst hsz
  have hin2 : ∀ w ∈ u_ws RX2 TX2 10, w ∈ wsX8_ridersWaitingAt := by decide +kernel
  have hin8 : ∀ w ∈ u_ws RX8 TX8 15, w ∈ wsX8_ridersWaitingAt := by decide +kernel
  have hD := hD0
  have hP : va_P (dC, dI) vwCl ([(h0, .inr (8, [.ref a1, .ref a2, .ref a3, .ref a4, .ref a5, .ref a6, .ref a7, .ref a8, .ref a9, .int j_faultKind, .int j_horseCount, .int j_tabletCount, .int j_riderCount, .int j_lineLength, .int j_hour]))] ++ va_pl L f) s.heap := hP
  have hl := lv_entry ([.ref h0, .int p0]) (n := 7) (Nat.le_of_ble_eq_true rfl)
  rw [lg_entry_eq]
  generalize (lg_sl ([.ref h0, .int p0]) ++ List.replicate (7 - (lg_sl ([.ref h0, .int p0])).length) Slot.unset).toArray = ls at hl ⊢
  have hl : lv_has ls 7 [(0, .ref h0), (1, .int p0)] := hl
  refine lv_iconst (v := 0) hx hb dX8_ridersWaitingAt_0 (by decide) ?_
  refine lv_istore_n (lv' := [(2, .int 0), (0, .ref h0), (1, .int p0)]) hx hb dX8_ridersWaitingAt_1 rfl hl (by decide) rfl (fun ls hl => ?_)
  refine lv_aload_n hx hb dX8_ridersWaitingAt_2 rfl (lv_at hl 1 rfl) ?_
  refine va_get (D := (dC, dI)) (ci := 8) (v := .ref a7) (C := RX8) (T := TX8) (N := 15) hx hb hts hin8 hown hK hP 0 rfl rfl 6 (by decide) (hts (.fieldLink RX8 48 "YamRiders" "riders" "[LYamRiders$Rider;") (by decide +kernel)) (fun _ h9 => h9) rfl dX8_ridersWaitingAt_3 ?_
  refine lv_astore_n (lv' := [(3, .ref a7), (2, .int 0), (0, .ref h0), (1, .int p0)]) hx hb dX8_ridersWaitingAt_6 rfl hl (by decide) rfl (fun ls hl => ?_)
  refine lv_aload_n hx hb dX8_ridersWaitingAt_7 rfl (lv_at hl 0 rfl) ?_
  have hf_1 : f a7 = .inl (cs 5, 60, .inr (.inr (.inr (.inr (gl ad 2 n2))))) := hT.get hY.2.2.2.2.2.1
  obtain ⟨q_2, hq_2⟩ := pl_at (X := [(h0, .inr (8, [.ref a1, .ref a2, .ref a3, .ref a4, .ref a5, .ref a6, .ref a7, .ref a8, .ref a9, .int j_faultKind, .int j_horseCount, .int j_tabletCount, .int j_riderCount, .int j_lineLength, .int j_hour]))]) (f := f) (e := .inl (cs 5, 60, .inr (.inr (.inr (.inr (gl ad 2 n2)))))) hY.2.2.2.2.2.1.1 hf_1
  refine va_alen (v := 60) hx hb hK hP q_2 5 hq_2 rfl rfl dX8_ridersWaitingAt_8 ?_
  refine lv_istore (lv' := [(4, .int 60), (3, .ref a7), (2, .int 0), (0, .ref h0), (1, .int p0)]) hx hb dX8_ridersWaitingAt_9 hl (by decide) rfl (fun ls hl => ?_)
  refine lv_iconst (v := 0) hx hb dX8_ridersWaitingAt_11 (by decide) ?_
  refine lv_istore (lv' := [(5, .int 0), (4, .int 60), (3, .ref a7), (2, .int 0), (0, .ref h0), (1, .int p0)]) hx hb dX8_ridersWaitingAt_12 hl (by decide) rfl (fun ls hl => ?_)
  have HL : ∀ (n k : Nat) (x2 : Int32), k ≤ 60 → 60 + 1 ≤ k + n → (x2 = nI (cn (pW S p0) (mn k n2))) → ∀ ls : Array Slot, lv_has ls 7 [(0, .ref h0), (1, .int p0), (2, .int x2), (3, .ref a7), (4, .int 60), (5, .int (nI k))] → W p l e (headSpec wsX8_ridersWaitingAt ({ frames := 2, cells := 0, slots := 0, locals := 41 })).room s m ([.ref h0, .int p0]).toArray below meth c s.heap [] 0 0 (MQ below (vp_Si (fun r => r = nI (cn (pW S p0) n2))) ([.ref h0, .int p0]).toArray s 0 0 (fun _ => False)) (F0 m 14 ls []) := by
    intro n
    induction n with
    | zero => intro k x2 h1 h2; exact absurd h2 (by omega)
    | succ n ih =>
      intro k x2 hk hn hcn ls hl
      refine lv_iload hx hb dX8_ridersWaitingAt_14 (lv_at hl 5 rfl) ?_
      refine lv_iload hx hb dX8_ridersWaitingAt_16 (lv_at hl 4 rfl) ?_
      refine lv_icmp_ge (tgt := 58) hx hb dX8_ridersWaitingAt_18 (by decide) (fun c_3 => ?_) (fun c_3 => ?_)
      · have hke : k = 60 := by
          rcases Nat.lt_or_ge k 60 with q | q
          · exact absurd c_3 (nI_ge q (by decide))
          · omega
        refine lv_iload_n hx hb dX8_ridersWaitingAt_58 rfl (lv_at hl 2 rfl) ?_
        exact W.iret (v := x2) hx hb hr (fun t9 ht hW => ⟨_, rfl, (cn_e hcn hke hT.b2), ht⟩) (fun q h => nomatch h) dX8_ridersWaitingAt_59
      · have hlt : k < 60 := by
          rcases Nat.lt_or_ge k 60 with q | q
          · exact q
          · exact absurd (show nI 60 ≤ nI k from nI_le q (by omega)) c_3
        refine lv_aload_n hx hb dX8_ridersWaitingAt_21 rfl (lv_at hl 3 rfl) ?_
        refine lv_iload hx hb dX8_ridersWaitingAt_22 (lv_at hl 5 rfl) ?_
        have hf_4 : f a7 = .inl (cs 5, 60, .inr (.inr (.inr (.inr (gl ad 2 n2))))) := hT.get hY.2.2.2.2.2.1
        obtain ⟨q_5, hq_5⟩ := pl_at (X := [(h0, .inr (8, [.ref a1, .ref a2, .ref a3, .ref a4, .ref a5, .ref a6, .ref a7, .ref a8, .ref a9, .int j_faultKind, .int j_horseCount, .int j_tabletCount, .int j_riderCount, .int j_lineLength, .int j_hour]))]) (f := f) (e := .inl (cs 5, 60, .inr (.inr (.inr (.inr (gl ad 2 n2)))))) hY.2.2.2.2.2.1.1 hf_4
        refine va_aldq hx hb hK hP q_5 5 hq_5 rfl (vp_in_nI (by omega) (by omega)) dX8_ridersWaitingAt_24 ?_
        by_cases c_6 : k < n2
        · rw [show gl ad 2 n2 (nI k).toNatClampNeg = some (ad 2 k) from by rw [(nI_clamp (by omega))]; exact gl_p c_6]
          refine W.eq (g2 := F0 m 25 ls [.ref (ad 2 k)]) rfl ?_
          refine lv_astore (lv' := [(6, .ref (ad 2 k)), (0, .ref h0), (1, .int p0), (2, .int x2), (3, .ref a7), (4, .int 60), (5, .int (nI k))]) hx hb dX8_ridersWaitingAt_25 hl (by decide) rfl (fun ls hl => ?_)
          refine lv_aload hx hb dX8_ridersWaitingAt_27 (lv_at hl 0 rfl) ?_
          refine lv_ifnull hx hb dX8_ridersWaitingAt_29 ?_
          refine lv_aload hx hb dX8_ridersWaitingAt_32 (lv_at hl 0 rfl) ?_
          have hf_7 : f (ad 2 k) = .inr (2, [.int (S 32 k 0), .int (S 33 k 0), .ref (ad 37 k), .ref (ad 36 k), .int (S 36 k 0), .int (S 37 k 0), .int (S 38 k 0), va_rf (oq ad 0 (S 39 k 0)), .int (S 40 k 0), .int (S 41 k 0)]) := hT.get (hT.k2 (i := k) (by omega))
          obtain ⟨q_8, hq_8⟩ := pl_at (X := [(h0, .inr (8, [.ref a1, .ref a2, .ref a3, .ref a4, .ref a5, .ref a6, .ref a7, .ref a8, .ref a9, .int j_faultKind, .int j_horseCount, .int j_tabletCount, .int j_riderCount, .int j_lineLength, .int j_hour]))]) (f := f) (e := .inr (2, [.int (S 32 k 0), .int (S 33 k 0), .ref (ad 37 k), .ref (ad 36 k), .int (S 36 k 0), .int (S 37 k 0), .int (S 38 k 0), va_rf (oq ad 0 (S 39 k 0)), .int (S 40 k 0), .int (S 41 k 0)])) (hT.k2 (i := k) (by omega)).1 hf_7
          refine va_getN (D := (dC, dI)) (ci := 2) (v := .int (S 36 k 0)) (C := RX2) (T := TX2) (N := 10) hx hb hts hin2 hown hK hP q_8 hq_8 rfl 4 (by decide) (hN.nx (.fieldLinkNest RX8 158 "YamRiders$Rider" "state" "I" "YamRiders") (by decide +kernel)) (fun _ h9 => h9) rfl dX8_ridersWaitingAt_34 ?_
          refine lv_if_ne (tgt := 52) hx hb dX8_ridersWaitingAt_37 (by decide) (fun c_9 => ?_) (fun c_9 => ?_)
          · refine lv_iinc (v := nI (k + 1)) (lv' := [(5, .int (nI (k + 1))), (6, .ref (ad 2 k)), (0, .ref h0), (1, .int p0), (2, .int x2), (3, .ref a7), (4, .int 60)]) hx hb dX8_ridersWaitingAt_52 hl (k := 6) rfl (by exact (nI_1 k)) (by decide) rfl (fun ls hl => ?_)
            refine lv_goto (tgt := 14) hx hb dX8_ridersWaitingAt_55 (by decide) ?_
            exact ih (k + 1) x2 (by omega) (by omega) (cn_2 c_6 hcn (by unfold pW; rw [if_neg c_9])) ls (lv_sub hl [2, 3, 4, 5, 6, 0] rfl)
          · refine lv_aload hx hb dX8_ridersWaitingAt_40 (lv_at hl 0 rfl) ?_
            have hPc := hP.part (cx := []) [] rfl
            have hDc := hD.part (cx := []) [] (by decide) rfl
            have hKc := hK
            obtain ⟨q_10, hq_10⟩ := pl_at (X := []) (f := f) (e := .inr (2, [.int (S 32 k 0), .int (S 33 k 0), .ref (ad 37 k), .ref (ad 36 k), .int (S 36 k 0), .int (S 37 k 0), .int (S 38 k 0), va_rf (oq ad 0 (S 39 k 0)), .int (S 40 k 0), .int (S 41 k 0)])) (hT.k2 (i := k) (by omega)).1 hf_7
            refine cs_i (va_runV (As := []) (rest := []) ⟨hx, hb, hml, hown, hts⟩ (e_X2_lastStation l dC dI cs L ka ix ad n0 n6 n2 S f k (ad 2 k) s.heap.size hT (hT.k2 (i := k) (by omega)) (by omega)) (cwV 0 hts gX8_ridersWaitingAt_X2_lastStation rfl rfl rfl (by decide +kernel) ⟨Nat.le_of_ble_eq_true rfl, Nat.le_of_ble_eq_true rfl⟩) ⟨c_blind, va_recv hKc hPc (ci := 2) (q0 := q_10) rfl hq_10, c_pre hPc hKc hDc hN⟩ rfl rfl hl.1 rfl (lv_room (Nat.le_of_ble_eq_true rfl)) dX8_ridersWaitingAt_42 ⟨Nat.le_of_ble_eq_true rfl, Nat.le_of_ble_eq_true rfl⟩) (fun r_11 hr_11 => ?_)
            subst hr_11
            refine lv_iload_n hx hb dX8_ridersWaitingAt_45 rfl (lv_at hl 2 rfl) ?_
            refine lv_icmp_ne (tgt := 52) hx hb dX8_ridersWaitingAt_46 (by decide) (fun c_12 => ?_) (fun c_12 => ?_)
            · refine lv_iinc (v := nI (k + 1)) (lv' := [(5, .int (nI (k + 1))), (6, .ref (ad 2 k)), (0, .ref h0), (1, .int p0), (2, .int x2), (3, .ref a7), (4, .int 60)]) hx hb dX8_ridersWaitingAt_52 hl (k := 6) rfl (by exact (nI_1 k)) (by decide) rfl (fun ls hl => ?_)
              refine lv_goto (tgt := 14) hx hb dX8_ridersWaitingAt_55 (by decide) ?_
              exact ih (k + 1) x2 (by omega) (by omega) (cn_2 c_6 hcn (by unfold pW; rw [if_pos c_9, if_neg c_12])) ls (lv_sub hl [2, 3, 4, 5, 6, 0] rfl)
            · refine lv_iinc (v := x2 + 1) (lv' := [(2, .int (x2 + 1)), (6, .ref (ad 2 k)), (0, .ref h0), (1, .int p0), (3, .ref a7), (4, .int 60), (5, .int (nI k))]) hx hb dX8_ridersWaitingAt_49 hl (k := 3) rfl rfl (by decide) rfl (fun ls hl => ?_)
              refine lv_iinc (v := nI (k + 1)) (lv' := [(5, .int (nI (k + 1))), (2, .int (x2 + 1)), (6, .ref (ad 2 k)), (0, .ref h0), (1, .int p0), (3, .ref a7), (4, .int 60)]) hx hb dX8_ridersWaitingAt_52 hl (k := 6) rfl (by exact (nI_1 k)) (by decide) rfl (fun ls hl => ?_)
              refine lv_goto (tgt := 14) hx hb dX8_ridersWaitingAt_55 (by decide) ?_
              exact ih (k + 1) (x2 + 1) (by omega) (by omega) (cn_1 c_6 hcn (by unfold pW; rw [if_pos c_9, if_pos c_12])) ls (lv_sub hl [3, 4, 1, 5, 6, 0] rfl)
        · rw [show gl ad 2 n2 (nI k).toNatClampNeg = none from by rw [(nI_clamp (by omega))]; exact gl_n c_6]
          refine W.eq (g2 := F0 m 25 ls [.null]) rfl ?_
          refine lv_astoreN (lv' := [(6, .null), (0, .ref h0), (1, .int p0), (2, .int x2), (3, .ref a7), (4, .int 60), (5, .int (nI k))]) hx hb dX8_ridersWaitingAt_25 hl (by decide) rfl (fun ls hl => ?_)
          refine lv_aloadN hx hb dX8_ridersWaitingAt_27 (lv_at hl 0 rfl) ?_
          refine lv_ifnullN (tgt := 52) hx hb dX8_ridersWaitingAt_29 (by decide) ?_
          refine lv_iinc (v := nI (k + 1)) (lv' := [(5, .int (nI (k + 1))), (6, .null), (0, .ref h0), (1, .int p0), (2, .int x2), (3, .ref a7), (4, .int 60)]) hx hb dX8_ridersWaitingAt_52 hl (k := 6) rfl (by exact (nI_1 k)) (by decide) rfl (fun ls hl => ?_)
          refine lv_goto (tgt := 14) hx hb dX8_ridersWaitingAt_55 (by decide) ?_
          exact ih (k + 1) x2 (by omega) (by omega) (cn_3 c_6 hcn) ls (lv_sub hl [2, 3, 4, 5, 6, 0] rfl)
  exact HL 61 0 0 (by omega) (by omega) cn_0 ls (lv_sub hl [4, 5, 3, 2, 1, 0] rfl)

set_option maxHeartbeats 4000000 in
set_option maxRecDepth 100000 in
theorem e_X8_horsesAt (l : Launch) (dC : Nat → ClassId) (dI : Nat → Nat → Nat) (cs : Nat → ClassId) (L : List Nat) (ka : Nat → Nat) (ix : Nat → Nat) (ad : Nat → Nat → Nat) (n0 : Nat) (n6 : Nat) (n2 : Nat) (S : Nat → Nat → Nat → Int32) (f : Nat → va_E) (gq : Nat) (h0 : Nat) (a1 : Nat) (a2 : Nat) (a3 : Nat) (a4 : Nat) (a5 : Nat) (a6 : Nat) (a7 : Nat) (a8 : Nat) (a9 : Nat) (j_faultKind : Int32) (j_horseCount : Int32) (j_tabletCount : Int32) (j_riderCount : Int32) (j_lineLength : Int32) (j_hour : Int32) (p0 : Int32) (sz : Nat) (hT : tB L ka ix ad cs n0 n6 n2 S f) (hY : yX L ka ix ad gq a2 a3 a4 a5 a6 a7 a8 a9) : Met l yX8_horsesAt wsX8_horsesAt ({ frames := 0, cells := 0, slots := 0, locals := 0 }) (va_Pc [.ref h0, .int p0] (cP dC dI ([(h0, .inr (8, [.ref a1, .ref a2, .ref a3, .ref a4, .ref a5, .ref a6, .ref a7, .ref a8, .ref a9, .int j_faultKind, .int j_horseCount, .int j_tabletCount, .int j_riderCount, .int j_lineLength, .int j_hour]))] ++ va_pl L f) (tyC cs) sz)) (vp_Si (fun r => r = nI (cn (pH S p0) n0))) 0 0 (fun _ => False) := by
  refine Met.ofW (cc := cX8_horsesAt) (maxL := 7) (ret := (some .int)) (by decide) rfl ?_
  intro p e s m args below meth c s₁ B hml hv
  obtain ⟨rfl, hsz, hP, hK, hD0, hN⟩ := hv
  have hx := B.exec
  have hb := B.bytes
  have hr := B.returns
  have hts := atoms_spec (ws := wsX8_horsesAt) B.pre
  have hown : s.vm.findClass RX8 = some m.cls := findClass_of_methodNamed B.named
  have hlocks := B.notSynchronized
  subst hsz
  have hin0 : ∀ w ∈ u_ws RX0 TX0 3, w ∈ wsX8_horsesAt := by decide +kernel
  have hin8 : ∀ w ∈ u_ws RX8 TX8 15, w ∈ wsX8_horsesAt := by decide +kernel
  have hD := hD0
  have hP : va_P (dC, dI) vwCl ([(h0, .inr (8, [.ref a1, .ref a2, .ref a3, .ref a4, .ref a5, .ref a6, .ref a7, .ref a8, .ref a9, .int j_faultKind, .int j_horseCount, .int j_tabletCount, .int j_riderCount, .int j_lineLength, .int j_hour]))] ++ va_pl L f) s.heap := hP
  have hl := lv_entry ([.ref h0, .int p0]) (n := 7) (Nat.le_of_ble_eq_true rfl)
  rw [lg_entry_eq]
  generalize (lg_sl ([.ref h0, .int p0]) ++ List.replicate (7 - (lg_sl ([.ref h0, .int p0])).length) Slot.unset).toArray = ls at hl ⊢
  have hl : lv_has ls 7 [(0, .ref h0), (1, .int p0)] := hl
  refine lv_iconst (v := 0) hx hb dX8_horsesAt_0 (by decide) ?_
  refine lv_istore_n (lv' := [(2, .int 0), (0, .ref h0), (1, .int p0)]) hx hb dX8_horsesAt_1 rfl hl (by decide) rfl (fun ls hl => ?_)
  refine lv_aload_n hx hb dX8_horsesAt_2 rfl (lv_at hl 1 rfl) ?_
  refine va_get (D := (dC, dI)) (ci := 8) (v := .ref a5) (C := RX8) (T := TX8) (N := 15) hx hb hts hin8 hown hK hP 0 rfl rfl 4 (by decide) (hts (.fieldLink RX8 36 "YamRiders" "horses" "[LYamRiders$Horse;") (by decide +kernel)) (fun _ h9 => h9) rfl dX8_horsesAt_3 ?_
  refine lv_astore_n (lv' := [(3, .ref a5), (2, .int 0), (0, .ref h0), (1, .int p0)]) hx hb dX8_horsesAt_6 rfl hl (by decide) rfl (fun ls hl => ?_)
  refine lv_aload_n hx hb dX8_horsesAt_7 rfl (lv_at hl 0 rfl) ?_
  have hf_1 : f a5 = .inl (cs 3, 60, .inr (.inr (.inr (.inr (gl ad 0 n0))))) := hT.get hY.2.2.2.1
  obtain ⟨q_2, hq_2⟩ := pl_at (X := [(h0, .inr (8, [.ref a1, .ref a2, .ref a3, .ref a4, .ref a5, .ref a6, .ref a7, .ref a8, .ref a9, .int j_faultKind, .int j_horseCount, .int j_tabletCount, .int j_riderCount, .int j_lineLength, .int j_hour]))]) (f := f) (e := .inl (cs 3, 60, .inr (.inr (.inr (.inr (gl ad 0 n0)))))) hY.2.2.2.1.1 hf_1
  refine va_alen (v := 60) hx hb hK hP q_2 3 hq_2 rfl rfl dX8_horsesAt_8 ?_
  refine lv_istore (lv' := [(4, .int 60), (3, .ref a5), (2, .int 0), (0, .ref h0), (1, .int p0)]) hx hb dX8_horsesAt_9 hl (by decide) rfl (fun ls hl => ?_)
  refine lv_iconst (v := 0) hx hb dX8_horsesAt_11 (by decide) ?_
  refine lv_istore (lv' := [(5, .int 0), (4, .int 60), (3, .ref a5), (2, .int 0), (0, .ref h0), (1, .int p0)]) hx hb dX8_horsesAt_12 hl (by decide) rfl (fun ls hl => ?_)
  have HL : ∀ (n k : Nat) (x2 : Int32), k ≤ 60 → 60 + 1 ≤ k + n → (x2 = nI (cn (pH S p0) (mn k n0))) → ∀ ls : Array Slot, lv_has ls 7 [(0, .ref h0), (1, .int p0), (2, .int x2), (3, .ref a5), (4, .int 60), (5, .int (nI k))] → W p l e (headSpec wsX8_horsesAt ({ frames := 0, cells := 0, slots := 0, locals := 0 })).room s m ([.ref h0, .int p0]).toArray below meth c s.heap [] 0 0 (MQ below (vp_Si (fun r => r = nI (cn (pH S p0) n0))) ([.ref h0, .int p0]).toArray s 0 0 (fun _ => False)) (F0 m 14 ls []) := by
    intro n
    induction n with
    | zero => intro k x2 h1 h2; exact absurd h2 (by omega)
    | succ n ih =>
      intro k x2 hk hn hcn ls hl
      refine lv_iload hx hb dX8_horsesAt_14 (lv_at hl 5 rfl) ?_
      refine lv_iload hx hb dX8_horsesAt_16 (lv_at hl 4 rfl) ?_
      refine lv_icmp_ge (tgt := 50) hx hb dX8_horsesAt_18 (by decide) (fun c_3 => ?_) (fun c_3 => ?_)
      · have hke : k = 60 := by
          rcases Nat.lt_or_ge k 60 with q | q
          · exact absurd c_3 (nI_ge q (by decide))
          · omega
        refine lv_iload_n hx hb dX8_horsesAt_50 rfl (lv_at hl 2 rfl) ?_
        exact W.iret (v := x2) hx hb hr (fun t9 ht hW => ⟨_, rfl, (cn_e hcn hke hT.b0), ht⟩) (fun q h => nomatch h) dX8_horsesAt_51
      · have hlt : k < 60 := by
          rcases Nat.lt_or_ge k 60 with q | q
          · exact q
          · exact absurd (show nI 60 ≤ nI k from nI_le q (by omega)) c_3
        refine lv_aload_n hx hb dX8_horsesAt_21 rfl (lv_at hl 3 rfl) ?_
        refine lv_iload hx hb dX8_horsesAt_22 (lv_at hl 5 rfl) ?_
        have hf_4 : f a5 = .inl (cs 3, 60, .inr (.inr (.inr (.inr (gl ad 0 n0))))) := hT.get hY.2.2.2.1
        obtain ⟨q_5, hq_5⟩ := pl_at (X := [(h0, .inr (8, [.ref a1, .ref a2, .ref a3, .ref a4, .ref a5, .ref a6, .ref a7, .ref a8, .ref a9, .int j_faultKind, .int j_horseCount, .int j_tabletCount, .int j_riderCount, .int j_lineLength, .int j_hour]))]) (f := f) (e := .inl (cs 3, 60, .inr (.inr (.inr (.inr (gl ad 0 n0)))))) hY.2.2.2.1.1 hf_4
        refine va_aldq hx hb hK hP q_5 3 hq_5 rfl (vp_in_nI (by omega) (by omega)) dX8_horsesAt_24 ?_
        by_cases c_6 : k < n0
        · rw [show gl ad 0 n0 (nI k).toNatClampNeg = some (ad 0 k) from by rw [(nI_clamp (by omega))]; exact gl_p c_6]
          refine W.eq (g2 := F0 m 25 ls [.ref (ad 0 k)]) rfl ?_
          refine lv_astore (lv' := [(6, .ref (ad 0 k)), (0, .ref h0), (1, .int p0), (2, .int x2), (3, .ref a5), (4, .int 60), (5, .int (nI k))]) hx hb dX8_horsesAt_25 hl (by decide) rfl (fun ls hl => ?_)
          refine lv_aload hx hb dX8_horsesAt_27 (lv_at hl 0 rfl) ?_
          refine lv_ifnull hx hb dX8_horsesAt_29 ?_
          refine lv_aload hx hb dX8_horsesAt_32 (lv_at hl 0 rfl) ?_
          have hf_7 : f (ad 0 k) = .inr (0, [.int (nI k), .int (S 1 k 0), .int (S 2 k 0)]) := hT.get (hT.k0 (i := k) (by omega))
          obtain ⟨q_8, hq_8⟩ := pl_at (X := [(h0, .inr (8, [.ref a1, .ref a2, .ref a3, .ref a4, .ref a5, .ref a6, .ref a7, .ref a8, .ref a9, .int j_faultKind, .int j_horseCount, .int j_tabletCount, .int j_riderCount, .int j_lineLength, .int j_hour]))]) (f := f) (e := .inr (0, [.int (nI k), .int (S 1 k 0), .int (S 2 k 0)])) (hT.k0 (i := k) (by omega)).1 hf_7
          refine va_getN (D := (dC, dI)) (ci := 0) (v := .int (S 1 k 0)) (C := RX0) (T := TX0) (N := 3) hx hb hts hin0 hown hK hP q_8 hq_8 rfl 1 (by decide) (hN.nx (.fieldLinkNest RX8 209 "YamRiders$Horse" "station" "I" "YamRiders") (by decide +kernel)) (fun _ h9 => h9) rfl dX8_horsesAt_34 ?_
          refine lv_iload_n hx hb dX8_horsesAt_37 rfl (lv_at hl 2 rfl) ?_
          refine lv_icmp_ne (tgt := 44) hx hb dX8_horsesAt_38 (by decide) (fun c_9 => ?_) (fun c_9 => ?_)
          · refine lv_iinc (v := nI (k + 1)) (lv' := [(5, .int (nI (k + 1))), (6, .ref (ad 0 k)), (0, .ref h0), (1, .int p0), (2, .int x2), (3, .ref a5), (4, .int 60)]) hx hb dX8_horsesAt_44 hl (k := 6) rfl (by exact (nI_1 k)) (by decide) rfl (fun ls hl => ?_)
            refine lv_goto (tgt := 14) hx hb dX8_horsesAt_47 (by decide) ?_
            exact ih (k + 1) x2 (by omega) (by omega) (cn_2 c_6 hcn (by unfold pH; rw [if_neg c_9])) ls (lv_sub hl [2, 3, 4, 5, 6, 0] rfl)
          · refine lv_iinc (v := x2 + 1) (lv' := [(2, .int (x2 + 1)), (6, .ref (ad 0 k)), (0, .ref h0), (1, .int p0), (3, .ref a5), (4, .int 60), (5, .int (nI k))]) hx hb dX8_horsesAt_41 hl (k := 3) rfl rfl (by decide) rfl (fun ls hl => ?_)
            refine lv_iinc (v := nI (k + 1)) (lv' := [(5, .int (nI (k + 1))), (2, .int (x2 + 1)), (6, .ref (ad 0 k)), (0, .ref h0), (1, .int p0), (3, .ref a5), (4, .int 60)]) hx hb dX8_horsesAt_44 hl (k := 6) rfl (by exact (nI_1 k)) (by decide) rfl (fun ls hl => ?_)
            refine lv_goto (tgt := 14) hx hb dX8_horsesAt_47 (by decide) ?_
            exact ih (k + 1) (x2 + 1) (by omega) (by omega) (cn_1 c_6 hcn (by unfold pH; rw [if_pos c_9])) ls (lv_sub hl [3, 4, 1, 5, 6, 0] rfl)
        · rw [show gl ad 0 n0 (nI k).toNatClampNeg = none from by rw [(nI_clamp (by omega))]; exact gl_n c_6]
          refine W.eq (g2 := F0 m 25 ls [.null]) rfl ?_
          refine lv_astoreN (lv' := [(6, .null), (0, .ref h0), (1, .int p0), (2, .int x2), (3, .ref a5), (4, .int 60), (5, .int (nI k))]) hx hb dX8_horsesAt_25 hl (by decide) rfl (fun ls hl => ?_)
          refine lv_aloadN hx hb dX8_horsesAt_27 (lv_at hl 0 rfl) ?_
          refine lv_ifnullN (tgt := 44) hx hb dX8_horsesAt_29 (by decide) ?_
          refine lv_iinc (v := nI (k + 1)) (lv' := [(5, .int (nI (k + 1))), (6, .null), (0, .ref h0), (1, .int p0), (2, .int x2), (3, .ref a5), (4, .int 60)]) hx hb dX8_horsesAt_44 hl (k := 6) rfl (by exact (nI_1 k)) (by decide) rfl (fun ls hl => ?_)
          refine lv_goto (tgt := 14) hx hb dX8_horsesAt_47 (by decide) ?_
          exact ih (k + 1) x2 (by omega) (by omega) (cn_3 c_6 hcn) ls (lv_sub hl [2, 3, 4, 5, 6, 0] rfl)
  exact HL 61 0 0 (by omega) (by omega) cn_0 ls (lv_sub hl [4, 5, 3, 2, 1, 0] rfl)

set_option maxHeartbeats 4000000 in
set_option maxRecDepth 100000 in
theorem e_X8_strongestAt (l : Launch) (dC : Nat → ClassId) (dI : Nat → Nat → Nat) (cs : Nat → ClassId) (L : List Nat) (ka : Nat → Nat) (ix : Nat → Nat) (ad : Nat → Nat → Nat) (n0 : Nat) (n6 : Nat) (n2 : Nat) (S : Nat → Nat → Nat → Int32) (f : Nat → va_E) (gq : Nat) (h0 : Nat) (a1 : Nat) (a2 : Nat) (a3 : Nat) (a4 : Nat) (a5 : Nat) (a6 : Nat) (a7 : Nat) (a8 : Nat) (a9 : Nat) (j_faultKind : Int32) (j_horseCount : Int32) (j_tabletCount : Int32) (j_riderCount : Int32) (j_lineLength : Int32) (j_hour : Int32) (p0 : Int32) (sz : Nat) (hT : tB L ka ix ad cs n0 n6 n2 S f) (hY : yX L ka ix ad gq a2 a3 a4 a5 a6 a7 a8 a9) : Met l yX8_strongestAt wsX8_strongestAt ({ frames := 0, cells := 0, slots := 0, locals := 0 }) (va_Pc [.ref h0, .int p0] (cP dC dI ([(h0, .inr (8, [.ref a1, .ref a2, .ref a3, .ref a4, .ref a5, .ref a6, .ref a7, .ref a8, .ref a9, .int j_faultKind, .int j_horseCount, .int j_tabletCount, .int j_riderCount, .int j_lineLength, .int j_hour]))] ++ va_pl L f) (tyC cs) sz)) (va_Sq (fun r => r = oq ad 0 (bst S p0 n0))) 0 0 (fun _ => False) := by
  refine Met.ofW (cc := cX8_strongestAt) (maxL := 7) (ret := (some (.object "YamRiders$Horse"))) (by decide) rfl ?_
  intro p e s m args below meth c s₁ B hml hv
  obtain ⟨rfl, hsz, hP, hK, hD0, hN⟩ := hv
  have hx := B.exec
  have hb := B.bytes
  have hr := B.returns
  have hts := atoms_spec (ws := wsX8_strongestAt) B.pre
  have hown : s.vm.findClass RX8 = some m.cls := findClass_of_methodNamed B.named
  have hlocks := B.notSynchronized
  subst hsz
  have hin0 : ∀ w ∈ u_ws RX0 TX0 3, w ∈ wsX8_strongestAt := by decide +kernel
  have hin8 : ∀ w ∈ u_ws RX8 TX8 15, w ∈ wsX8_strongestAt := by decide +kernel
  have hD := hD0
  have hP : va_P (dC, dI) vwCl ([(h0, .inr (8, [.ref a1, .ref a2, .ref a3, .ref a4, .ref a5, .ref a6, .ref a7, .ref a8, .ref a9, .int j_faultKind, .int j_horseCount, .int j_tabletCount, .int j_riderCount, .int j_lineLength, .int j_hour]))] ++ va_pl L f) s.heap := hP
  have hl := lv_entry ([.ref h0, .int p0]) (n := 7) (Nat.le_of_ble_eq_true rfl)
  rw [lg_entry_eq]
  generalize (lg_sl ([.ref h0, .int p0]) ++ List.replicate (7 - (lg_sl ([.ref h0, .int p0])).length) Slot.unset).toArray = ls at hl ⊢
  have hl : lv_has ls 7 [(0, .ref h0), (1, .int p0)] := hl
  refine lv_null hx hb dX8_strongestAt_0 ?_
  refine lv_astore_nN (lv' := [(2, .null), (0, .ref h0), (1, .int p0)]) hx hb dX8_strongestAt_1 rfl hl (by decide) rfl (fun ls hl => ?_)
  refine lv_aload_n hx hb dX8_strongestAt_2 rfl (lv_at hl 1 rfl) ?_
  refine va_get (D := (dC, dI)) (ci := 8) (v := .ref a5) (C := RX8) (T := TX8) (N := 15) hx hb hts hin8 hown hK hP 0 rfl rfl 4 (by decide) (hts (.fieldLink RX8 36 "YamRiders" "horses" "[LYamRiders$Horse;") (by decide +kernel)) (fun _ h9 => h9) rfl dX8_strongestAt_3 ?_
  refine lv_astore_n (lv' := [(3, .ref a5), (2, .null), (0, .ref h0), (1, .int p0)]) hx hb dX8_strongestAt_6 rfl hl (by decide) rfl (fun ls hl => ?_)
  refine lv_aload_n hx hb dX8_strongestAt_7 rfl (lv_at hl 0 rfl) ?_
  have hf_1 : f a5 = .inl (cs 3, 60, .inr (.inr (.inr (.inr (gl ad 0 n0))))) := hT.get hY.2.2.2.1
  obtain ⟨q_2, hq_2⟩ := pl_at (X := [(h0, .inr (8, [.ref a1, .ref a2, .ref a3, .ref a4, .ref a5, .ref a6, .ref a7, .ref a8, .ref a9, .int j_faultKind, .int j_horseCount, .int j_tabletCount, .int j_riderCount, .int j_lineLength, .int j_hour]))]) (f := f) (e := .inl (cs 3, 60, .inr (.inr (.inr (.inr (gl ad 0 n0)))))) hY.2.2.2.1.1 hf_1
  refine va_alen (v := 60) hx hb hK hP q_2 3 hq_2 rfl rfl dX8_strongestAt_8 ?_
  refine lv_istore (lv' := [(4, .int 60), (3, .ref a5), (2, .null), (0, .ref h0), (1, .int p0)]) hx hb dX8_strongestAt_9 hl (by decide) rfl (fun ls hl => ?_)
  refine lv_iconst (v := 0) hx hb dX8_strongestAt_11 (by decide) ?_
  refine lv_istore (lv' := [(5, .int 0), (4, .int 60), (3, .ref a5), (2, .null), (0, .ref h0), (1, .int p0)]) hx hb dX8_strongestAt_12 hl (by decide) rfl (fun ls hl => ?_)
  have HL : ∀ (n k : Nat) (q2 : Int32), k ≤ 60 → 60 + 1 ≤ k + n → (q2 = -1 ∨ ∃ u, u < n0 ∧ q2 = nI u) → (q2 = bst S p0 (mn k n0)) → ∀ ls : Array Slot, lv_has ls 7 [(0, .ref h0), (1, .int p0), (2, va_rf (oq ad 0 q2)), (3, .ref a5), (4, .int 60), (5, .int (nI k))] → W p l e (headSpec wsX8_strongestAt ({ frames := 0, cells := 0, slots := 0, locals := 0 })).room s m ([.ref h0, .int p0]).toArray below meth c s.heap [] 0 0 (MQ below (va_Sq (fun r => r = oq ad 0 (bst S p0 n0))) ([.ref h0, .int p0]).toArray s 0 0 (fun _ => False)) (F0 m 14 ls []) := by
    intro n
    induction n with
    | zero => intro k q2 h1 h2; exact absurd h2 (by omega)
    | succ n ih =>
      intro k q2 hk hn hq2 hbs ls hl
      refine lv_iload hx hb dX8_strongestAt_14 (lv_at hl 5 rfl) ?_
      refine lv_iload hx hb dX8_strongestAt_16 (lv_at hl 4 rfl) ?_
      refine lv_icmp_ge (tgt := 66) hx hb dX8_strongestAt_18 (by decide) (fun c_3 => ?_) (fun c_3 => ?_)
      · have hke : k = 60 := by
          rcases Nat.lt_or_ge k 60 with q | q
          · exact absurd c_3 (nI_ge q (by decide))
          · omega
        by_cases c_4 : q2 = -1
        · have hl : lv_has ls 7 [(0, .ref h0), (1, .int p0), (2, .null), (3, .ref a5), (4, .int 60), (5, .int (nI k))] := by have h9 := hl; rw [show oq ad 0 q2 = none from oq_n c_4] at h9; exact h9
          refine lv_aload_nN hx hb dX8_strongestAt_66 rfl (lv_at hl 2 rfl) ?_
          exact W.aret (v := .null) hx hb hr (by first | exact Or.inl ⟨_, rfl⟩ | exact Or.inr ⟨_, rfl⟩) (Or.inl rfl) (fun t9 ht hW => ⟨none, rfl, (by rw [bs_e hbs hke hT.b0, c_4]; exact oq_m1.symm), ht⟩) (fun q h => nomatch h) dX8_strongestAt_67
        · obtain ⟨u_5, hu_5, eu_5⟩ := hq2.resolve_left c_4
          have hn9 := hT.b0
          have hl : lv_has ls 7 [(0, .ref h0), (1, .int p0), (2, .ref (ad 0 u_5)), (3, .ref a5), (4, .int 60), (5, .int (nI k))] := by have h9 := hl; rw [show oq ad 0 q2 = some (ad 0 u_5) from by rw [eu_5]; exact oq_s (by omega)] at h9; exact h9
          refine lv_aload_n hx hb dX8_strongestAt_66 rfl (lv_at hl 2 rfl) ?_
          exact W.aret (v := .ref (ad 0 u_5)) hx hb hr (by first | exact Or.inl ⟨_, rfl⟩ | exact Or.inr ⟨_, rfl⟩) (Or.inr ⟨_, rfl⟩) (fun t9 ht hW => ⟨(some (ad 0 u_5)), rfl, (by rw [bs_e hbs hke hT.b0, eu_5]; exact (oq_s (by omega)).symm), ht⟩) (fun q h => nomatch h) dX8_strongestAt_67
      · have hlt : k < 60 := by
          rcases Nat.lt_or_ge k 60 with q | q
          · exact q
          · exact absurd (show nI 60 ≤ nI k from nI_le q (by omega)) c_3
        refine lv_aload_n hx hb dX8_strongestAt_21 rfl (lv_at hl 3 rfl) ?_
        refine lv_iload hx hb dX8_strongestAt_22 (lv_at hl 5 rfl) ?_
        have hf_6 : f a5 = .inl (cs 3, 60, .inr (.inr (.inr (.inr (gl ad 0 n0))))) := hT.get hY.2.2.2.1
        obtain ⟨q_7, hq_7⟩ := pl_at (X := [(h0, .inr (8, [.ref a1, .ref a2, .ref a3, .ref a4, .ref a5, .ref a6, .ref a7, .ref a8, .ref a9, .int j_faultKind, .int j_horseCount, .int j_tabletCount, .int j_riderCount, .int j_lineLength, .int j_hour]))]) (f := f) (e := .inl (cs 3, 60, .inr (.inr (.inr (.inr (gl ad 0 n0)))))) hY.2.2.2.1.1 hf_6
        refine va_aldq hx hb hK hP q_7 3 hq_7 rfl (vp_in_nI (by omega) (by omega)) dX8_strongestAt_24 ?_
        by_cases c_8 : k < n0
        · rw [show gl ad 0 n0 (nI k).toNatClampNeg = some (ad 0 k) from by rw [(nI_clamp (by omega))]; exact gl_p c_8]
          refine W.eq (g2 := F0 m 25 ls [.ref (ad 0 k)]) rfl ?_
          refine lv_astore (lv' := [(6, .ref (ad 0 k)), (0, .ref h0), (1, .int p0), (2, va_rf (oq ad 0 q2)), (3, .ref a5), (4, .int 60), (5, .int (nI k))]) hx hb dX8_strongestAt_25 hl (by decide) rfl (fun ls hl => ?_)
          refine lv_aload hx hb dX8_strongestAt_27 (lv_at hl 0 rfl) ?_
          refine lv_ifnull hx hb dX8_strongestAt_29 ?_
          refine lv_aload hx hb dX8_strongestAt_32 (lv_at hl 0 rfl) ?_
          have hf_9 : f (ad 0 k) = .inr (0, [.int (nI k), .int (S 1 k 0), .int (S 2 k 0)]) := hT.get (hT.k0 (i := k) (by omega))
          obtain ⟨q_10, hq_10⟩ := pl_at (X := [(h0, .inr (8, [.ref a1, .ref a2, .ref a3, .ref a4, .ref a5, .ref a6, .ref a7, .ref a8, .ref a9, .int j_faultKind, .int j_horseCount, .int j_tabletCount, .int j_riderCount, .int j_lineLength, .int j_hour]))]) (f := f) (e := .inr (0, [.int (nI k), .int (S 1 k 0), .int (S 2 k 0)])) (hT.k0 (i := k) (by omega)).1 hf_9
          refine va_getN (D := (dC, dI)) (ci := 0) (v := .int (S 1 k 0)) (C := RX0) (T := TX0) (N := 3) hx hb hts hin0 hown hK hP q_10 hq_10 rfl 1 (by decide) (hN.nx (.fieldLinkNest RX8 209 "YamRiders$Horse" "station" "I" "YamRiders") (by decide +kernel)) (fun _ h9 => h9) rfl dX8_strongestAt_34 ?_
          refine lv_iload_n hx hb dX8_strongestAt_37 rfl (lv_at hl 2 rfl) ?_
          refine lv_icmp_ne (tgt := 60) hx hb dX8_strongestAt_38 (by decide) (fun c_11 => ?_) (fun c_11 => ?_)
          · refine lv_iinc (v := nI (k + 1)) (lv' := [(5, .int (nI (k + 1))), (6, .ref (ad 0 k)), (0, .ref h0), (1, .int p0), (2, va_rf (oq ad 0 q2)), (3, .ref a5), (4, .int 60)]) hx hb dX8_strongestAt_60 hl (k := 6) rfl (by exact (nI_1 k)) (by decide) rfl (fun ls hl => ?_)
            refine lv_goto (tgt := 14) hx hb dX8_strongestAt_63 (by decide) ?_
            exact ih (k + 1) q2 (by omega) (by omega) hq2 (bs_n c_8 hbs (fun w => c_11 w.1)) ls (lv_sub hl [2, 3, 4, 5, 6, 0] rfl)
          · by_cases c_12 : q2 = -1
            · have hl : lv_has ls 7 [(6, .ref (ad 0 k)), (0, .ref h0), (1, .int p0), (2, .null), (3, .ref a5), (4, .int 60), (5, .int (nI k))] := by have h9 := hl; rw [show oq ad 0 q2 = none from oq_n c_12] at h9; exact h9
              refine lv_aload_nN hx hb dX8_strongestAt_41 rfl (lv_at hl 3 rfl) ?_
              refine lv_ifnullN (tgt := 57) hx hb dX8_strongestAt_42 (by decide) ?_
              refine lv_aload hx hb dX8_strongestAt_57 (lv_at hl 0 rfl) ?_
              refine lv_astore_n (lv' := [(2, .ref (ad 0 k)), (6, .ref (ad 0 k)), (0, .ref h0), (1, .int p0), (3, .ref a5), (4, .int 60), (5, .int (nI k))]) hx hb dX8_strongestAt_59 rfl hl (by decide) rfl (fun ls hl => ?_)
              refine lv_iinc (v := nI (k + 1)) (lv' := [(5, .int (nI (k + 1))), (2, .ref (ad 0 k)), (6, .ref (ad 0 k)), (0, .ref h0), (1, .int p0), (3, .ref a5), (4, .int 60)]) hx hb dX8_strongestAt_60 hl (k := 6) rfl (by exact (nI_1 k)) (by decide) rfl (fun ls hl => ?_)
              refine lv_goto (tgt := 14) hx hb dX8_strongestAt_63 (by decide) ?_
              have hl : lv_has ls 7 [(5, .int (nI (k + 1))), (2, va_rf (oq ad 0 (nI k))), (6, .ref (ad 0 k)), (0, .ref h0), (1, .int p0), (3, .ref a5), (4, .int 60)] := by rw [show oq ad 0 (nI k) = some (ad 0 k) from oq_s (by omega)]; exact hl
              exact ih (k + 1) (nI k) (by omega) (by omega) (Or.inr ⟨k, by omega, rfl⟩) (bs_y c_8 hbs c_11 (Or.inl c_12)) ls (lv_sub hl [3, 4, 1, 5, 6, 0] rfl)
            · obtain ⟨u_13, hu_13, eu_13⟩ := hq2.resolve_left c_12
              have hn9 := hT.b0
              have hl : lv_has ls 7 [(6, .ref (ad 0 k)), (0, .ref h0), (1, .int p0), (2, .ref (ad 0 u_13)), (3, .ref a5), (4, .int 60), (5, .int (nI k))] := by have h9 := hl; rw [show oq ad 0 q2 = some (ad 0 u_13) from by rw [eu_13]; exact oq_s (by omega)] at h9; exact h9
              refine lv_aload_n hx hb dX8_strongestAt_41 rfl (lv_at hl 3 rfl) ?_
              refine lv_ifnull hx hb dX8_strongestAt_42 ?_
              refine lv_aload hx hb dX8_strongestAt_45 (lv_at hl 0 rfl) ?_
              obtain ⟨q_14, hq_14⟩ := pl_at (X := [(h0, .inr (8, [.ref a1, .ref a2, .ref a3, .ref a4, .ref a5, .ref a6, .ref a7, .ref a8, .ref a9, .int j_faultKind, .int j_horseCount, .int j_tabletCount, .int j_riderCount, .int j_lineLength, .int j_hour]))]) (f := f) (e := .inr (0, [.int (nI k), .int (S 1 k 0), .int (S 2 k 0)])) (hT.k0 (i := k) (by omega)).1 hf_9
              refine va_getN (D := (dC, dI)) (ci := 0) (v := .int (S 2 k 0)) (C := RX0) (T := TX0) (N := 3) hx hb hts hin0 hown hK hP q_14 hq_14 rfl 2 (by decide) (hN.nx (.fieldLinkNest RX8 206 "YamRiders$Horse" "strength" "I" "YamRiders") (by decide +kernel)) (fun _ h9 => h9) rfl dX8_strongestAt_47 ?_
              refine lv_aload_n hx hb dX8_strongestAt_50 rfl (lv_at hl 3 rfl) ?_
              have hf_15 : f (ad 0 u_13) = .inr (0, [.int (nI u_13), .int (S 1 u_13 0), .int (S 2 u_13 0)]) := hT.get (hT.k0 (i := u_13) (by omega))
              obtain ⟨q_16, hq_16⟩ := pl_at (X := [(h0, .inr (8, [.ref a1, .ref a2, .ref a3, .ref a4, .ref a5, .ref a6, .ref a7, .ref a8, .ref a9, .int j_faultKind, .int j_horseCount, .int j_tabletCount, .int j_riderCount, .int j_lineLength, .int j_hour]))]) (f := f) (e := .inr (0, [.int (nI u_13), .int (S 1 u_13 0), .int (S 2 u_13 0)])) (hT.k0 (i := u_13) (by omega)).1 hf_15
              refine va_getN (D := (dC, dI)) (ci := 0) (v := .int (S 2 u_13 0)) (C := RX0) (T := TX0) (N := 3) hx hb hts hin0 hown hK hP q_16 hq_16 rfl 2 (by decide) (hN.nx (.fieldLinkNest RX8 206 "YamRiders$Horse" "strength" "I" "YamRiders") (by decide +kernel)) (fun _ h9 => h9) rfl dX8_strongestAt_51 ?_
              refine lv_icmp_le (tgt := 60) hx hb dX8_strongestAt_54 (by decide) (fun c_17 => ?_) (fun c_17 => ?_)
              · refine lv_iinc (v := nI (k + 1)) (lv' := [(5, .int (nI (k + 1))), (6, .ref (ad 0 k)), (0, .ref h0), (1, .int p0), (2, .ref (ad 0 u_13)), (3, .ref a5), (4, .int 60)]) hx hb dX8_strongestAt_60 hl (k := 6) rfl (by exact (nI_1 k)) (by decide) rfl (fun ls hl => ?_)
                refine lv_goto (tgt := 14) hx hb dX8_strongestAt_63 (by decide) ?_
                have hl : lv_has ls 7 [(5, .int (nI (k + 1))), (6, .ref (ad 0 k)), (0, .ref h0), (1, .int p0), (2, va_rf (oq ad 0 (nI u_13))), (3, .ref a5), (4, .int 60)] := by rw [show oq ad 0 (nI u_13) = some (ad 0 u_13) from oq_s (by omega)]; exact hl
                exact ih (k + 1) (nI u_13) (by omega) (by omega) (Or.inr ⟨u_13, by omega, rfl⟩) (eu_13.symm.trans (bs_n c_8 hbs (fun w => w.2.elim c_12 (fun y => y (by rw [eu_13, nI_clamp (by omega)]; exact c_17))))) ls (lv_sub hl [2, 3, 4, 5, 6, 0] rfl)
              · refine lv_aload hx hb dX8_strongestAt_57 (lv_at hl 0 rfl) ?_
                refine lv_astore_n (lv' := [(2, .ref (ad 0 k)), (6, .ref (ad 0 k)), (0, .ref h0), (1, .int p0), (3, .ref a5), (4, .int 60), (5, .int (nI k))]) hx hb dX8_strongestAt_59 rfl hl (by decide) rfl (fun ls hl => ?_)
                refine lv_iinc (v := nI (k + 1)) (lv' := [(5, .int (nI (k + 1))), (2, .ref (ad 0 k)), (6, .ref (ad 0 k)), (0, .ref h0), (1, .int p0), (3, .ref a5), (4, .int 60)]) hx hb dX8_strongestAt_60 hl (k := 6) rfl (by exact (nI_1 k)) (by decide) rfl (fun ls hl => ?_)
                refine lv_goto (tgt := 14) hx hb dX8_strongestAt_63 (by decide) ?_
                have hl : lv_has ls 7 [(5, .int (nI (k + 1))), (2, va_rf (oq ad 0 (nI k))), (6, .ref (ad 0 k)), (0, .ref h0), (1, .int p0), (3, .ref a5), (4, .int 60)] := by rw [show oq ad 0 (nI k) = some (ad 0 k) from oq_s (by omega)]; exact hl
                exact ih (k + 1) (nI k) (by omega) (by omega) (Or.inr ⟨k, by omega, rfl⟩) (bs_y c_8 hbs c_11 (Or.inr (by rw [eu_13, nI_clamp (by omega)]; exact c_17))) ls (lv_sub hl [3, 4, 1, 5, 6, 0] rfl)
        · rw [show gl ad 0 n0 (nI k).toNatClampNeg = none from by rw [(nI_clamp (by omega))]; exact gl_n c_8]
          refine W.eq (g2 := F0 m 25 ls [.null]) rfl ?_
          refine lv_astoreN (lv' := [(6, .null), (0, .ref h0), (1, .int p0), (2, va_rf (oq ad 0 q2)), (3, .ref a5), (4, .int 60), (5, .int (nI k))]) hx hb dX8_strongestAt_25 hl (by decide) rfl (fun ls hl => ?_)
          refine lv_aloadN hx hb dX8_strongestAt_27 (lv_at hl 0 rfl) ?_
          refine lv_ifnullN (tgt := 60) hx hb dX8_strongestAt_29 (by decide) ?_
          refine lv_iinc (v := nI (k + 1)) (lv' := [(5, .int (nI (k + 1))), (6, .null), (0, .ref h0), (1, .int p0), (2, va_rf (oq ad 0 q2)), (3, .ref a5), (4, .int 60)]) hx hb dX8_strongestAt_60 hl (k := 6) rfl (by exact (nI_1 k)) (by decide) rfl (fun ls hl => ?_)
          refine lv_goto (tgt := 14) hx hb dX8_strongestAt_63 (by decide) ?_
          exact ih (k + 1) q2 (by omega) (by omega) hq2 (bs_o c_8 hbs) ls (lv_sub hl [2, 3, 4, 5, 6, 0] rfl)
  have hl : lv_has ls 7 [(5, .int 0), (4, .int 60), (3, .ref a5), (2, va_rf (oq ad 0 (-1))), (0, .ref h0), (1, .int p0)] := by rw [show oq ad 0 (-1) = none from oq_m1]; exact hl
  exact HL 61 0 (-1) (by omega) (by omega) (Or.inl rfl) bs_0 ls (lv_sub hl [4, 5, 3, 2, 1, 0] rfl)

set_option maxHeartbeats 4000000 in
set_option maxRecDepth 100000 in
theorem e_X8_voided (l : Launch) (dC : Nat → ClassId) (dI : Nat → Nat → Nat) (cs : Nat → ClassId) (L : List Nat) (ka : Nat → Nat) (ix : Nat → Nat) (ad : Nat → Nat → Nat) (n0 : Nat) (n6 : Nat) (n2 : Nat) (S : Nat → Nat → Nat → Int32) (f : Nat → va_E) (gq : Nat) (h0 : Nat) (a1 : Nat) (a2 : Nat) (a3 : Nat) (a4 : Nat) (a5 : Nat) (a6 : Nat) (a7 : Nat) (a8 : Nat) (a9 : Nat) (j_faultKind : Int32) (j_horseCount : Int32) (j_tabletCount : Int32) (j_riderCount : Int32) (j_lineLength : Int32) (j_hour : Int32) (p0 : Int32) (p1 : Int32) (sz : Nat) (hT : tB L ka ix ad cs n0 n6 n2 S f) (hY : yX L ka ix ad gq a2 a3 a4 a5 a6 a7 a8 a9) : Met l yX8_voided wsX8_voided ({ frames := 2, cells := 0, slots := 0, locals := 41 }) (va_Pc [.ref h0, .int p0, .int p1] (cP dC dI ([(h0, .inr (8, [.ref a1, .ref a2, .ref a3, .ref a4, .ref a5, .ref a6, .ref a7, .ref a8, .ref a9, .int j_faultKind, .int j_horseCount, .int j_tabletCount, .int j_riderCount, .int j_lineLength, .int j_hour]))] ++ va_pl L f) (tyC cs) sz)) (vp_Si (fun r => r = vdT S n6 p0 p1)) 0 0 (fun _ => False) := by
  refine Met.ofW (cc := cX8_voided) (maxL := 4) (ret := (some .int)) (by decide) rfl ?_
  intro p e s m args below meth c s₁ B hml hv
  obtain ⟨rfl, hsz, hP, hK, hD0, hN⟩ := hv
  have hx := B.exec
  have hb := B.bytes
  have hr := B.returns
  have hts := atoms_spec (ws := wsX8_voided) B.pre
  have hown : s.vm.findClass RX8 = some m.cls := findClass_of_methodNamed B.named
  have hlocks := B.notSynchronized
  subst hsz
  have hD := hD0
  have hP : va_P (dC, dI) vwCl ([(h0, .inr (8, [.ref a1, .ref a2, .ref a3, .ref a4, .ref a5, .ref a6, .ref a7, .ref a8, .ref a9, .int j_faultKind, .int j_horseCount, .int j_tabletCount, .int j_riderCount, .int j_lineLength, .int j_hour]))] ++ va_pl L f) s.heap := hP
  have hl := lv_entry ([.ref h0, .int p0, .int p1]) (n := 4) (Nat.le_of_ble_eq_true rfl)
  rw [lg_entry_eq]
  generalize (lg_sl ([.ref h0, .int p0, .int p1]) ++ List.replicate (4 - (lg_sl ([.ref h0, .int p0, .int p1])).length) Slot.unset).toArray = ls at hl ⊢
  have hl : lv_has ls 4 [(0, .ref h0), (1, .int p0), (2, .int p1)] := hl
  refine lv_aload_n hx hb dX8_voided_0 rfl (lv_at hl 0 rfl) ?_
  refine lv_iload_n hx hb dX8_voided_1 rfl (lv_at hl 1 rfl) ?_
  have hPc := hP.part (cx := [(h0, .inr (8, [.ref a1, .ref a2, .ref a3, .ref a4, .ref a5, .ref a6, .ref a7, .ref a8, .ref a9, .int j_faultKind, .int j_horseCount, .int j_tabletCount, .int j_riderCount, .int j_lineLength, .int j_hour]))]) [0] rfl
  have hDc := hD.part (cx := [(h0, .inr (8, [.ref a1, .ref a2, .ref a3, .ref a4, .ref a5, .ref a6, .ref a7, .ref a8, .ref a9, .int j_faultKind, .int j_horseCount, .int j_tabletCount, .int j_riderCount, .int j_lineLength, .int j_hour]))]) [0] (by decide) rfl
  have hKc := hK
  refine cs_q (va_runV (As := [.int p0]) (rest := []) ⟨hx, hb, hml, hown, hts⟩ (e_X8_tabletOf l dC dI cs L ka ix ad n0 n6 n2 S f gq h0 a1 a2 a3 a4 a5 a6 a7 a8 a9 j_faultKind j_horseCount j_tabletCount j_riderCount j_lineLength j_hour p0 s.heap.size hT hY) (cwV 1 hts gX8_voided_X8_tabletOf rfl rfl rfl (by decide +kernel) ⟨Nat.le_of_ble_eq_true rfl, Nat.le_of_ble_eq_true rfl⟩) ⟨c_blind, va_recv hKc hPc (ci := 8) (q0 := 0) rfl rfl, c_pre hPc hKc hDc hN⟩ rfl rfl hl.1 rfl (lv_room (Nat.le_of_ble_eq_true rfl)) dX8_voided_2 ⟨Nat.le_of_ble_eq_true rfl, Nat.le_of_ble_eq_true rfl⟩) (fun o_1 ho_1 => ?_)
  subst ho_1
  by_cases c_2 : hOf n6 p0 = -1
  · rw [show oq ad 6 (hOf n6 p0) = none from oq_n c_2]
    refine W.eq (g2 := F0 m 5 ls [.null]) rfl ?_
    refine lv_astore_nN (lv' := [(3, .null), (0, .ref h0), (1, .int p0), (2, .int p1)]) hx hb dX8_voided_5 rfl hl (by decide) rfl (fun ls hl => ?_)
    refine lv_aload_nN hx hb dX8_voided_6 rfl (lv_at hl 0 rfl) ?_
    refine lv_ifnonnullN hx hb dX8_voided_7 ?_
    refine lv_iconst (v := (-1)) hx hb dX8_voided_10 (by decide) ?_
    refine lv_goto (tgt := 19) hx hb dX8_voided_11 (by decide) ?_
    exact W.iret (v := (-1)) hx hb hr (fun t9 ht hW => ⟨_, rfl, (by unfold vdT; rw [if_pos c_2]), ht⟩) (fun q h => nomatch h) dX8_voided_19
  · obtain ⟨u_3, hu_3, eu_3⟩ := hOf_o (by have h9 := hT.b6; omega) c_2
    have hn9 := hT.b6
    rw [show oq ad 6 (hOf n6 p0) = some (ad 6 u_3) from by rw [eu_3]; exact oq_s (by omega)]
    refine W.eq (g2 := F0 m 5 ls [.ref (ad 6 u_3)]) rfl ?_
    refine lv_astore_n (lv' := [(3, .ref (ad 6 u_3)), (0, .ref h0), (1, .int p0), (2, .int p1)]) hx hb dX8_voided_5 rfl hl (by decide) rfl (fun ls hl => ?_)
    refine lv_aload_n hx hb dX8_voided_6 rfl (lv_at hl 0 rfl) ?_
    refine lv_ifnonnull (tgt := 14) hx hb dX8_voided_7 (by decide) ?_
    refine lv_aload_n hx hb dX8_voided_14 rfl (lv_at hl 0 rfl) ?_
    refine lv_iload_n hx hb dX8_voided_15 rfl (lv_at hl 3 rfl) ?_
    have hPc := hP.part (cx := []) [] rfl
    have hDc := hD.part (cx := []) [] (by decide) rfl
    have hKc := hK
    have hf_4 : f (ad 6 u_3) = .inr (6, [.int (S 96 u_3 0), .ref (ad 35 u_3)]) := hT.get (hT.k6 (i := u_3) (by omega))
    obtain ⟨q_5, hq_5⟩ := pl_at (X := []) (f := f) (e := .inr (6, [.int (S 96 u_3 0), .ref (ad 35 u_3)])) (hT.k6 (i := u_3) (by omega)).1 hf_4
    refine cs_i (va_runV (As := [.int p1]) (rest := []) ⟨hx, hb, hml, hown, hts⟩ (e_X6_voidSince l dC dI cs L ka ix ad n0 n6 n2 S f u_3 (ad 6 u_3) p1 s.heap.size hT (hT.k6 (i := u_3) (by omega)) (by omega)) (cwV 1 hts gX8_voided_X6_voidSince rfl rfl rfl (by decide +kernel) ⟨Nat.le_of_ble_eq_true rfl, Nat.le_of_ble_eq_true rfl⟩) ⟨c_blind, va_recv hKc hPc (ci := 6) (q0 := q_5) rfl hq_5, c_pre hPc hKc hDc hN⟩ rfl rfl hl.1 rfl (lv_room (Nat.le_of_ble_eq_true rfl)) dX8_voided_16 ⟨Nat.le_of_ble_eq_true rfl, Nat.le_of_ble_eq_true rfl⟩) (fun r_6 hr_6 => ?_)
    subst hr_6
    exact W.iret (v := vdS S u_3 p1) hx hb hr (fun t9 ht hW => ⟨_, rfl, (by unfold vdT; rw [if_neg c_2, eu_3, nI_clamp (by omega)]), ht⟩) (fun q h => nomatch h) dX8_voided_19

set_option maxHeartbeats 4000000 in
set_option maxRecDepth 100000 in
theorem e_X8_known (l : Launch) (dC : Nat → ClassId) (dI : Nat → Nat → Nat) (cs : Nat → ClassId) (L : List Nat) (ka : Nat → Nat) (ix : Nat → Nat) (ad : Nat → Nat → Nat) (n0 : Nat) (n6 : Nat) (n2 : Nat) (S : Nat → Nat → Nat → Int32) (f : Nat → va_E) (gq : Nat) (h0 : Nat) (a1 : Nat) (a2 : Nat) (a3 : Nat) (a4 : Nat) (a5 : Nat) (a6 : Nat) (a7 : Nat) (a8 : Nat) (a9 : Nat) (j_faultKind : Int32) (j_horseCount : Int32) (j_tabletCount : Int32) (j_riderCount : Int32) (j_lineLength : Int32) (j_hour : Int32) (p0 : Int32) (p1 : Int32) (sz : Nat) (hT : tB L ka ix ad cs n0 n6 n2 S f) (hY : yX L ka ix ad gq a2 a3 a4 a5 a6 a7 a8 a9) : Met l yX8_known wsX8_known ({ frames := 2, cells := 0, slots := 0, locals := 41 }) (va_Pc [.ref h0, .int p0, .int p1] (cP dC dI ([(h0, .inr (8, [.ref a1, .ref a2, .ref a3, .ref a4, .ref a5, .ref a6, .ref a7, .ref a8, .ref a9, .int j_faultKind, .int j_horseCount, .int j_tabletCount, .int j_riderCount, .int j_lineLength, .int j_hour]))] ++ va_pl L f) (tyC cs) sz)) (vp_Si (fun r => r = knT S n2 p0 p1)) 0 0 (fun _ => False) := by
  refine Met.ofW (cc := cX8_known) (maxL := 4) (ret := (some .int)) (by decide) rfl ?_
  intro p e s m args below meth c s₁ B hml hv
  obtain ⟨rfl, hsz, hP, hK, hD0, hN⟩ := hv
  have hx := B.exec
  have hb := B.bytes
  have hr := B.returns
  have hts := atoms_spec (ws := wsX8_known) B.pre
  have hown : s.vm.findClass RX8 = some m.cls := findClass_of_methodNamed B.named
  have hlocks := B.notSynchronized
  subst hsz
  have hD := hD0
  have hP : va_P (dC, dI) vwCl ([(h0, .inr (8, [.ref a1, .ref a2, .ref a3, .ref a4, .ref a5, .ref a6, .ref a7, .ref a8, .ref a9, .int j_faultKind, .int j_horseCount, .int j_tabletCount, .int j_riderCount, .int j_lineLength, .int j_hour]))] ++ va_pl L f) s.heap := hP
  have hl := lv_entry ([.ref h0, .int p0, .int p1]) (n := 4) (Nat.le_of_ble_eq_true rfl)
  rw [lg_entry_eq]
  generalize (lg_sl ([.ref h0, .int p0, .int p1]) ++ List.replicate (4 - (lg_sl ([.ref h0, .int p0, .int p1])).length) Slot.unset).toArray = ls at hl ⊢
  have hl : lv_has ls 4 [(0, .ref h0), (1, .int p0), (2, .int p1)] := hl
  refine lv_aload_n hx hb dX8_known_0 rfl (lv_at hl 0 rfl) ?_
  refine lv_iload_n hx hb dX8_known_1 rfl (lv_at hl 1 rfl) ?_
  have hPc := hP.part (cx := [(h0, .inr (8, [.ref a1, .ref a2, .ref a3, .ref a4, .ref a5, .ref a6, .ref a7, .ref a8, .ref a9, .int j_faultKind, .int j_horseCount, .int j_tabletCount, .int j_riderCount, .int j_lineLength, .int j_hour]))]) [0] rfl
  have hDc := hD.part (cx := [(h0, .inr (8, [.ref a1, .ref a2, .ref a3, .ref a4, .ref a5, .ref a6, .ref a7, .ref a8, .ref a9, .int j_faultKind, .int j_horseCount, .int j_tabletCount, .int j_riderCount, .int j_lineLength, .int j_hour]))]) [0] (by decide) rfl
  have hKc := hK
  refine cs_q (va_runV (As := [.int p0]) (rest := []) ⟨hx, hb, hml, hown, hts⟩ (e_X8_riderOf l dC dI cs L ka ix ad n0 n6 n2 S f gq h0 a1 a2 a3 a4 a5 a6 a7 a8 a9 j_faultKind j_horseCount j_tabletCount j_riderCount j_lineLength j_hour p0 s.heap.size hT hY) (cwV 1 hts gX8_known_X8_riderOf rfl rfl rfl (by decide +kernel) ⟨Nat.le_of_ble_eq_true rfl, Nat.le_of_ble_eq_true rfl⟩) ⟨c_blind, va_recv hKc hPc (ci := 8) (q0 := 0) rfl rfl, c_pre hPc hKc hDc hN⟩ rfl rfl hl.1 rfl (lv_room (Nat.le_of_ble_eq_true rfl)) dX8_known_2 ⟨Nat.le_of_ble_eq_true rfl, Nat.le_of_ble_eq_true rfl⟩) (fun o_1 ho_1 => ?_)
  subst ho_1
  by_cases c_2 : hOf n2 p0 = -1
  · rw [show oq ad 2 (hOf n2 p0) = none from oq_n c_2]
    refine W.eq (g2 := F0 m 5 ls [.null]) rfl ?_
    refine lv_astore_nN (lv' := [(3, .null), (0, .ref h0), (1, .int p0), (2, .int p1)]) hx hb dX8_known_5 rfl hl (by decide) rfl (fun ls hl => ?_)
    refine lv_aload_nN hx hb dX8_known_6 rfl (lv_at hl 0 rfl) ?_
    refine lv_ifnonnullN hx hb dX8_known_7 ?_
    refine lv_iconst (v := (-1)) hx hb dX8_known_10 (by decide) ?_
    refine lv_goto (tgt := 19) hx hb dX8_known_11 (by decide) ?_
    exact W.iret (v := (-1)) hx hb hr (fun t9 ht hW => ⟨_, rfl, (by unfold knT; rw [if_pos c_2]), ht⟩) (fun q h => nomatch h) dX8_known_19
  · obtain ⟨u_3, hu_3, eu_3⟩ := hOf_o (by have h9 := hT.b2; omega) c_2
    have hn9 := hT.b2
    rw [show oq ad 2 (hOf n2 p0) = some (ad 2 u_3) from by rw [eu_3]; exact oq_s (by omega)]
    refine W.eq (g2 := F0 m 5 ls [.ref (ad 2 u_3)]) rfl ?_
    refine lv_astore_n (lv' := [(3, .ref (ad 2 u_3)), (0, .ref h0), (1, .int p0), (2, .int p1)]) hx hb dX8_known_5 rfl hl (by decide) rfl (fun ls hl => ?_)
    refine lv_aload_n hx hb dX8_known_6 rfl (lv_at hl 0 rfl) ?_
    refine lv_ifnonnull (tgt := 14) hx hb dX8_known_7 (by decide) ?_
    refine lv_aload_n hx hb dX8_known_14 rfl (lv_at hl 0 rfl) ?_
    refine lv_iload_n hx hb dX8_known_15 rfl (lv_at hl 3 rfl) ?_
    have hPc := hP.part (cx := []) [] rfl
    have hDc := hD.part (cx := []) [] (by decide) rfl
    have hKc := hK
    have hf_4 : f (ad 2 u_3) = .inr (2, [.int (S 32 u_3 0), .int (S 33 u_3 0), .ref (ad 37 u_3), .ref (ad 36 u_3), .int (S 36 u_3 0), .int (S 37 u_3 0), .int (S 38 u_3 0), va_rf (oq ad 0 (S 39 u_3 0)), .int (S 40 u_3 0), .int (S 41 u_3 0)]) := hT.get (hT.k2 (i := u_3) (by omega))
    obtain ⟨q_5, hq_5⟩ := pl_at (X := []) (f := f) (e := .inr (2, [.int (S 32 u_3 0), .int (S 33 u_3 0), .ref (ad 37 u_3), .ref (ad 36 u_3), .int (S 36 u_3 0), .int (S 37 u_3 0), .int (S 38 u_3 0), va_rf (oq ad 0 (S 39 u_3 0)), .int (S 40 u_3 0), .int (S 41 u_3 0)])) (hT.k2 (i := u_3) (by omega)).1 hf_4
    refine cs_i (va_runV (As := [.int p1]) (rest := []) ⟨hx, hb, hml, hown, hts⟩ (e_X2_newsKnownSince l dC dI cs L ka ix ad n0 n6 n2 S f u_3 (ad 2 u_3) p1 s.heap.size hT (hT.k2 (i := u_3) (by omega)) (by omega)) (cwV 1 hts gX8_known_X2_newsKnownSince rfl rfl rfl (by decide +kernel) ⟨Nat.le_of_ble_eq_true rfl, Nat.le_of_ble_eq_true rfl⟩) ⟨c_blind, va_recv hKc hPc (ci := 2) (q0 := q_5) rfl hq_5, c_pre hPc hKc hDc hN⟩ rfl rfl hl.1 rfl (lv_room (Nat.le_of_ble_eq_true rfl)) dX8_known_16 ⟨Nat.le_of_ble_eq_true rfl, Nat.le_of_ble_eq_true rfl⟩) (fun r_6 hr_6 => ?_)
    subst hr_6
    exact W.iret (v := nkS S u_3 p1) hx hb hr (fun t9 ht hW => ⟨_, rfl, (by unfold knT; rw [if_neg c_2, eu_3, nI_clamp (by omega)]), ht⟩) (fun q h => nomatch h) dX8_known_19

set_option maxHeartbeats 4000000 in
set_option maxRecDepth 100000 in
theorem e_X8_way (l : Launch) (dC : Nat → ClassId) (dI : Nat → Nat → Nat) (cs : Nat → ClassId) (L : List Nat) (ka : Nat → Nat) (ix : Nat → Nat) (ad : Nat → Nat → Nat) (n0 : Nat) (n6 : Nat) (n2 : Nat) (S : Nat → Nat → Nat → Int32) (f : Nat → va_E) (gq : Nat) (h0 : Nat) (a1 : Nat) (a2 : Nat) (a3 : Nat) (a4 : Nat) (a5 : Nat) (a6 : Nat) (a7 : Nat) (a8 : Nat) (a9 : Nat) (j_faultKind : Int32) (j_horseCount : Int32) (j_tabletCount : Int32) (j_riderCount : Int32) (j_lineLength : Int32) (j_hour : Int32) (p0 : Int32) (p1 : Int32) (sz : Nat) (hT : tB L ka ix ad cs n0 n6 n2 S f) (hY : yX L ka ix ad gq a2 a3 a4 a5 a6 a7 a8 a9) : Met l yX8_way wsX8_way ({ frames := 1, cells := 0, slots := 0, locals := 21 }) (va_Pc [.ref h0, .int p0, .int p1] (cP dC dI ([(h0, .inr (8, [.ref a1, .ref a2, .ref a3, .ref a4, .ref a5, .ref a6, .ref a7, .ref a8, .ref a9, .int j_faultKind, .int j_horseCount, .int j_tabletCount, .int j_riderCount, .int j_lineLength, .int j_hour]))] ++ va_pl L f) (tyC cs) sz)) (vp_Si (fun r => r = wyT S n2 p0 p1)) 0 0 (fun _ => False) := by
  refine Met.ofW (cc := cX8_way) (maxL := 4) (ret := (some .int)) (by decide) rfl ?_
  intro p e s m args below meth c s₁ B hml hv
  obtain ⟨rfl, hsz, hP, hK, hD0, hN⟩ := hv
  have hx := B.exec
  have hb := B.bytes
  have hr := B.returns
  have hts := atoms_spec (ws := wsX8_way) B.pre
  have hown : s.vm.findClass RX8 = some m.cls := findClass_of_methodNamed B.named
  have hlocks := B.notSynchronized
  subst hsz
  have hD := hD0
  have hP : va_P (dC, dI) vwCl ([(h0, .inr (8, [.ref a1, .ref a2, .ref a3, .ref a4, .ref a5, .ref a6, .ref a7, .ref a8, .ref a9, .int j_faultKind, .int j_horseCount, .int j_tabletCount, .int j_riderCount, .int j_lineLength, .int j_hour]))] ++ va_pl L f) s.heap := hP
  have hl := lv_entry ([.ref h0, .int p0, .int p1]) (n := 4) (Nat.le_of_ble_eq_true rfl)
  rw [lg_entry_eq]
  generalize (lg_sl ([.ref h0, .int p0, .int p1]) ++ List.replicate (4 - (lg_sl ([.ref h0, .int p0, .int p1])).length) Slot.unset).toArray = ls at hl ⊢
  have hl : lv_has ls 4 [(0, .ref h0), (1, .int p0), (2, .int p1)] := hl
  refine lv_aload_n hx hb dX8_way_0 rfl (lv_at hl 0 rfl) ?_
  refine lv_iload_n hx hb dX8_way_1 rfl (lv_at hl 1 rfl) ?_
  have hPc := hP.part (cx := [(h0, .inr (8, [.ref a1, .ref a2, .ref a3, .ref a4, .ref a5, .ref a6, .ref a7, .ref a8, .ref a9, .int j_faultKind, .int j_horseCount, .int j_tabletCount, .int j_riderCount, .int j_lineLength, .int j_hour]))]) [0] rfl
  have hDc := hD.part (cx := [(h0, .inr (8, [.ref a1, .ref a2, .ref a3, .ref a4, .ref a5, .ref a6, .ref a7, .ref a8, .ref a9, .int j_faultKind, .int j_horseCount, .int j_tabletCount, .int j_riderCount, .int j_lineLength, .int j_hour]))]) [0] (by decide) rfl
  have hKc := hK
  refine cs_q (va_runV (As := [.int p0]) (rest := []) ⟨hx, hb, hml, hown, hts⟩ (e_X8_riderOf l dC dI cs L ka ix ad n0 n6 n2 S f gq h0 a1 a2 a3 a4 a5 a6 a7 a8 a9 j_faultKind j_horseCount j_tabletCount j_riderCount j_lineLength j_hour p0 s.heap.size hT hY) (cwV 1 hts gX8_way_X8_riderOf rfl rfl rfl (by decide +kernel) ⟨Nat.le_of_ble_eq_true rfl, Nat.le_of_ble_eq_true rfl⟩) ⟨c_blind, va_recv hKc hPc (ci := 8) (q0 := 0) rfl rfl, c_pre hPc hKc hDc hN⟩ rfl rfl hl.1 rfl (lv_room (Nat.le_of_ble_eq_true rfl)) dX8_way_2 ⟨Nat.le_of_ble_eq_true rfl, Nat.le_of_ble_eq_true rfl⟩) (fun o_1 ho_1 => ?_)
  subst ho_1
  by_cases c_2 : hOf n2 p0 = -1
  · rw [show oq ad 2 (hOf n2 p0) = none from oq_n c_2]
    refine W.eq (g2 := F0 m 5 ls [.null]) rfl ?_
    refine lv_astore_nN (lv' := [(3, .null), (0, .ref h0), (1, .int p0), (2, .int p1)]) hx hb dX8_way_5 rfl hl (by decide) rfl (fun ls hl => ?_)
    refine lv_aload_nN hx hb dX8_way_6 rfl (lv_at hl 0 rfl) ?_
    refine lv_ifnonnullN hx hb dX8_way_7 ?_
    refine lv_iconst (v := (-1)) hx hb dX8_way_10 (by decide) ?_
    refine lv_goto (tgt := 19) hx hb dX8_way_11 (by decide) ?_
    exact W.iret (v := (-1)) hx hb hr (fun t9 ht hW => ⟨_, rfl, (by unfold wyT; rw [if_pos c_2]), ht⟩) (fun q h => nomatch h) dX8_way_19
  · obtain ⟨u_3, hu_3, eu_3⟩ := hOf_o (by have h9 := hT.b2; omega) c_2
    have hn9 := hT.b2
    rw [show oq ad 2 (hOf n2 p0) = some (ad 2 u_3) from by rw [eu_3]; exact oq_s (by omega)]
    refine W.eq (g2 := F0 m 5 ls [.ref (ad 2 u_3)]) rfl ?_
    refine lv_astore_n (lv' := [(3, .ref (ad 2 u_3)), (0, .ref h0), (1, .int p0), (2, .int p1)]) hx hb dX8_way_5 rfl hl (by decide) rfl (fun ls hl => ?_)
    refine lv_aload_n hx hb dX8_way_6 rfl (lv_at hl 0 rfl) ?_
    refine lv_ifnonnull (tgt := 14) hx hb dX8_way_7 (by decide) ?_
    refine lv_aload_n hx hb dX8_way_14 rfl (lv_at hl 0 rfl) ?_
    refine lv_iload_n hx hb dX8_way_15 rfl (lv_at hl 3 rfl) ?_
    have hPc := hP.part (cx := []) [] rfl
    have hDc := hD.part (cx := []) [] (by decide) rfl
    have hKc := hK
    have hf_4 : f (ad 2 u_3) = .inr (2, [.int (S 32 u_3 0), .int (S 33 u_3 0), .ref (ad 37 u_3), .ref (ad 36 u_3), .int (S 36 u_3 0), .int (S 37 u_3 0), .int (S 38 u_3 0), va_rf (oq ad 0 (S 39 u_3 0)), .int (S 40 u_3 0), .int (S 41 u_3 0)]) := hT.get (hT.k2 (i := u_3) (by omega))
    obtain ⟨q_5, hq_5⟩ := pl_at (X := []) (f := f) (e := .inr (2, [.int (S 32 u_3 0), .int (S 33 u_3 0), .ref (ad 37 u_3), .ref (ad 36 u_3), .int (S 36 u_3 0), .int (S 37 u_3 0), .int (S 38 u_3 0), va_rf (oq ad 0 (S 39 u_3 0)), .int (S 40 u_3 0), .int (S 41 u_3 0)])) (hT.k2 (i := u_3) (by omega)).1 hf_4
    refine cs_i (va_runV (As := [.int p1]) (rest := []) ⟨hx, hb, hml, hown, hts⟩ (e_X2_stationOfWay l dC dI cs L ka ix ad n0 n6 n2 S f u_3 (ad 2 u_3) p1 s.heap.size hT (hT.k2 (i := u_3) (by omega)) (by omega)) (cwV 1 hts gX8_way_X2_stationOfWay rfl rfl rfl (by decide +kernel) ⟨Nat.le_of_ble_eq_true rfl, Nat.le_of_ble_eq_true rfl⟩) ⟨c_blind, va_recv hKc hPc (ci := 2) (q0 := q_5) rfl hq_5, c_pre hPc hKc hDc hN⟩ rfl rfl hl.1 rfl (lv_room (Nat.le_of_ble_eq_true rfl)) dX8_way_16 ⟨Nat.le_of_ble_eq_true rfl, Nat.le_of_ble_eq_true rfl⟩) (fun r_6 hr_6 => ?_)
    subst hr_6
    exact W.iret (v := sSW S u_3 p1) hx hb hr (fun t9 ht hW => ⟨_, rfl, (by unfold wyT; rw [if_neg c_2, eu_3, nI_clamp (by omega)]), ht⟩) (fun q h => nomatch h) dX8_way_19

set_option maxHeartbeats 4000000 in
set_option maxRecDepth 100000 in
theorem e_X8_at (l : Launch) (dC : Nat → ClassId) (dI : Nat → Nat → Nat) (cs : Nat → ClassId) (L : List Nat) (ka : Nat → Nat) (ix : Nat → Nat) (ad : Nat → Nat → Nat) (n0 : Nat) (n6 : Nat) (n2 : Nat) (S : Nat → Nat → Nat → Int32) (f : Nat → va_E) (gq : Nat) (h0 : Nat) (a1 : Nat) (a2 : Nat) (a3 : Nat) (a4 : Nat) (a5 : Nat) (a6 : Nat) (a7 : Nat) (a8 : Nat) (a9 : Nat) (j_faultKind : Int32) (j_horseCount : Int32) (j_tabletCount : Int32) (j_riderCount : Int32) (j_lineLength : Int32) (j_hour : Int32) (p0 : Int32) (p1 : Int32) (sz : Nat) (hT : tB L ka ix ad cs n0 n6 n2 S f) (hY : yX L ka ix ad gq a2 a3 a4 a5 a6 a7 a8 a9) : Met l yX8_at wsX8_at ({ frames := 3, cells := 0, slots := 0, locals := 67 }) (va_Pc [.ref h0, .int p0, .int p1] (cP dC dI ([(h0, .inr (8, [.ref a1, .ref a2, .ref a3, .ref a4, .ref a5, .ref a6, .ref a7, .ref a8, .ref a9, .int j_faultKind, .int j_horseCount, .int j_tabletCount, .int j_riderCount, .int j_lineLength, .int j_hour]))] ++ va_pl L f) (tyC cs) sz)) (vp_Si (fun r => r = atT S n0 n2 p0 p1)) 0 0 (fun _ => False) := by
  refine Met.ofW (cc := cX8_at) (maxL := 3) (ret := (some .int)) (by decide) rfl ?_
  intro p e s m args below meth c s₁ B hml hv
  obtain ⟨rfl, hsz, hP, hK, hD0, hN⟩ := hv
  have hx := B.exec
  have hb := B.bytes
  have hr := B.returns
  have hts := atoms_spec (ws := wsX8_at) B.pre
  have hown : s.vm.findClass RX8 = some m.cls := findClass_of_methodNamed B.named
  have hlocks := B.notSynchronized
  subst hsz
  have hin8 : ∀ w ∈ u_ws RX8 TX8 15, w ∈ wsX8_at := by decide +kernel
  have hD := hD0
  have hP : va_P (dC, dI) vwCl ([(h0, .inr (8, [.ref a1, .ref a2, .ref a3, .ref a4, .ref a5, .ref a6, .ref a7, .ref a8, .ref a9, .int j_faultKind, .int j_horseCount, .int j_tabletCount, .int j_riderCount, .int j_lineLength, .int j_hour]))] ++ va_pl L f) s.heap := hP
  have hl := lv_entry ([.ref h0, .int p0, .int p1]) (n := 3) (Nat.le_of_ble_eq_true rfl)
  rw [lg_entry_eq]
  generalize (lg_sl ([.ref h0, .int p0, .int p1]) ++ List.replicate (3 - (lg_sl ([.ref h0, .int p0, .int p1])).length) Slot.unset).toArray = ls at hl ⊢
  have hl : lv_has ls 3 [(0, .ref h0), (1, .int p0), (2, .int p1)] := hl
  refine lv_iload_n hx hb dX8_at_0 rfl (lv_at hl 1 rfl) ?_
  have hPc := hP.sub (ws' := []) [] rfl
  have hDc := hD.sub (ws' := []) [] (by decide) rfl
  have hKc := hK.sub (tys' := []) [] rfl
  refine cs_i (va_runS (As := [.int p0]) (rest := []) ⟨hx, hb, hml, hown, hts⟩ (c_X8_isStation l dC dI p0 s.heap.size) (va_cwS 1 hts gX8_at_X8_isStation rfl rfl rfl (by decide +kernel) ⟨Nat.le_of_ble_eq_true rfl, Nat.le_of_ble_eq_true rfl⟩) ⟨c_blind, c_pre hPc hKc hDc hN⟩ rfl rfl hl.1 rfl (lv_room (Nat.le_of_ble_eq_true rfl)) dX8_at_1 ⟨Nat.le_of_ble_eq_true rfl, Nat.le_of_ble_eq_true rfl⟩) (fun r_1 hr_1 => ?_)
  subst hr_1
  refine lv_if_ne (tgt := 9) hx hb dX8_at_4 (by decide) (fun c_2 => ?_) (fun c_2 => ?_)
  · refine lv_iload_n hx hb dX8_at_9 rfl (lv_at hl 2 rfl) ?_
    by_cases c_3 : p1 = 0
    · refine lv_tableIn (tgt := 36) (off := 26) hx hb dX8_at_10 (by rw [c_3]; decide) (by rw [c_3]; decide) (by rw [c_3]; decide) (by decide) ?_
      refine lv_aload_n hx hb dX8_at_36 rfl (lv_at hl 0 rfl) ?_
      refine va_get (D := (dC, dI)) (ci := 8) (v := .ref a4) (C := RX8) (T := TX8) (N := 15) hx hb hts hin8 hown hK hP 0 rfl rfl 3 (by decide) (hts (.fieldLink RX8 30 "YamRiders" "fodderAt" "[I") (by decide +kernel)) (fun _ h9 => h9) rfl dX8_at_37 ?_
      refine lv_iload_n hx hb dX8_at_40 rfl (lv_at hl 1 rfl) ?_
      obtain ⟨u_4, hu_4, rfl⟩ := st_of c_2
      have hf_5 : f a4 = .inl (cs 0, 12, .inl (S 480 0)) := hT.get hY.2.2.1
      obtain ⟨q_6, hq_6⟩ := pl_at (X := [(h0, .inr (8, [.ref a1, .ref a2, .ref a3, .ref a4, .ref a5, .ref a6, .ref a7, .ref a8, .ref a9, .int j_faultKind, .int j_horseCount, .int j_tabletCount, .int j_riderCount, .int j_lineLength, .int j_hour]))]) (f := f) (e := .inl (cs 0, 12, .inl (S 480 0))) hY.2.2.1.1 hf_5
      refine va_iald hx hb hK hP q_6 0 hq_6 rfl (vp_in_nI (by omega) (by omega)) dX8_at_41 ?_
      refine lv_topi (fun v_7 ev_7 => ?_)
      obtain rfl : v_7 = S 480 0 u_4 := ev_7.trans (by rw [(nI_clamp (by omega))])
      exact W.iret (v := S 480 0 u_4) hx hb hr (fun t9 ht hW => ⟨_, rfl, (by unfold atT; rw [if_neg c_2, if_pos c_3]; rw [nI_clamp (by omega)]), ht⟩) (fun q h => nomatch h) dX8_at_42
    by_cases c_8 : p1 = 1
    · refine lv_tableIn (tgt := 43) (off := 33) hx hb dX8_at_10 (by rw [c_8]; decide) (by rw [c_8]; decide) (by rw [c_8]; decide) (by decide) ?_
      refine lv_aload_n hx hb dX8_at_43 rfl (lv_at hl 0 rfl) ?_
      refine lv_iload_n hx hb dX8_at_44 rfl (lv_at hl 1 rfl) ?_
      have hPc := hP.part (cx := [(h0, .inr (8, [.ref a1, .ref a2, .ref a3, .ref a4, .ref a5, .ref a6, .ref a7, .ref a8, .ref a9, .int j_faultKind, .int j_horseCount, .int j_tabletCount, .int j_riderCount, .int j_lineLength, .int j_hour]))]) [0] rfl
      have hDc := hD.part (cx := [(h0, .inr (8, [.ref a1, .ref a2, .ref a3, .ref a4, .ref a5, .ref a6, .ref a7, .ref a8, .ref a9, .int j_faultKind, .int j_horseCount, .int j_tabletCount, .int j_riderCount, .int j_lineLength, .int j_hour]))]) [0] (by decide) rfl
      have hKc := hK
      refine cs_i (va_runV (As := [.int p0]) (rest := []) ⟨hx, hb, hml, hown, hts⟩ (e_X8_horsesAt l dC dI cs L ka ix ad n0 n6 n2 S f gq h0 a1 a2 a3 a4 a5 a6 a7 a8 a9 j_faultKind j_horseCount j_tabletCount j_riderCount j_lineLength j_hour p0 s.heap.size hT hY) (cwV 1 hts gX8_at_X8_horsesAt rfl rfl rfl (by decide +kernel) ⟨Nat.le_of_ble_eq_true rfl, Nat.le_of_ble_eq_true rfl⟩) ⟨c_blind, va_recv hKc hPc (ci := 8) (q0 := 0) rfl rfl, c_pre hPc hKc hDc hN⟩ rfl rfl hl.1 rfl (lv_room (Nat.le_of_ble_eq_true rfl)) dX8_at_45 ⟨Nat.le_of_ble_eq_true rfl, Nat.le_of_ble_eq_true rfl⟩) (fun r_9 hr_9 => ?_)
      subst hr_9
      exact W.iret (v := nI (cn (pH S p0) n0)) hx hb hr (fun t9 ht hW => ⟨_, rfl, (by unfold atT; rw [if_neg c_2, if_neg c_3, if_pos c_8]), ht⟩) (fun q h => nomatch h) dX8_at_48
    by_cases c_10 : p1 = 2
    · refine lv_tableIn (tgt := 49) (off := 39) hx hb dX8_at_10 (by rw [c_10]; decide) (by rw [c_10]; decide) (by rw [c_10]; decide) (by decide) ?_
      refine lv_aload_n hx hb dX8_at_49 rfl (lv_at hl 0 rfl) ?_
      refine lv_iload_n hx hb dX8_at_50 rfl (lv_at hl 1 rfl) ?_
      have hPc := hP.part (cx := [(h0, .inr (8, [.ref a1, .ref a2, .ref a3, .ref a4, .ref a5, .ref a6, .ref a7, .ref a8, .ref a9, .int j_faultKind, .int j_horseCount, .int j_tabletCount, .int j_riderCount, .int j_lineLength, .int j_hour]))]) [0] rfl
      have hDc := hD.part (cx := [(h0, .inr (8, [.ref a1, .ref a2, .ref a3, .ref a4, .ref a5, .ref a6, .ref a7, .ref a8, .ref a9, .int j_faultKind, .int j_horseCount, .int j_tabletCount, .int j_riderCount, .int j_lineLength, .int j_hour]))]) [0] (by decide) rfl
      have hKc := hK
      refine cs_i (va_runV (As := [.int p0]) (rest := []) ⟨hx, hb, hml, hown, hts⟩ (e_X8_ridersWaitingAt l dC dI cs L ka ix ad n0 n6 n2 S f gq h0 a1 a2 a3 a4 a5 a6 a7 a8 a9 j_faultKind j_horseCount j_tabletCount j_riderCount j_lineLength j_hour p0 s.heap.size hT hY) (cwV 1 hts gX8_at_X8_ridersWaitingAt rfl rfl rfl (by decide +kernel) ⟨Nat.le_of_ble_eq_true rfl, Nat.le_of_ble_eq_true rfl⟩) ⟨c_blind, va_recv hKc hPc (ci := 8) (q0 := 0) rfl rfl, c_pre hPc hKc hDc hN⟩ rfl rfl hl.1 rfl (lv_room (Nat.le_of_ble_eq_true rfl)) dX8_at_51 ⟨Nat.le_of_ble_eq_true rfl, Nat.le_of_ble_eq_true rfl⟩) (fun r_11 hr_11 => ?_)
      subst hr_11
      exact W.iret (v := nI (cn (pW S p0) n2)) hx hb hr (fun t9 ht hW => ⟨_, rfl, (by unfold atT; rw [if_neg c_2, if_neg c_3, if_neg c_8, if_pos c_10]), ht⟩) (fun q h => nomatch h) dX8_at_54
    refine lv_tableOut (tgt := 55) hx hb dX8_at_10 (sw_out0_2 c_3 c_8 c_10) (by decide) ?_
    refine lv_iconst (v := (-1)) hx hb dX8_at_55 (by decide) ?_
    exact W.iret (v := (-1)) hx hb hr (fun t9 ht hW => ⟨_, rfl, (by unfold atT; rw [if_neg c_2, if_neg c_3, if_neg c_8, if_neg c_10]), ht⟩) (fun q h => nomatch h) dX8_at_56
  · refine lv_iconst (v := (-1)) hx hb dX8_at_7 (by decide) ?_
    exact W.iret (v := (-1)) hx hb hr (fun t9 ht hW => ⟨_, rfl, (by unfold atT; rw [if_pos c_2]), ht⟩) (fun q h => nomatch h) dX8_at_8

set_option maxHeartbeats 4000000 in
set_option maxRecDepth 100000 in
theorem e_X8_count (l : Launch) (dC : Nat → ClassId) (dI : Nat → Nat → Nat) (cs : Nat → ClassId) (L : List Nat) (ka : Nat → Nat) (ix : Nat → Nat) (ad : Nat → Nat → Nat) (n0 : Nat) (n6 : Nat) (n2 : Nat) (S : Nat → Nat → Nat → Int32) (f : Nat → va_E) (gq : Nat) (h0 : Nat) (a1 : Nat) (a2 : Nat) (a3 : Nat) (a4 : Nat) (a5 : Nat) (a6 : Nat) (a7 : Nat) (a8 : Nat) (a9 : Nat) (j_faultKind : Int32) (j_horseCount : Int32) (j_tabletCount : Int32) (j_riderCount : Int32) (j_lineLength : Int32) (j_hour : Int32) (b1 : Nat) (i_len : Int32) (p0 : Int32) (sz : Nat) (hT : tB L ka ix ad cs n0 n6 n2 S f) (hY : yX L ka ix ad gq a2 a3 a4 a5 a6 a7 a8 a9) : Met l yX8_count wsX8_count ({ frames := 2, cells := 0, slots := 0, locals := 45 }) (va_Pc [.ref h0, .int p0] (cP dC dI ([(h0, .inr (8, [.ref a1, .ref a2, .ref a3, .ref a4, .ref a5, .ref a6, .ref a7, .ref a8, .ref a9, .int j_faultKind, .int j_horseCount, .int j_tabletCount, .int j_riderCount, .int j_lineLength, .int j_hour])), (a1, .inr (7, [.ref b1, .int i_len]))] ++ va_pl L f) (tyC cs) sz)) (vp_Si (fun r => r = ctT j_hour j_horseCount j_tabletCount j_riderCount (nI (cn (pU S) n2)) i_len p0)) 0 0 (fun _ => False) := by
  refine Met.ofW (cc := cX8_count) (maxL := 2) (ret := (some .int)) (by decide) rfl ?_
  intro p e s m args below meth c s₁ B hml hv
  obtain ⟨rfl, hsz, hP, hK, hD0, hN⟩ := hv
  have hx := B.exec
  have hb := B.bytes
  have hr := B.returns
  have hts := atoms_spec (ws := wsX8_count) B.pre
  have hown : s.vm.findClass RX8 = some m.cls := findClass_of_methodNamed B.named
  have hlocks := B.notSynchronized
  subst hsz
  have hin7 : ∀ w ∈ u_ws RX7 TX7 2, w ∈ wsX8_count := by decide +kernel
  have hin8 : ∀ w ∈ u_ws RX8 TX8 15, w ∈ wsX8_count := by decide +kernel
  have hD := hD0
  have hP : va_P (dC, dI) vwCl ([(h0, .inr (8, [.ref a1, .ref a2, .ref a3, .ref a4, .ref a5, .ref a6, .ref a7, .ref a8, .ref a9, .int j_faultKind, .int j_horseCount, .int j_tabletCount, .int j_riderCount, .int j_lineLength, .int j_hour])), (a1, .inr (7, [.ref b1, .int i_len]))] ++ va_pl L f) s.heap := hP
  have hl := lv_entry ([.ref h0, .int p0]) (n := 2) (Nat.le_of_ble_eq_true rfl)
  rw [lg_entry_eq]
  generalize (lg_sl ([.ref h0, .int p0]) ++ List.replicate (2 - (lg_sl ([.ref h0, .int p0])).length) Slot.unset).toArray = ls at hl ⊢
  have hl : lv_has ls 2 [(0, .ref h0), (1, .int p0)] := hl
  refine lv_iload_n hx hb dX8_count_0 rfl (lv_at hl 1 rfl) ?_
  by_cases c_1 : p0 = 0
  · refine lv_tableIn (tgt := 40) (off := 39) hx hb dX8_count_1 (by rw [c_1]; decide) (by rw [c_1]; decide) (by rw [c_1]; decide) (by decide) ?_
    refine lv_aload_n hx hb dX8_count_40 rfl (lv_at hl 0 rfl) ?_
    refine va_get (D := (dC, dI)) (ci := 8) (v := .int j_hour) (C := RX8) (T := TX8) (N := 15) hx hb hts hin8 hown hK hP 0 rfl rfl 14 (by decide) (hts (.fieldLink RX8 140 "YamRiders" "hour" "I") (by decide +kernel)) (fun _ h9 => h9) rfl dX8_count_41 ?_
    exact W.iret (v := j_hour) hx hb hr (fun t9 ht hW => ⟨_, rfl, (by unfold ctT; rw [if_pos c_1]), ht⟩) (fun q h => nomatch h) dX8_count_44
  by_cases c_2 : p0 = 1
  · refine lv_tableIn (tgt := 45) (off := 44) hx hb dX8_count_1 (by rw [c_2]; decide) (by rw [c_2]; decide) (by rw [c_2]; decide) (by decide) ?_
    refine lv_aload_n hx hb dX8_count_45 rfl (lv_at hl 0 rfl) ?_
    refine va_get (D := (dC, dI)) (ci := 8) (v := .int j_horseCount) (C := RX8) (T := TX8) (N := 15) hx hb hts hin8 hown hK hP 0 rfl rfl 10 (by decide) (hts (.fieldLink RX8 110 "YamRiders" "horseCount" "I") (by decide +kernel)) (fun _ h9 => h9) rfl dX8_count_46 ?_
    exact W.iret (v := j_horseCount) hx hb hr (fun t9 ht hW => ⟨_, rfl, (by unfold ctT; rw [if_neg c_1, if_pos c_2]), ht⟩) (fun q h => nomatch h) dX8_count_49
  by_cases c_3 : p0 = 2
  · refine lv_tableIn (tgt := 50) (off := 49) hx hb dX8_count_1 (by rw [c_3]; decide) (by rw [c_3]; decide) (by rw [c_3]; decide) (by decide) ?_
    refine lv_aload_n hx hb dX8_count_50 rfl (lv_at hl 0 rfl) ?_
    refine va_get (D := (dC, dI)) (ci := 8) (v := .int j_tabletCount) (C := RX8) (T := TX8) (N := 15) hx hb hts hin8 hown hK hP 0 rfl rfl 11 (by decide) (hts (.fieldLink RX8 115 "YamRiders" "tabletCount" "I") (by decide +kernel)) (fun _ h9 => h9) rfl dX8_count_51 ?_
    exact W.iret (v := j_tabletCount) hx hb hr (fun t9 ht hW => ⟨_, rfl, (by unfold ctT; rw [if_neg c_1, if_neg c_2, if_pos c_3]), ht⟩) (fun q h => nomatch h) dX8_count_54
  by_cases c_4 : p0 = 3
  · refine lv_tableIn (tgt := 55) (off := 54) hx hb dX8_count_1 (by rw [c_4]; decide) (by rw [c_4]; decide) (by rw [c_4]; decide) (by decide) ?_
    refine lv_aload_n hx hb dX8_count_55 rfl (lv_at hl 0 rfl) ?_
    refine va_get (D := (dC, dI)) (ci := 8) (v := .int j_riderCount) (C := RX8) (T := TX8) (N := 15) hx hb hts hin8 hown hK hP 0 rfl rfl 12 (by decide) (hts (.fieldLink RX8 124 "YamRiders" "riderCount" "I") (by decide +kernel)) (fun _ h9 => h9) rfl dX8_count_56 ?_
    exact W.iret (v := j_riderCount) hx hb hr (fun t9 ht hW => ⟨_, rfl, (by unfold ctT; rw [if_neg c_1, if_neg c_2, if_neg c_3, if_pos c_4]), ht⟩) (fun q h => nomatch h) dX8_count_59
  by_cases c_5 : p0 = 4
  · refine lv_tableIn (tgt := 60) (off := 59) hx hb dX8_count_1 (by rw [c_5]; decide) (by rw [c_5]; decide) (by rw [c_5]; decide) (by decide) ?_
    refine lv_aload_n hx hb dX8_count_60 rfl (lv_at hl 0 rfl) ?_
    have hPc := hP.part (cx := [(h0, .inr (8, [.ref a1, .ref a2, .ref a3, .ref a4, .ref a5, .ref a6, .ref a7, .ref a8, .ref a9, .int j_faultKind, .int j_horseCount, .int j_tabletCount, .int j_riderCount, .int j_lineLength, .int j_hour]))]) [0] rfl
    have hDc := hD.part (cx := [(h0, .inr (8, [.ref a1, .ref a2, .ref a3, .ref a4, .ref a5, .ref a6, .ref a7, .ref a8, .ref a9, .int j_faultKind, .int j_horseCount, .int j_tabletCount, .int j_riderCount, .int j_lineLength, .int j_hour]))]) [0] (by decide) rfl
    have hKc := hK
    refine cs_i (va_runV (As := []) (rest := []) ⟨hx, hb, hml, hown, hts⟩ (e_X8_ridersUnderWay l dC dI cs L ka ix ad n0 n6 n2 S f gq h0 a1 a2 a3 a4 a5 a6 a7 a8 a9 j_faultKind j_horseCount j_tabletCount j_riderCount j_lineLength j_hour s.heap.size hT hY) (cwV 0 hts gX8_count_X8_ridersUnderWay rfl rfl rfl (by decide +kernel) ⟨Nat.le_of_ble_eq_true rfl, Nat.le_of_ble_eq_true rfl⟩) ⟨c_blind, va_recv hKc hPc (ci := 8) (q0 := 0) rfl rfl, c_pre hPc hKc hDc hN⟩ rfl rfl hl.1 rfl (lv_room (Nat.le_of_ble_eq_true rfl)) dX8_count_61 ⟨Nat.le_of_ble_eq_true rfl, Nat.le_of_ble_eq_true rfl⟩) (fun r_6 hr_6 => ?_)
    subst hr_6
    exact W.iret (v := nI (cn (pU S) n2)) hx hb hr (fun t9 ht hW => ⟨_, rfl, (by unfold ctT; rw [if_neg c_1, if_neg c_2, if_neg c_3, if_neg c_4, if_pos c_5]), ht⟩) (fun q h => nomatch h) dX8_count_64
  by_cases c_7 : p0 = 5
  · refine lv_tableIn (tgt := 65) (off := 64) hx hb dX8_count_1 (by rw [c_7]; decide) (by rw [c_7]; decide) (by rw [c_7]; decide) (by decide) ?_
    refine lv_aload_n hx hb dX8_count_65 rfl (lv_at hl 0 rfl) ?_
    refine va_get (D := (dC, dI)) (ci := 8) (v := .ref a1) (C := RX8) (T := TX8) (N := 15) hx hb hts hin8 hown hK hP 0 rfl rfl 0 (by decide) (hts (.fieldLink RX8 10 "YamRiders" "tape" "LYamRiders$Tape;") (by decide +kernel)) (fun _ h9 => h9) rfl dX8_count_66 ?_
    refine va_getN (D := (dC, dI)) (ci := 7) (v := .int i_len) (C := RX7) (T := TX7) (N := 2) hx hb hts hin7 hown hK hP 1 rfl rfl 1 (by decide) (hN.nx (.fieldLinkNest RX8 70 "YamRiders$Tape" "length" "I" "YamRiders") (by decide +kernel)) (fun _ h9 => h9) rfl dX8_count_69 ?_
    exact W.iret (v := i_len) hx hb hr (fun t9 ht hW => ⟨_, rfl, (by unfold ctT; rw [if_neg c_1, if_neg c_2, if_neg c_3, if_neg c_4, if_neg c_5, if_pos c_7]), ht⟩) (fun q h => nomatch h) dX8_count_72
  refine lv_tableOut (tgt := 73) hx hb dX8_count_1 (sw_out0_5 c_1 c_2 c_3 c_4 c_5 c_7) (by decide) ?_
  refine lv_iconst (v := (-1)) hx hb dX8_count_73 (by decide) ?_
  exact W.iret (v := (-1)) hx hb hr (fun t9 ht hW => ⟨_, rfl, (by unfold ctT; rw [if_neg c_1, if_neg c_2, if_neg c_3, if_neg c_4, if_neg c_5, if_neg c_7]), ht⟩) (fun q h => nomatch h) dX8_count_74

set_option maxHeartbeats 4000000 in
set_option maxRecDepth 100000 in
theorem e_X8_goesBefore (l : Launch) (dC : Nat → ClassId) (dI : Nat → Nat → Nat) (cs : Nat → ClassId) (L : List Nat) (ka : Nat → Nat) (ix : Nat → Nat) (ad : Nat → Nat → Nat) (n0 : Nat) (n6 : Nat) (n2 : Nat) (S : Nat → Nat → Nat → Int32) (f : Nat → va_E) (i9 : Nat) (i8 : Nat) (h0 : Nat) (e1 : Nat) (sz : Nat) (hT : tB L ka ix ad cs n0 n6 n2 S f) (hk_h0 : tpx L ka ix 2 i9 h0) (hk_e1 : tpx L ka ix 2 i8 e1) (hlt_i9 : i9 < n2) (hlt_i8 : i8 < n2) : Met l yX8_goesBefore wsX8_goesBefore ({ frames := 2, cells := 0, slots := 0, locals := 41 }) (va_Pc [.ref h0, .ref e1] (cP dC dI ([] ++ va_pl L f) (tyC cs) sz)) (vp_Si (fun r => r = gB S i9 i8)) 0 0 (fun _ => False) := by
  refine Met.ofW (cc := cX8_goesBefore) (maxL := 2) (ret := (some .boolean)) (by decide) rfl ?_
  intro p e s m args below meth c s₁ B hml hv
  obtain ⟨rfl, hsz, hP, hK, hD0, hN⟩ := hv
  have hx := B.exec
  have hb := B.bytes
  have hr := B.returns
  have hts := atoms_spec (ws := wsX8_goesBefore) B.pre
  have hown : s.vm.findClass RX8 = some m.cls := findClass_of_methodNamed B.named
  have hlocks := B.notSynchronized
  subst hsz
  have hin2 : ∀ w ∈ u_ws RX2 TX2 10, w ∈ wsX8_goesBefore := by decide +kernel
  have hD := hD0
  have hP : va_P (dC, dI) vwCl ([] ++ va_pl L f) s.heap := hP
  have hl := lv_entry ([.ref h0, .ref e1]) (n := 2) (Nat.le_of_ble_eq_true rfl)
  rw [lg_entry_eq]
  generalize (lg_sl ([.ref h0, .ref e1]) ++ List.replicate (2 - (lg_sl ([.ref h0, .ref e1])).length) Slot.unset).toArray = ls at hl ⊢
  have hl : lv_has ls 2 [(0, .ref h0), (1, .ref e1)] := hl
  refine lv_aload_n hx hb dX8_goesBefore_0 rfl (lv_at hl 0 rfl) ?_
  refine lv_ifnull hx hb dX8_goesBefore_1 ?_
  refine lv_aload_n hx hb dX8_goesBefore_4 rfl (lv_at hl 1 rfl) ?_
  refine lv_ifnonnull (tgt := 10) hx hb dX8_goesBefore_5 (by decide) ?_
  refine lv_aload_n hx hb dX8_goesBefore_10 rfl (lv_at hl 0 rfl) ?_
  have hPc := hP.part (cx := []) [] rfl
  have hDc := hD.part (cx := []) [] (by decide) rfl
  have hKc := hK
  have hf_1 : f h0 = .inr (2, [.int (S 32 i9 0), .int (S 33 i9 0), .ref (ad 37 i9), .ref (ad 36 i9), .int (S 36 i9 0), .int (S 37 i9 0), .int (S 38 i9 0), va_rf (oq ad 0 (S 39 i9 0)), .int (S 40 i9 0), .int (S 41 i9 0)]) := hT.get hk_h0
  obtain ⟨q_2, hq_2⟩ := pl_at (X := []) (f := f) (e := .inr (2, [.int (S 32 i9 0), .int (S 33 i9 0), .ref (ad 37 i9), .ref (ad 36 i9), .int (S 36 i9 0), .int (S 37 i9 0), .int (S 38 i9 0), va_rf (oq ad 0 (S 39 i9 0)), .int (S 40 i9 0), .int (S 41 i9 0)])) hk_h0.1 hf_1
  refine cs_i (va_runV (As := []) (rest := []) ⟨hx, hb, hml, hown, hts⟩ (e_X2_lastStation l dC dI cs L ka ix ad n0 n6 n2 S f i9 h0 s.heap.size hT hk_h0 (by omega)) (cwV 0 hts gX8_goesBefore_X2_lastStation rfl rfl rfl (by decide +kernel) ⟨Nat.le_of_ble_eq_true rfl, Nat.le_of_ble_eq_true rfl⟩) ⟨c_blind, va_recv hKc hPc (ci := 2) (q0 := q_2) rfl hq_2, c_pre hPc hKc hDc hN⟩ rfl rfl hl.1 rfl (lv_room (Nat.le_of_ble_eq_true rfl)) dX8_goesBefore_11 ⟨Nat.le_of_ble_eq_true rfl, Nat.le_of_ble_eq_true rfl⟩) (fun r_3 hr_3 => ?_)
  subst hr_3
  refine lv_aload_n hx hb dX8_goesBefore_14 rfl (lv_at hl 1 rfl) ?_
  have hPc := hP.part (cx := []) [] rfl
  have hDc := hD.part (cx := []) [] (by decide) rfl
  have hKc := hK
  have hf_4 : f e1 = .inr (2, [.int (S 32 i8 0), .int (S 33 i8 0), .ref (ad 37 i8), .ref (ad 36 i8), .int (S 36 i8 0), .int (S 37 i8 0), .int (S 38 i8 0), va_rf (oq ad 0 (S 39 i8 0)), .int (S 40 i8 0), .int (S 41 i8 0)]) := hT.get hk_e1
  obtain ⟨q_5, hq_5⟩ := pl_at (X := []) (f := f) (e := .inr (2, [.int (S 32 i8 0), .int (S 33 i8 0), .ref (ad 37 i8), .ref (ad 36 i8), .int (S 36 i8 0), .int (S 37 i8 0), .int (S 38 i8 0), va_rf (oq ad 0 (S 39 i8 0)), .int (S 40 i8 0), .int (S 41 i8 0)])) hk_e1.1 hf_4
  refine cs_i (va_runV (As := []) (rest := [.int (sSW S i9 ((S 37 i9 0) - 1))]) ⟨hx, hb, hml, hown, hts⟩ (e_X2_lastStation l dC dI cs L ka ix ad n0 n6 n2 S f i8 e1 s.heap.size hT hk_e1 (by omega)) (cwV 0 hts gX8_goesBefore_X2_lastStation rfl rfl rfl (by decide +kernel) ⟨Nat.le_of_ble_eq_true rfl, Nat.le_of_ble_eq_true rfl⟩) ⟨c_blind, va_recv hKc hPc (ci := 2) (q0 := q_5) rfl hq_5, c_pre hPc hKc hDc hN⟩ rfl rfl hl.1 rfl (lv_room (Nat.le_of_ble_eq_true rfl)) dX8_goesBefore_15 ⟨Nat.le_of_ble_eq_true rfl, Nat.le_of_ble_eq_true rfl⟩) (fun r_6 hr_6 => ?_)
  subst hr_6
  refine lv_icmp_eq (tgt := 38) hx hb dX8_goesBefore_18 (by decide) (fun c_7 => ?_) (fun c_7 => ?_)
  · refine lv_aload_n hx hb dX8_goesBefore_38 rfl (lv_at hl 0 rfl) ?_
    obtain ⟨q_8, hq_8⟩ := pl_at (X := []) (f := f) (e := .inr (2, [.int (S 32 i9 0), .int (S 33 i9 0), .ref (ad 37 i9), .ref (ad 36 i9), .int (S 36 i9 0), .int (S 37 i9 0), .int (S 38 i9 0), va_rf (oq ad 0 (S 39 i9 0)), .int (S 40 i9 0), .int (S 41 i9 0)])) hk_h0.1 hf_1
    refine va_getN (D := (dC, dI)) (ci := 2) (v := .int (S 33 i9 0)) (C := RX2) (T := TX2) (N := 10) hx hb hts hin2 hown hK hP q_8 hq_8 rfl 1 (by decide) (hN.nx (.fieldLinkNest RX8 270 "YamRiders$Rider" "rank" "I" "YamRiders") (by decide +kernel)) (fun _ h9 => h9) rfl dX8_goesBefore_39 ?_
    refine lv_aload_n hx hb dX8_goesBefore_42 rfl (lv_at hl 1 rfl) ?_
    obtain ⟨q_9, hq_9⟩ := pl_at (X := []) (f := f) (e := .inr (2, [.int (S 32 i8 0), .int (S 33 i8 0), .ref (ad 37 i8), .ref (ad 36 i8), .int (S 36 i8 0), .int (S 37 i8 0), .int (S 38 i8 0), va_rf (oq ad 0 (S 39 i8 0)), .int (S 40 i8 0), .int (S 41 i8 0)])) hk_e1.1 hf_4
    refine va_getN (D := (dC, dI)) (ci := 2) (v := .int (S 33 i8 0)) (C := RX2) (T := TX2) (N := 10) hx hb hts hin2 hown hK hP q_9 hq_9 rfl 1 (by decide) (hN.nx (.fieldLinkNest RX8 270 "YamRiders$Rider" "rank" "I" "YamRiders") (by decide +kernel)) (fun _ h9 => h9) rfl dX8_goesBefore_43 ?_
    refine lv_icmp_eq (tgt := 66) hx hb dX8_goesBefore_46 (by decide) (fun c_10 => ?_) (fun c_10 => ?_)
    · refine lv_aload_n hx hb dX8_goesBefore_66 rfl (lv_at hl 0 rfl) ?_
      obtain ⟨q_11, hq_11⟩ := pl_at (X := []) (f := f) (e := .inr (2, [.int (S 32 i9 0), .int (S 33 i9 0), .ref (ad 37 i9), .ref (ad 36 i9), .int (S 36 i9 0), .int (S 37 i9 0), .int (S 38 i9 0), va_rf (oq ad 0 (S 39 i9 0)), .int (S 40 i9 0), .int (S 41 i9 0)])) hk_h0.1 hf_1
      refine va_getN (D := (dC, dI)) (ci := 2) (v := .int (S 38 i9 0)) (C := RX2) (T := TX2) (N := 10) hx hb hts hin2 hown hK hP q_11 hq_11 rfl 6 (by decide) (hN.nx (.fieldLinkNest RX8 184 "YamRiders$Rider" "came" "I" "YamRiders") (by decide +kernel)) (fun _ h9 => h9) rfl dX8_goesBefore_67 ?_
      refine lv_aload_n hx hb dX8_goesBefore_70 rfl (lv_at hl 1 rfl) ?_
      obtain ⟨q_12, hq_12⟩ := pl_at (X := []) (f := f) (e := .inr (2, [.int (S 32 i8 0), .int (S 33 i8 0), .ref (ad 37 i8), .ref (ad 36 i8), .int (S 36 i8 0), .int (S 37 i8 0), .int (S 38 i8 0), va_rf (oq ad 0 (S 39 i8 0)), .int (S 40 i8 0), .int (S 41 i8 0)])) hk_e1.1 hf_4
      refine va_getN (D := (dC, dI)) (ci := 2) (v := .int (S 38 i8 0)) (C := RX2) (T := TX2) (N := 10) hx hb hts hin2 hown hK hP q_12 hq_12 rfl 6 (by decide) (hN.nx (.fieldLinkNest RX8 184 "YamRiders$Rider" "came" "I" "YamRiders") (by decide +kernel)) (fun _ h9 => h9) rfl dX8_goesBefore_71 ?_
      refine lv_icmp_ge (tgt := 81) hx hb dX8_goesBefore_74 (by decide) (fun c_13 => ?_) (fun c_13 => ?_)
      · refine lv_iconst (v := 0) hx hb dX8_goesBefore_81 (by decide) ?_
        exact W.zret (v := 0) hx hb hr rfl (fun t9 ht hW => ⟨_, rfl, (by unfold gB; rw [if_pos c_7, if_pos c_10, if_pos c_13]), ht⟩) (fun q h => nomatch h) dX8_goesBefore_82
      · refine lv_iconst (v := 1) hx hb dX8_goesBefore_77 (by decide) ?_
        refine lv_goto (tgt := 82) hx hb dX8_goesBefore_78 (by decide) ?_
        exact W.zret (v := 1) hx hb hr rfl (fun t9 ht hW => ⟨_, rfl, (by unfold gB; rw [if_pos c_7, if_pos c_10, if_neg c_13]), ht⟩) (fun q h => nomatch h) dX8_goesBefore_82
    · refine lv_aload_n hx hb dX8_goesBefore_49 rfl (lv_at hl 0 rfl) ?_
      obtain ⟨q_14, hq_14⟩ := pl_at (X := []) (f := f) (e := .inr (2, [.int (S 32 i9 0), .int (S 33 i9 0), .ref (ad 37 i9), .ref (ad 36 i9), .int (S 36 i9 0), .int (S 37 i9 0), .int (S 38 i9 0), va_rf (oq ad 0 (S 39 i9 0)), .int (S 40 i9 0), .int (S 41 i9 0)])) hk_h0.1 hf_1
      refine va_getN (D := (dC, dI)) (ci := 2) (v := .int (S 33 i9 0)) (C := RX2) (T := TX2) (N := 10) hx hb hts hin2 hown hK hP q_14 hq_14 rfl 1 (by decide) (hN.nx (.fieldLinkNest RX8 270 "YamRiders$Rider" "rank" "I" "YamRiders") (by decide +kernel)) (fun _ h9 => h9) rfl dX8_goesBefore_50 ?_
      refine lv_aload_n hx hb dX8_goesBefore_53 rfl (lv_at hl 1 rfl) ?_
      obtain ⟨q_15, hq_15⟩ := pl_at (X := []) (f := f) (e := .inr (2, [.int (S 32 i8 0), .int (S 33 i8 0), .ref (ad 37 i8), .ref (ad 36 i8), .int (S 36 i8 0), .int (S 37 i8 0), .int (S 38 i8 0), va_rf (oq ad 0 (S 39 i8 0)), .int (S 40 i8 0), .int (S 41 i8 0)])) hk_e1.1 hf_4
      refine va_getN (D := (dC, dI)) (ci := 2) (v := .int (S 33 i8 0)) (C := RX2) (T := TX2) (N := 10) hx hb hts hin2 hown hK hP q_15 hq_15 rfl 1 (by decide) (hN.nx (.fieldLinkNest RX8 270 "YamRiders$Rider" "rank" "I" "YamRiders") (by decide +kernel)) (fun _ h9 => h9) rfl dX8_goesBefore_54 ?_
      refine lv_icmp_ge (tgt := 64) hx hb dX8_goesBefore_57 (by decide) (fun c_16 => ?_) (fun c_16 => ?_)
      · refine lv_iconst (v := 0) hx hb dX8_goesBefore_64 (by decide) ?_
        exact W.zret (v := 0) hx hb hr rfl (fun t9 ht hW => ⟨_, rfl, (by unfold gB; rw [if_pos c_7, if_neg c_10, if_pos c_16]), ht⟩) (fun q h => nomatch h) dX8_goesBefore_65
      · refine lv_iconst (v := 1) hx hb dX8_goesBefore_60 (by decide) ?_
        refine lv_goto (tgt := 65) hx hb dX8_goesBefore_61 (by decide) ?_
        exact W.zret (v := 1) hx hb hr rfl (fun t9 ht hW => ⟨_, rfl, (by unfold gB; rw [if_pos c_7, if_neg c_10, if_neg c_16]), ht⟩) (fun q h => nomatch h) dX8_goesBefore_65
  · refine lv_aload_n hx hb dX8_goesBefore_21 rfl (lv_at hl 0 rfl) ?_
    have hPc := hP.part (cx := []) [] rfl
    have hDc := hD.part (cx := []) [] (by decide) rfl
    have hKc := hK
    obtain ⟨q_17, hq_17⟩ := pl_at (X := []) (f := f) (e := .inr (2, [.int (S 32 i9 0), .int (S 33 i9 0), .ref (ad 37 i9), .ref (ad 36 i9), .int (S 36 i9 0), .int (S 37 i9 0), .int (S 38 i9 0), va_rf (oq ad 0 (S 39 i9 0)), .int (S 40 i9 0), .int (S 41 i9 0)])) hk_h0.1 hf_1
    refine cs_i (va_runV (As := []) (rest := []) ⟨hx, hb, hml, hown, hts⟩ (e_X2_lastStation l dC dI cs L ka ix ad n0 n6 n2 S f i9 h0 s.heap.size hT hk_h0 (by omega)) (cwV 0 hts gX8_goesBefore_X2_lastStation rfl rfl rfl (by decide +kernel) ⟨Nat.le_of_ble_eq_true rfl, Nat.le_of_ble_eq_true rfl⟩) ⟨c_blind, va_recv hKc hPc (ci := 2) (q0 := q_17) rfl hq_17, c_pre hPc hKc hDc hN⟩ rfl rfl hl.1 rfl (lv_room (Nat.le_of_ble_eq_true rfl)) dX8_goesBefore_22 ⟨Nat.le_of_ble_eq_true rfl, Nat.le_of_ble_eq_true rfl⟩) (fun r_18 hr_18 => ?_)
    subst hr_18
    refine lv_aload_n hx hb dX8_goesBefore_25 rfl (lv_at hl 1 rfl) ?_
    have hPc := hP.part (cx := []) [] rfl
    have hDc := hD.part (cx := []) [] (by decide) rfl
    have hKc := hK
    obtain ⟨q_19, hq_19⟩ := pl_at (X := []) (f := f) (e := .inr (2, [.int (S 32 i8 0), .int (S 33 i8 0), .ref (ad 37 i8), .ref (ad 36 i8), .int (S 36 i8 0), .int (S 37 i8 0), .int (S 38 i8 0), va_rf (oq ad 0 (S 39 i8 0)), .int (S 40 i8 0), .int (S 41 i8 0)])) hk_e1.1 hf_4
    refine cs_i (va_runV (As := []) (rest := [.int (sSW S i9 ((S 37 i9 0) - 1))]) ⟨hx, hb, hml, hown, hts⟩ (e_X2_lastStation l dC dI cs L ka ix ad n0 n6 n2 S f i8 e1 s.heap.size hT hk_e1 (by omega)) (cwV 0 hts gX8_goesBefore_X2_lastStation rfl rfl rfl (by decide +kernel) ⟨Nat.le_of_ble_eq_true rfl, Nat.le_of_ble_eq_true rfl⟩) ⟨c_blind, va_recv hKc hPc (ci := 2) (q0 := q_19) rfl hq_19, c_pre hPc hKc hDc hN⟩ rfl rfl hl.1 rfl (lv_room (Nat.le_of_ble_eq_true rfl)) dX8_goesBefore_26 ⟨Nat.le_of_ble_eq_true rfl, Nat.le_of_ble_eq_true rfl⟩) (fun r_20 hr_20 => ?_)
    subst hr_20
    refine lv_icmp_ge (tgt := 36) hx hb dX8_goesBefore_29 (by decide) (fun c_21 => ?_) (fun c_21 => ?_)
    · refine lv_iconst (v := 0) hx hb dX8_goesBefore_36 (by decide) ?_
      exact W.zret (v := 0) hx hb hr rfl (fun t9 ht hW => ⟨_, rfl, (by unfold gB; rw [if_neg c_7, if_pos c_21]), ht⟩) (fun q h => nomatch h) dX8_goesBefore_37
    · refine lv_iconst (v := 1) hx hb dX8_goesBefore_32 (by decide) ?_
      refine lv_goto (tgt := 37) hx hb dX8_goesBefore_33 (by decide) ?_
      exact W.zret (v := 1) hx hb hr rfl (fun t9 ht hW => ⟨_, rfl, (by unfold gB; rw [if_neg c_7, if_neg c_21]), ht⟩) (fun q h => nomatch h) dX8_goesBefore_37
