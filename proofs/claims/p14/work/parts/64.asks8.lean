theorem sw_i {x : Int32} {n : Int} {y : Int32} (hy : y.toInt = n) (h : ¬ x = y) : ¬ x.toInt = n := fun q => h (Int32.toInt_inj.mp (q.trans hy.symm))
theorem sw_out0_2 {x : Int32} (h0 : ¬ x = 0) (h1 : ¬ x = 1) (h2 : ¬ x = 2) : x.toInt < 0 ∨ 2 < x.toInt := by
  have g0 := sw_i (n := 0) (by decide) h0
  have g1 := sw_i (n := 1) (by decide) h1
  have g2 := sw_i (n := 2) (by decide) h2
  omega
theorem sw_out0_4 {x : Int32} (h0 : ¬ x = 0) (h1 : ¬ x = 1) (h2 : ¬ x = 2) (h3 : ¬ x = 3) (h4 : ¬ x = 4) : x.toInt < 0 ∨ 4 < x.toInt := by
  have g0 := sw_i (n := 0) (by decide) h0
  have g1 := sw_i (n := 1) (by decide) h1
  have g2 := sw_i (n := 2) (by decide) h2
  have g3 := sw_i (n := 3) (by decide) h3
  have g4 := sw_i (n := 4) (by decide) h4
  omega
theorem sw_out0_5 {x : Int32} (h0 : ¬ x = 0) (h1 : ¬ x = 1) (h2 : ¬ x = 2) (h3 : ¬ x = 3) (h4 : ¬ x = 4) (h5 : ¬ x = 5) : x.toInt < 0 ∨ 5 < x.toInt := by
  have g0 := sw_i (n := 0) (by decide) h0
  have g1 := sw_i (n := 1) (by decide) h1
  have g2 := sw_i (n := 2) (by decide) h2
  have g3 := sw_i (n := 3) (by decide) h3
  have g4 := sw_i (n := 4) (by decide) h4
  have g5 := sw_i (n := 5) (by decide) h5
  omega
theorem sw_out0_21 {x : Int32} (h0 : ¬ x = 0) (h1 : ¬ x = 1) (h2 : ¬ x = 2) (h3 : ¬ x = 3) (h4 : ¬ x = 4) (h5 : ¬ x = 5) (h6 : ¬ x = 6) (h7 : ¬ x = 7) (h8 : ¬ x = 8) (h9 : ¬ x = 9) (h10 : ¬ x = 10) (h11 : ¬ x = 11) (h12 : ¬ x = 12) (h13 : ¬ x = 13) (h14 : ¬ x = 14) (h15 : ¬ x = 15) (h16 : ¬ x = 16) (h17 : ¬ x = 17) (h18 : ¬ x = 18) (h19 : ¬ x = 19) (h20 : ¬ x = 20) (h21 : ¬ x = 21) : x.toInt < 0 ∨ 21 < x.toInt := by
  have g0 := sw_i (n := 0) (by decide) h0
  have g1 := sw_i (n := 1) (by decide) h1
  have g2 := sw_i (n := 2) (by decide) h2
  have g3 := sw_i (n := 3) (by decide) h3
  have g4 := sw_i (n := 4) (by decide) h4
  have g5 := sw_i (n := 5) (by decide) h5
  have g6 := sw_i (n := 6) (by decide) h6
  have g7 := sw_i (n := 7) (by decide) h7
  have g8 := sw_i (n := 8) (by decide) h8
  have g9 := sw_i (n := 9) (by decide) h9
  have g10 := sw_i (n := 10) (by decide) h10
  have g11 := sw_i (n := 11) (by decide) h11
  have g12 := sw_i (n := 12) (by decide) h12
  have g13 := sw_i (n := 13) (by decide) h13
  have g14 := sw_i (n := 14) (by decide) h14
  have g15 := sw_i (n := 15) (by decide) h15
  have g16 := sw_i (n := 16) (by decide) h16
  have g17 := sw_i (n := 17) (by decide) h17
  have g18 := sw_i (n := 18) (by decide) h18
  have g19 := sw_i (n := 19) (by decide) h19
  have g20 := sw_i (n := 20) (by decide) h20
  have g21 := sw_i (n := 21) (by decide) h21
  omega
theorem nI_s1 {m n : Nat} (h : m = n + 1) : nI m - 1 = nI n := by
  subst h
  rw [← nI_1 n]
  exact Int32.add_sub_cancel (nI n) 1
theorem nI_m1 {m n : Nat} (h : m = n + 1) : nI m + (-1) = nI n := by
  rw [← Int32.sub_eq_add_neg]
  exact nI_s1 h
theorem nI_p {m : Nat} (c : ¬ nI m ≤ 0) (hm : m < 2 ^ 31) : 0 < m := by
  rcases Nat.eq_zero_or_pos m with h | h
  · subst h; exact absurd (Int32.le_refl _) c
  · exact h
theorem nI_ltq {m n : Nat} (c : nI m < nI n) (hm : m < 2 ^ 31) (hn : n < 2 ^ 31) : m < n := Decidable.byContradiction fun q => absurd (nI_le (by omega : n ≤ m) hm) (Int32.not_le.mpr c)
theorem nI_nleq {m n : Nat} (c : ¬ nI n ≤ nI m) (hm : m < 2 ^ 31) : m < n := Decidable.byContradiction fun q => c (nI_le (by omega) hm)
theorem ka_eq {D : va_G} {cl : List vw_C} {tys : List (ClassId × FieldType)} {U : State} {c d : ClassId} (hK : va_K D cl tys U) (i j : Nat) (hi : tys[i]? = some (c, .int)) (hj : tys[j]? = some (d, .int)) : d = c := by
  have h1 := (hK.2 i _ hi).2
  have h2 := (hK.2 j _ hj).2
  exact Option.some.inj (h2.symm.trans h1)

set_option maxHeartbeats 4000000 in
set_option maxRecDepth 100000 in
theorem t_X8_horseOf (l : Launch) (dC : Nat → ClassId) (dI : Nat → Nat → Nat) (cs : Nat → ClassId) (L : List Nat) (ka : Nat → Nat) (f : Nat → va_E) (h0 : Nat) (a1 : Nat) (a2 : Nat) (a3 : Nat) (a4 : Nat) (a5 : Nat) (a6 : Nat) (a7 : Nat) (a8 : Nat) (a9 : Nat) (j_faultKind : Int32) (j_horseCount : Int32) (j_tabletCount : Int32) (j_riderCount : Int32) (j_lineLength : Int32) (j_hour : Int32) (p0 : Int32) (sz : Nat) (hT : tO L ka cs f) (hY : yK L ka a2 a3 a4 a5 a6 a7 a8 a9) : Met l yX8_horseOf wsX8_horseOf ({ frames := 0, cells := 0, slots := 0, locals := 0 }) (va_Pc [.ref h0, .int p0] (cP dC dI ([(h0, .inr (8, [.ref a1, .ref a2, .ref a3, .ref a4, .ref a5, .ref a6, .ref a7, .ref a8, .ref a9, .int j_faultKind, .int j_horseCount, .int j_tabletCount, .int j_riderCount, .int j_lineLength, .int j_hour]))] ++ va_pl L f) (tyC cs) sz)) (va_Sq (fun r => tq L ka 0 r)) 0 0 (fun _ => False) := by
  refine Met.ofW (cc := cX8_horseOf) (maxL := 2) (ret := (some (.object "YamRiders$Horse"))) (by decide) rfl ?_
  intro p e s m args below meth c s₁ B hml hv
  obtain ⟨rfl, hsz, hP, hK, hD0, hN⟩ := hv
  have hx := B.exec
  have hb := B.bytes
  have hr := B.returns
  have hts := atoms_spec (ws := wsX8_horseOf) B.pre
  have hown : s.vm.findClass RX8 = some m.cls := findClass_of_methodNamed B.named
  have hlocks := B.notSynchronized
  subst hsz
  have hin8 : ∀ w ∈ u_ws RX8 TX8 15, w ∈ wsX8_horseOf := by decide +kernel
  have hD := hD0
  have hP : va_P (dC, dI) vwCl ([(h0, .inr (8, [.ref a1, .ref a2, .ref a3, .ref a4, .ref a5, .ref a6, .ref a7, .ref a8, .ref a9, .int j_faultKind, .int j_horseCount, .int j_tabletCount, .int j_riderCount, .int j_lineLength, .int j_hour]))] ++ va_pl L f) s.heap := hP
  have hl := lv_entry ([.ref h0, .int p0]) (n := 2) (Nat.le_of_ble_eq_true rfl)
  rw [lg_entry_eq]
  generalize (lg_sl ([.ref h0, .int p0]) ++ List.replicate (2 - (lg_sl ([.ref h0, .int p0])).length) Slot.unset).toArray = ls at hl ⊢
  have hl : lv_has ls 2 [(0, .ref h0), (1, .int p0)] := hl
  refine lv_iload_n hx hb dX8_horseOf_0 rfl (lv_at hl 1 rfl) ?_
  refine lv_if_lt (tgt := 19) hx hb dX8_horseOf_1 (by decide) (fun c_1 => ?_) (fun c_1 => ?_)
  · refine lv_null hx hb dX8_horseOf_19 ?_
    exact W.aret (v := .null) hx hb hr (by first | exact Or.inl ⟨_, rfl⟩ | exact Or.inr ⟨_, rfl⟩) (Or.inl rfl) (fun t9 ht hW => ⟨none, rfl, (fun _ h9 => nomatch h9), ht⟩) (fun q h => nomatch h) dX8_horseOf_20
  · refine lv_iload_n hx hb dX8_horseOf_4 rfl (lv_at hl 1 rfl) ?_
    refine lv_bipush (v := 60) hx hb dX8_horseOf_5 (by decide) ?_
    refine lv_icmp_ge (tgt := 19) hx hb dX8_horseOf_7 (by decide) (fun c_2 => ?_) (fun c_2 => ?_)
    · refine lv_null hx hb dX8_horseOf_19 ?_
      exact W.aret (v := .null) hx hb hr (by first | exact Or.inl ⟨_, rfl⟩ | exact Or.inr ⟨_, rfl⟩) (Or.inl rfl) (fun t9 ht hW => ⟨none, rfl, (fun _ h9 => nomatch h9), ht⟩) (fun q h => nomatch h) dX8_horseOf_20
    · refine lv_aload_n hx hb dX8_horseOf_10 rfl (lv_at hl 0 rfl) ?_
      refine va_get (D := (dC, dI)) (ci := 8) (v := .ref a5) (C := RX8) (T := TX8) (N := 15) hx hb hts hin8 hown hK hP 0 rfl rfl 4 (by decide) (hts (.fieldLink RX8 36 "YamRiders" "horses" "[LYamRiders$Horse;") (by decide +kernel)) (fun _ h9 => h9) rfl dX8_horseOf_11 ?_
      refine lv_iload_n hx hb dX8_horseOf_14 rfl (lv_at hl 1 rfl) ?_
      obtain ⟨g_4, hf_3, hr_5⟩ := hT.get hY.2.2.2.1
      obtain ⟨q_6, hq_6⟩ := pl_at (X := [(h0, .inr (8, [.ref a1, .ref a2, .ref a3, .ref a4, .ref a5, .ref a6, .ref a7, .ref a8, .ref a9, .int j_faultKind, .int j_horseCount, .int j_tabletCount, .int j_riderCount, .int j_lineLength, .int j_hour]))]) (f := f) (e := .inl (cs 3, 60, .inr (.inr (.inr (.inr g_4))))) hY.2.2.2.1.1 hf_3
      refine va_aldq hx hb hK hP q_6 3 hq_6 rfl (in_nI c_1 c_2 (by first | decide | omega)) dX8_horseOf_15 ?_
      rcases hr_o_7 : g_4 p0.toNatClampNeg with _ | o_7
      · refine W.eq (g2 := F0 m 16 ls [.null]) rfl ?_
        refine lv_goto (tgt := 20) hx hb dX8_horseOf_16 (by decide) ?_
        exact W.aret (v := .null) hx hb hr (by first | exact Or.inl ⟨_, rfl⟩ | exact Or.inr ⟨_, rfl⟩) (Or.inl rfl) (fun t9 ht hW => ⟨none, rfl, (fun _ h9 => nomatch h9), ht⟩) (fun q h => nomatch h) dX8_horseOf_20
      · have hk_o_7 := hr_5 _ _ hr_o_7
        refine W.eq (g2 := F0 m 16 ls [.ref o_7]) rfl ?_
        refine lv_goto (tgt := 20) hx hb dX8_horseOf_16 (by decide) ?_
        exact W.aret (v := .ref o_7) hx hb hr (by first | exact Or.inl ⟨_, rfl⟩ | exact Or.inr ⟨_, rfl⟩) (Or.inr ⟨_, rfl⟩) (fun t9 ht hW => ⟨(some o_7), rfl, (fun _ h9 => Option.some.inj h9 ▸ hk_o_7), ht⟩) (fun q h => nomatch h) dX8_horseOf_20

set_option maxHeartbeats 4000000 in
set_option maxRecDepth 100000 in
theorem t_X8_tabletOf (l : Launch) (dC : Nat → ClassId) (dI : Nat → Nat → Nat) (cs : Nat → ClassId) (L : List Nat) (ka : Nat → Nat) (f : Nat → va_E) (h0 : Nat) (a1 : Nat) (a2 : Nat) (a3 : Nat) (a4 : Nat) (a5 : Nat) (a6 : Nat) (a7 : Nat) (a8 : Nat) (a9 : Nat) (j_faultKind : Int32) (j_horseCount : Int32) (j_tabletCount : Int32) (j_riderCount : Int32) (j_lineLength : Int32) (j_hour : Int32) (p0 : Int32) (sz : Nat) (hT : tO L ka cs f) (hY : yK L ka a2 a3 a4 a5 a6 a7 a8 a9) : Met l yX8_tabletOf wsX8_tabletOf ({ frames := 0, cells := 0, slots := 0, locals := 0 }) (va_Pc [.ref h0, .int p0] (cP dC dI ([(h0, .inr (8, [.ref a1, .ref a2, .ref a3, .ref a4, .ref a5, .ref a6, .ref a7, .ref a8, .ref a9, .int j_faultKind, .int j_horseCount, .int j_tabletCount, .int j_riderCount, .int j_lineLength, .int j_hour]))] ++ va_pl L f) (tyC cs) sz)) (va_Sq (fun r => tq L ka 6 r)) 0 0 (fun _ => False) := by
  refine Met.ofW (cc := cX8_tabletOf) (maxL := 2) (ret := (some (.object "YamRiders$Tablet"))) (by decide) rfl ?_
  intro p e s m args below meth c s₁ B hml hv
  obtain ⟨rfl, hsz, hP, hK, hD0, hN⟩ := hv
  have hx := B.exec
  have hb := B.bytes
  have hr := B.returns
  have hts := atoms_spec (ws := wsX8_tabletOf) B.pre
  have hown : s.vm.findClass RX8 = some m.cls := findClass_of_methodNamed B.named
  have hlocks := B.notSynchronized
  subst hsz
  have hin8 : ∀ w ∈ u_ws RX8 TX8 15, w ∈ wsX8_tabletOf := by decide +kernel
  have hD := hD0
  have hP : va_P (dC, dI) vwCl ([(h0, .inr (8, [.ref a1, .ref a2, .ref a3, .ref a4, .ref a5, .ref a6, .ref a7, .ref a8, .ref a9, .int j_faultKind, .int j_horseCount, .int j_tabletCount, .int j_riderCount, .int j_lineLength, .int j_hour]))] ++ va_pl L f) s.heap := hP
  have hl := lv_entry ([.ref h0, .int p0]) (n := 2) (Nat.le_of_ble_eq_true rfl)
  rw [lg_entry_eq]
  generalize (lg_sl ([.ref h0, .int p0]) ++ List.replicate (2 - (lg_sl ([.ref h0, .int p0])).length) Slot.unset).toArray = ls at hl ⊢
  have hl : lv_has ls 2 [(0, .ref h0), (1, .int p0)] := hl
  refine lv_iload_n hx hb dX8_tabletOf_0 rfl (lv_at hl 1 rfl) ?_
  refine lv_if_lt (tgt := 19) hx hb dX8_tabletOf_1 (by decide) (fun c_1 => ?_) (fun c_1 => ?_)
  · refine lv_null hx hb dX8_tabletOf_19 ?_
    exact W.aret (v := .null) hx hb hr (by first | exact Or.inl ⟨_, rfl⟩ | exact Or.inr ⟨_, rfl⟩) (Or.inl rfl) (fun t9 ht hW => ⟨none, rfl, (fun _ h9 => nomatch h9), ht⟩) (fun q h => nomatch h) dX8_tabletOf_20
  · refine lv_iload_n hx hb dX8_tabletOf_4 rfl (lv_at hl 1 rfl) ?_
    refine lv_bipush (v := 20) hx hb dX8_tabletOf_5 (by decide) ?_
    refine lv_icmp_ge (tgt := 19) hx hb dX8_tabletOf_7 (by decide) (fun c_2 => ?_) (fun c_2 => ?_)
    · refine lv_null hx hb dX8_tabletOf_19 ?_
      exact W.aret (v := .null) hx hb hr (by first | exact Or.inl ⟨_, rfl⟩ | exact Or.inr ⟨_, rfl⟩) (Or.inl rfl) (fun t9 ht hW => ⟨none, rfl, (fun _ h9 => nomatch h9), ht⟩) (fun q h => nomatch h) dX8_tabletOf_20
    · refine lv_aload_n hx hb dX8_tabletOf_10 rfl (lv_at hl 0 rfl) ?_
      refine va_get (D := (dC, dI)) (ci := 8) (v := .ref a6) (C := RX8) (T := TX8) (N := 15) hx hb hts hin8 hown hK hP 0 rfl rfl 5 (by decide) (hts (.fieldLink RX8 42 "YamRiders" "tablets" "[LYamRiders$Tablet;") (by decide +kernel)) (fun _ h9 => h9) rfl dX8_tabletOf_11 ?_
      refine lv_iload_n hx hb dX8_tabletOf_14 rfl (lv_at hl 1 rfl) ?_
      obtain ⟨g_4, hf_3, hr_5⟩ := hT.get hY.2.2.2.2.1
      obtain ⟨q_6, hq_6⟩ := pl_at (X := [(h0, .inr (8, [.ref a1, .ref a2, .ref a3, .ref a4, .ref a5, .ref a6, .ref a7, .ref a8, .ref a9, .int j_faultKind, .int j_horseCount, .int j_tabletCount, .int j_riderCount, .int j_lineLength, .int j_hour]))]) (f := f) (e := .inl (cs 4, 20, .inr (.inr (.inr (.inr g_4))))) hY.2.2.2.2.1.1 hf_3
      refine va_aldq hx hb hK hP q_6 4 hq_6 rfl (in_nI c_1 c_2 (by first | decide | omega)) dX8_tabletOf_15 ?_
      rcases hr_o_7 : g_4 p0.toNatClampNeg with _ | o_7
      · refine W.eq (g2 := F0 m 16 ls [.null]) rfl ?_
        refine lv_goto (tgt := 20) hx hb dX8_tabletOf_16 (by decide) ?_
        exact W.aret (v := .null) hx hb hr (by first | exact Or.inl ⟨_, rfl⟩ | exact Or.inr ⟨_, rfl⟩) (Or.inl rfl) (fun t9 ht hW => ⟨none, rfl, (fun _ h9 => nomatch h9), ht⟩) (fun q h => nomatch h) dX8_tabletOf_20
      · have hk_o_7 := hr_5 _ _ hr_o_7
        refine W.eq (g2 := F0 m 16 ls [.ref o_7]) rfl ?_
        refine lv_goto (tgt := 20) hx hb dX8_tabletOf_16 (by decide) ?_
        exact W.aret (v := .ref o_7) hx hb hr (by first | exact Or.inl ⟨_, rfl⟩ | exact Or.inr ⟨_, rfl⟩) (Or.inr ⟨_, rfl⟩) (fun t9 ht hW => ⟨(some o_7), rfl, (fun _ h9 => Option.some.inj h9 ▸ hk_o_7), ht⟩) (fun q h => nomatch h) dX8_tabletOf_20

set_option maxHeartbeats 4000000 in
set_option maxRecDepth 100000 in
theorem t_X8_riderOf (l : Launch) (dC : Nat → ClassId) (dI : Nat → Nat → Nat) (cs : Nat → ClassId) (L : List Nat) (ka : Nat → Nat) (f : Nat → va_E) (h0 : Nat) (a1 : Nat) (a2 : Nat) (a3 : Nat) (a4 : Nat) (a5 : Nat) (a6 : Nat) (a7 : Nat) (a8 : Nat) (a9 : Nat) (j_faultKind : Int32) (j_horseCount : Int32) (j_tabletCount : Int32) (j_riderCount : Int32) (j_lineLength : Int32) (j_hour : Int32) (p0 : Int32) (sz : Nat) (hT : tO L ka cs f) (hY : yK L ka a2 a3 a4 a5 a6 a7 a8 a9) : Met l yX8_riderOf wsX8_riderOf ({ frames := 0, cells := 0, slots := 0, locals := 0 }) (va_Pc [.ref h0, .int p0] (cP dC dI ([(h0, .inr (8, [.ref a1, .ref a2, .ref a3, .ref a4, .ref a5, .ref a6, .ref a7, .ref a8, .ref a9, .int j_faultKind, .int j_horseCount, .int j_tabletCount, .int j_riderCount, .int j_lineLength, .int j_hour]))] ++ va_pl L f) (tyC cs) sz)) (va_Sq (fun r => tq L ka 2 r)) 0 0 (fun _ => False) := by
  refine Met.ofW (cc := cX8_riderOf) (maxL := 2) (ret := (some (.object "YamRiders$Rider"))) (by decide) rfl ?_
  intro p e s m args below meth c s₁ B hml hv
  obtain ⟨rfl, hsz, hP, hK, hD0, hN⟩ := hv
  have hx := B.exec
  have hb := B.bytes
  have hr := B.returns
  have hts := atoms_spec (ws := wsX8_riderOf) B.pre
  have hown : s.vm.findClass RX8 = some m.cls := findClass_of_methodNamed B.named
  have hlocks := B.notSynchronized
  subst hsz
  have hin8 : ∀ w ∈ u_ws RX8 TX8 15, w ∈ wsX8_riderOf := by decide +kernel
  have hD := hD0
  have hP : va_P (dC, dI) vwCl ([(h0, .inr (8, [.ref a1, .ref a2, .ref a3, .ref a4, .ref a5, .ref a6, .ref a7, .ref a8, .ref a9, .int j_faultKind, .int j_horseCount, .int j_tabletCount, .int j_riderCount, .int j_lineLength, .int j_hour]))] ++ va_pl L f) s.heap := hP
  have hl := lv_entry ([.ref h0, .int p0]) (n := 2) (Nat.le_of_ble_eq_true rfl)
  rw [lg_entry_eq]
  generalize (lg_sl ([.ref h0, .int p0]) ++ List.replicate (2 - (lg_sl ([.ref h0, .int p0])).length) Slot.unset).toArray = ls at hl ⊢
  have hl : lv_has ls 2 [(0, .ref h0), (1, .int p0)] := hl
  refine lv_iload_n hx hb dX8_riderOf_0 rfl (lv_at hl 1 rfl) ?_
  refine lv_if_lt (tgt := 19) hx hb dX8_riderOf_1 (by decide) (fun c_1 => ?_) (fun c_1 => ?_)
  · refine lv_null hx hb dX8_riderOf_19 ?_
    exact W.aret (v := .null) hx hb hr (by first | exact Or.inl ⟨_, rfl⟩ | exact Or.inr ⟨_, rfl⟩) (Or.inl rfl) (fun t9 ht hW => ⟨none, rfl, (fun _ h9 => nomatch h9), ht⟩) (fun q h => nomatch h) dX8_riderOf_20
  · refine lv_iload_n hx hb dX8_riderOf_4 rfl (lv_at hl 1 rfl) ?_
    refine lv_bipush (v := 60) hx hb dX8_riderOf_5 (by decide) ?_
    refine lv_icmp_ge (tgt := 19) hx hb dX8_riderOf_7 (by decide) (fun c_2 => ?_) (fun c_2 => ?_)
    · refine lv_null hx hb dX8_riderOf_19 ?_
      exact W.aret (v := .null) hx hb hr (by first | exact Or.inl ⟨_, rfl⟩ | exact Or.inr ⟨_, rfl⟩) (Or.inl rfl) (fun t9 ht hW => ⟨none, rfl, (fun _ h9 => nomatch h9), ht⟩) (fun q h => nomatch h) dX8_riderOf_20
    · refine lv_aload_n hx hb dX8_riderOf_10 rfl (lv_at hl 0 rfl) ?_
      refine va_get (D := (dC, dI)) (ci := 8) (v := .ref a7) (C := RX8) (T := TX8) (N := 15) hx hb hts hin8 hown hK hP 0 rfl rfl 6 (by decide) (hts (.fieldLink RX8 48 "YamRiders" "riders" "[LYamRiders$Rider;") (by decide +kernel)) (fun _ h9 => h9) rfl dX8_riderOf_11 ?_
      refine lv_iload_n hx hb dX8_riderOf_14 rfl (lv_at hl 1 rfl) ?_
      obtain ⟨g_4, hf_3, hr_5⟩ := hT.get hY.2.2.2.2.2.1
      obtain ⟨q_6, hq_6⟩ := pl_at (X := [(h0, .inr (8, [.ref a1, .ref a2, .ref a3, .ref a4, .ref a5, .ref a6, .ref a7, .ref a8, .ref a9, .int j_faultKind, .int j_horseCount, .int j_tabletCount, .int j_riderCount, .int j_lineLength, .int j_hour]))]) (f := f) (e := .inl (cs 5, 60, .inr (.inr (.inr (.inr g_4))))) hY.2.2.2.2.2.1.1 hf_3
      refine va_aldq hx hb hK hP q_6 5 hq_6 rfl (in_nI c_1 c_2 (by first | decide | omega)) dX8_riderOf_15 ?_
      rcases hr_o_7 : g_4 p0.toNatClampNeg with _ | o_7
      · refine W.eq (g2 := F0 m 16 ls [.null]) rfl ?_
        refine lv_goto (tgt := 20) hx hb dX8_riderOf_16 (by decide) ?_
        exact W.aret (v := .null) hx hb hr (by first | exact Or.inl ⟨_, rfl⟩ | exact Or.inr ⟨_, rfl⟩) (Or.inl rfl) (fun t9 ht hW => ⟨none, rfl, (fun _ h9 => nomatch h9), ht⟩) (fun q h => nomatch h) dX8_riderOf_20
      · have hk_o_7 := hr_5 _ _ hr_o_7
        refine W.eq (g2 := F0 m 16 ls [.ref o_7]) rfl ?_
        refine lv_goto (tgt := 20) hx hb dX8_riderOf_16 (by decide) ?_
        exact W.aret (v := .ref o_7) hx hb hr (by first | exact Or.inl ⟨_, rfl⟩ | exact Or.inr ⟨_, rfl⟩) (Or.inr ⟨_, rfl⟩) (fun t9 ht hW => ⟨(some o_7), rfl, (fun _ h9 => Option.some.inj h9 ▸ hk_o_7), ht⟩) (fun q h => nomatch h) dX8_riderOf_20

set_option maxHeartbeats 4000000 in
set_option maxRecDepth 100000 in
theorem t_X8_isHad (l : Launch) (dC : Nat → ClassId) (dI : Nat → Nat → Nat) (cs : Nat → ClassId) (L : List Nat) (ka : Nat → Nat) (f : Nat → va_E) (h0 : Nat) (a1 : Nat) (a2 : Nat) (a3 : Nat) (a4 : Nat) (a5 : Nat) (a6 : Nat) (a7 : Nat) (a8 : Nat) (a9 : Nat) (j_faultKind : Int32) (j_horseCount : Int32) (j_tabletCount : Int32) (j_riderCount : Int32) (j_lineLength : Int32) (j_hour : Int32) (p0 : Int32) (sz : Nat) (hT : tO L ka cs f) (hY : yK L ka a2 a3 a4 a5 a6 a7 a8 a9) : Met l yX8_isHad wsX8_isHad ({ frames := 1, cells := 0, slots := 0, locals := 20 }) (va_Pc [.ref h0, .int p0] (cP dC dI ([(h0, .inr (8, [.ref a1, .ref a2, .ref a3, .ref a4, .ref a5, .ref a6, .ref a7, .ref a8, .ref a9, .int j_faultKind, .int j_horseCount, .int j_tabletCount, .int j_riderCount, .int j_lineLength, .int j_hour]))] ++ va_pl L f) (tyC cs) sz)) (vp_Si (fun r => r = 0 ∨ r = 1)) 0 0 (fun _ => False) := by
  refine Met.ofW (cc := cX8_isHad) (maxL := 6) (ret := (some .boolean)) (by decide) rfl ?_
  intro p e s m args below meth c s₁ B hml hv
  obtain ⟨rfl, hsz, hP, hK, hD0, hN⟩ := hv
  have hx := B.exec
  have hb := B.bytes
  have hr := B.returns
  have hts := atoms_spec (ws := wsX8_isHad) B.pre
  have hown : s.vm.findClass RX8 = some m.cls := findClass_of_methodNamed B.named
  have hlocks := B.notSynchronized
  subst hsz
  have hin2 : ∀ w ∈ u_ws RX2 TX2 10, w ∈ wsX8_isHad := by decide +kernel
  have hin8 : ∀ w ∈ u_ws RX8 TX8 15, w ∈ wsX8_isHad := by decide +kernel
  have hD := hD0
  have hP : va_P (dC, dI) vwCl ([(h0, .inr (8, [.ref a1, .ref a2, .ref a3, .ref a4, .ref a5, .ref a6, .ref a7, .ref a8, .ref a9, .int j_faultKind, .int j_horseCount, .int j_tabletCount, .int j_riderCount, .int j_lineLength, .int j_hour]))] ++ va_pl L f) s.heap := hP
  have hl := lv_entry ([.ref h0, .int p0]) (n := 6) (Nat.le_of_ble_eq_true rfl)
  rw [lg_entry_eq]
  generalize (lg_sl ([.ref h0, .int p0]) ++ List.replicate (6 - (lg_sl ([.ref h0, .int p0])).length) Slot.unset).toArray = ls at hl ⊢
  have hl : lv_has ls 6 [(0, .ref h0), (1, .int p0)] := hl
  refine lv_aload_n hx hb dX8_isHad_0 rfl (lv_at hl 0 rfl) ?_
  refine va_get (D := (dC, dI)) (ci := 8) (v := .ref a7) (C := RX8) (T := TX8) (N := 15) hx hb hts hin8 hown hK hP 0 rfl rfl 6 (by decide) (hts (.fieldLink RX8 48 "YamRiders" "riders" "[LYamRiders$Rider;") (by decide +kernel)) (fun _ h9 => h9) rfl dX8_isHad_1 ?_
  refine lv_astore_n (lv' := [(2, .ref a7), (0, .ref h0), (1, .int p0)]) hx hb dX8_isHad_4 rfl hl (by decide) rfl (fun ls hl => ?_)
  refine lv_aload_n hx hb dX8_isHad_5 rfl (lv_at hl 0 rfl) ?_
  obtain ⟨g_2, hf_1, hr_3⟩ := hT.get hY.2.2.2.2.2.1
  obtain ⟨q_4, hq_4⟩ := pl_at (X := [(h0, .inr (8, [.ref a1, .ref a2, .ref a3, .ref a4, .ref a5, .ref a6, .ref a7, .ref a8, .ref a9, .int j_faultKind, .int j_horseCount, .int j_tabletCount, .int j_riderCount, .int j_lineLength, .int j_hour]))]) (f := f) (e := .inl (cs 5, 60, .inr (.inr (.inr (.inr g_2))))) hY.2.2.2.2.2.1.1 hf_1
  refine va_alen (v := 60) hx hb hK hP q_4 5 hq_4 rfl rfl dX8_isHad_6 ?_
  refine lv_istore_n (lv' := [(3, .int 60), (2, .ref a7), (0, .ref h0), (1, .int p0)]) hx hb dX8_isHad_7 rfl hl (by decide) rfl (fun ls hl => ?_)
  refine lv_iconst (v := 0) hx hb dX8_isHad_8 (by decide) ?_
  refine lv_istore (lv' := [(4, .int 0), (3, .int 60), (2, .ref a7), (0, .ref h0), (1, .int p0)]) hx hb dX8_isHad_9 hl (by decide) rfl (fun ls hl => ?_)
  have HL : ∀ (n k : Nat), k ≤ 60 → 60 + 1 ≤ k + n → ∀ ls : Array Slot, lv_has ls 6 [(0, .ref h0), (1, .int p0), (2, .ref a7), (3, .int 60), (4, .int (nI k))] → W p l e (headSpec wsX8_isHad ({ frames := 1, cells := 0, slots := 0, locals := 20 })).room s m ([.ref h0, .int p0]).toArray below meth c s.heap [] 0 0 (MQ below (vp_Si (fun r => r = 0 ∨ r = 1)) ([.ref h0, .int p0]).toArray s 0 0 (fun _ => False)) (F0 m 11 ls []) := by
    intro n
    induction n with
    | zero => intro k h1 h2; exact absurd h2 (by omega)
    | succ n ih =>
      intro k hk hn ls hl
      refine lv_iload hx hb dX8_isHad_11 (lv_at hl 4 rfl) ?_
      refine lv_iload_n hx hb dX8_isHad_13 rfl (lv_at hl 3 rfl) ?_
      refine lv_icmp_ge (tgt := 53) hx hb dX8_isHad_14 (by decide) (fun c_5 => ?_) (fun c_5 => ?_)
      · have hke : k = 60 := by
          rcases Nat.lt_or_ge k 60 with q | q
          · exact absurd c_5 (nI_ge q (by decide))
          · omega
        refine lv_iconst (v := 0) hx hb dX8_isHad_53 (by decide) ?_
        exact W.zret (v := 0) hx hb hr rfl (fun t9 ht hW => ⟨_, rfl, (Or.inl rfl), ht⟩) (fun q h => nomatch h) dX8_isHad_54
      · have hlt : k < 60 := by
          rcases Nat.lt_or_ge k 60 with q | q
          · exact q
          · exact absurd (show nI 60 ≤ nI k from nI_le q (by omega)) c_5
        refine lv_aload_n hx hb dX8_isHad_17 rfl (lv_at hl 2 rfl) ?_
        refine lv_iload hx hb dX8_isHad_18 (lv_at hl 4 rfl) ?_
        obtain ⟨q_6, hq_6⟩ := pl_at (X := [(h0, .inr (8, [.ref a1, .ref a2, .ref a3, .ref a4, .ref a5, .ref a6, .ref a7, .ref a8, .ref a9, .int j_faultKind, .int j_horseCount, .int j_tabletCount, .int j_riderCount, .int j_lineLength, .int j_hour]))]) (f := f) (e := .inl (cs 5, 60, .inr (.inr (.inr (.inr g_2))))) hY.2.2.2.2.2.1.1 hf_1
        refine va_aldq hx hb hK hP q_6 5 hq_6 rfl (vp_in_nI hlt (by decide)) dX8_isHad_20 ?_
        rcases hr_o_7 : g_2 (nI k).toNatClampNeg with _ | o_7
        · refine W.eq (g2 := F0 m 21 ls [.null]) rfl ?_
          refine lv_astoreN (lv' := [(5, .null), (0, .ref h0), (1, .int p0), (2, .ref a7), (3, .int 60), (4, .int (nI k))]) hx hb dX8_isHad_21 hl (by decide) rfl (fun ls hl => ?_)
          refine lv_aloadN hx hb dX8_isHad_23 (lv_at hl 0 rfl) ?_
          refine lv_ifnullN (tgt := 47) hx hb dX8_isHad_25 (by decide) ?_
          refine lv_iinc (v := nI (k + 1)) (lv' := [(4, .int (nI (k + 1))), (5, .null), (0, .ref h0), (1, .int p0), (2, .ref a7), (3, .int 60)]) hx hb dX8_isHad_47 hl (k := 5) rfl (by exact (nI_1 k)) (by decide) rfl (fun ls hl => ?_)
          refine lv_goto (tgt := 11) hx hb dX8_isHad_50 (by decide) ?_
          exact ih (k + 1) (by omega) (by omega) ls (lv_sub hl [2, 3, 4, 5, 0] rfl)
        · have hk_o_7 := hr_3 _ _ hr_o_7
          refine W.eq (g2 := F0 m 21 ls [.ref o_7]) rfl ?_
          refine lv_astore (lv' := [(5, .ref o_7), (0, .ref h0), (1, .int p0), (2, .ref a7), (3, .int 60), (4, .int (nI k))]) hx hb dX8_isHad_21 hl (by decide) rfl (fun ls hl => ?_)
          refine lv_aload hx hb dX8_isHad_23 (lv_at hl 0 rfl) ?_
          refine lv_ifnull hx hb dX8_isHad_25 ?_
          refine lv_aload hx hb dX8_isHad_28 (lv_at hl 0 rfl) ?_
          obtain ⟨x_9, x_10, o_11, o_12, x_13, x_14, x_15, o_16, x_17, x_18, hf_8, hk_o_11, hk_o_12, hq_o_16⟩ := hT.get hk_o_7
          obtain ⟨q_19, hq_19⟩ := pl_at (X := [(h0, .inr (8, [.ref a1, .ref a2, .ref a3, .ref a4, .ref a5, .ref a6, .ref a7, .ref a8, .ref a9, .int j_faultKind, .int j_horseCount, .int j_tabletCount, .int j_riderCount, .int j_lineLength, .int j_hour]))]) (f := f) (e := .inr (2, [.int x_9, .int x_10, .ref o_11, .ref o_12, .int x_13, .int x_14, .int x_15, va_rf o_16, .int x_17, .int x_18])) hk_o_7.1 hf_8
          refine va_getN (D := (dC, dI)) (ci := 2) (v := .int x_9) (C := RX2) (T := TX2) (N := 10) hx hb hts hin2 hown hK hP q_19 hq_19 rfl 0 (by decide) (hN.nx (.fieldLinkNest RX8 193 "YamRiders$Rider" "tablet" "I" "YamRiders") (by decide +kernel)) (fun _ h9 => h9) rfl dX8_isHad_30 ?_
          refine lv_iload_n hx hb dX8_isHad_33 rfl (lv_at hl 2 rfl) ?_
          refine lv_icmp_ne (tgt := 47) hx hb dX8_isHad_34 (by decide) (fun c_20 => ?_) (fun c_20 => ?_)
          · refine lv_iinc (v := nI (k + 1)) (lv' := [(4, .int (nI (k + 1))), (5, .ref o_7), (0, .ref h0), (1, .int p0), (2, .ref a7), (3, .int 60)]) hx hb dX8_isHad_47 hl (k := 5) rfl (by exact (nI_1 k)) (by decide) rfl (fun ls hl => ?_)
            refine lv_goto (tgt := 11) hx hb dX8_isHad_50 (by decide) ?_
            exact ih (k + 1) (by omega) (by omega) ls (lv_sub hl [2, 3, 4, 5, 0] rfl)
          · refine lv_aload hx hb dX8_isHad_37 (lv_at hl 0 rfl) ?_
            have hPc := hP.part (cx := []) [] rfl
            have hDc := hD.part (cx := []) [] (by decide) rfl
            have hKc := hK
            obtain ⟨q_21, hq_21⟩ := pl_at (X := []) (f := f) (e := .inr (2, [.int x_9, .int x_10, .ref o_11, .ref o_12, .int x_13, .int x_14, .int x_15, va_rf o_16, .int x_17, .int x_18])) hk_o_7.1 hf_8
            refine cs_i (va_runV (As := []) (rest := []) ⟨hx, hb, hml, hown, hts⟩ (t_X2_isUnderWay l dC dI cs L ka f o_7 s.heap.size hT hk_o_7) (cwV 0 hts gX8_isHad_X2_isUnderWay rfl rfl rfl (by decide +kernel) ⟨Nat.le_of_ble_eq_true rfl, Nat.le_of_ble_eq_true rfl⟩) ⟨c_blind, va_recv hKc hPc (ci := 2) (q0 := q_21) rfl hq_21, c_pre hPc hKc hDc hN⟩ rfl rfl hl.1 rfl (lv_room (Nat.le_of_ble_eq_true rfl)) dX8_isHad_39 ⟨Nat.le_of_ble_eq_true rfl, Nat.le_of_ble_eq_true rfl⟩) (fun r_22 hr_22 => ?_)
            refine lv_if_eq (tgt := 47) hx hb dX8_isHad_42 (by decide) (fun c_23 => ?_) (fun c_23 => ?_)
            · refine lv_iinc (v := nI (k + 1)) (lv' := [(4, .int (nI (k + 1))), (5, .ref o_7), (0, .ref h0), (1, .int p0), (2, .ref a7), (3, .int 60)]) hx hb dX8_isHad_47 hl (k := 5) rfl (by exact (nI_1 k)) (by decide) rfl (fun ls hl => ?_)
              refine lv_goto (tgt := 11) hx hb dX8_isHad_50 (by decide) ?_
              exact ih (k + 1) (by omega) (by omega) ls (lv_sub hl [2, 3, 4, 5, 0] rfl)
            · refine lv_iconst (v := 1) hx hb dX8_isHad_45 (by decide) ?_
              exact W.zret (v := 1) hx hb hr rfl (fun t9 ht hW => ⟨_, rfl, (Or.inr rfl), ht⟩) (fun q h => nomatch h) dX8_isHad_46
  exact HL 61 0 (by omega) (by omega) ls (lv_sub hl [3, 4, 2, 1, 0] rfl)

set_option maxHeartbeats 4000000 in
set_option maxRecDepth 100000 in
theorem t_X8_ridersUnderWay (l : Launch) (dC : Nat → ClassId) (dI : Nat → Nat → Nat) (cs : Nat → ClassId) (L : List Nat) (ka : Nat → Nat) (f : Nat → va_E) (h0 : Nat) (a1 : Nat) (a2 : Nat) (a3 : Nat) (a4 : Nat) (a5 : Nat) (a6 : Nat) (a7 : Nat) (a8 : Nat) (a9 : Nat) (j_faultKind : Int32) (j_horseCount : Int32) (j_tabletCount : Int32) (j_riderCount : Int32) (j_lineLength : Int32) (j_hour : Int32) (sz : Nat) (hT : tO L ka cs f) (hY : yK L ka a2 a3 a4 a5 a6 a7 a8 a9) : Met l yX8_ridersUnderWay wsX8_ridersUnderWay ({ frames := 1, cells := 0, slots := 0, locals := 20 }) (va_Pc [.ref h0] (cP dC dI ([(h0, .inr (8, [.ref a1, .ref a2, .ref a3, .ref a4, .ref a5, .ref a6, .ref a7, .ref a8, .ref a9, .int j_faultKind, .int j_horseCount, .int j_tabletCount, .int j_riderCount, .int j_lineLength, .int j_hour]))] ++ va_pl L f) (tyC cs) sz)) (vp_Si (fun _ => True)) 0 0 (fun _ => False) := by
  refine Met.ofW (cc := cX8_ridersUnderWay) (maxL := 6) (ret := (some .int)) (by decide) rfl ?_
  intro p e s m args below meth c s₁ B hml hv
  obtain ⟨rfl, hsz, hP, hK, hD0, hN⟩ := hv
  have hx := B.exec
  have hb := B.bytes
  have hr := B.returns
  have hts := atoms_spec (ws := wsX8_ridersUnderWay) B.pre
  have hown : s.vm.findClass RX8 = some m.cls := findClass_of_methodNamed B.named
  have hlocks := B.notSynchronized
  subst hsz
  have hin8 : ∀ w ∈ u_ws RX8 TX8 15, w ∈ wsX8_ridersUnderWay := by decide +kernel
  have hD := hD0
  have hP : va_P (dC, dI) vwCl ([(h0, .inr (8, [.ref a1, .ref a2, .ref a3, .ref a4, .ref a5, .ref a6, .ref a7, .ref a8, .ref a9, .int j_faultKind, .int j_horseCount, .int j_tabletCount, .int j_riderCount, .int j_lineLength, .int j_hour]))] ++ va_pl L f) s.heap := hP
  have hl := lv_entry ([.ref h0]) (n := 6) (Nat.le_of_ble_eq_true rfl)
  rw [lg_entry_eq]
  generalize (lg_sl ([.ref h0]) ++ List.replicate (6 - (lg_sl ([.ref h0])).length) Slot.unset).toArray = ls at hl ⊢
  have hl : lv_has ls 6 [(0, .ref h0)] := hl
  refine lv_iconst (v := 0) hx hb dX8_ridersUnderWay_0 (by decide) ?_
  refine lv_istore_n (lv' := [(1, .int 0), (0, .ref h0)]) hx hb dX8_ridersUnderWay_1 rfl hl (by decide) rfl (fun ls hl => ?_)
  refine lv_aload_n hx hb dX8_ridersUnderWay_2 rfl (lv_at hl 1 rfl) ?_
  refine va_get (D := (dC, dI)) (ci := 8) (v := .ref a7) (C := RX8) (T := TX8) (N := 15) hx hb hts hin8 hown hK hP 0 rfl rfl 6 (by decide) (hts (.fieldLink RX8 48 "YamRiders" "riders" "[LYamRiders$Rider;") (by decide +kernel)) (fun _ h9 => h9) rfl dX8_ridersUnderWay_3 ?_
  refine lv_astore_n (lv' := [(2, .ref a7), (1, .int 0), (0, .ref h0)]) hx hb dX8_ridersUnderWay_6 rfl hl (by decide) rfl (fun ls hl => ?_)
  refine lv_aload_n hx hb dX8_ridersUnderWay_7 rfl (lv_at hl 0 rfl) ?_
  obtain ⟨g_2, hf_1, hr_3⟩ := hT.get hY.2.2.2.2.2.1
  obtain ⟨q_4, hq_4⟩ := pl_at (X := [(h0, .inr (8, [.ref a1, .ref a2, .ref a3, .ref a4, .ref a5, .ref a6, .ref a7, .ref a8, .ref a9, .int j_faultKind, .int j_horseCount, .int j_tabletCount, .int j_riderCount, .int j_lineLength, .int j_hour]))]) (f := f) (e := .inl (cs 5, 60, .inr (.inr (.inr (.inr g_2))))) hY.2.2.2.2.2.1.1 hf_1
  refine va_alen (v := 60) hx hb hK hP q_4 5 hq_4 rfl rfl dX8_ridersUnderWay_8 ?_
  refine lv_istore_n (lv' := [(3, .int 60), (2, .ref a7), (1, .int 0), (0, .ref h0)]) hx hb dX8_ridersUnderWay_9 rfl hl (by decide) rfl (fun ls hl => ?_)
  refine lv_iconst (v := 0) hx hb dX8_ridersUnderWay_10 (by decide) ?_
  refine lv_istore (lv' := [(4, .int 0), (3, .int 60), (2, .ref a7), (1, .int 0), (0, .ref h0)]) hx hb dX8_ridersUnderWay_11 hl (by decide) rfl (fun ls hl => ?_)
  have HL : ∀ (n k : Nat) (x1 : Int32), k ≤ 60 → 60 + 1 ≤ k + n → ∀ ls : Array Slot, lv_has ls 6 [(0, .ref h0), (1, .int x1), (2, .ref a7), (3, .int 60), (4, .int (nI k))] → W p l e (headSpec wsX8_ridersUnderWay ({ frames := 1, cells := 0, slots := 0, locals := 20 })).room s m ([.ref h0]).toArray below meth c s.heap [] 0 0 (MQ below (vp_Si (fun _ => True)) ([.ref h0]).toArray s 0 0 (fun _ => False)) (F0 m 13 ls []) := by
    intro n
    induction n with
    | zero => intro k x1 h1 h2; exact absurd h2 (by omega)
    | succ n ih =>
      intro k x1 hk hn ls hl
      refine lv_iload hx hb dX8_ridersUnderWay_13 (lv_at hl 4 rfl) ?_
      refine lv_iload_n hx hb dX8_ridersUnderWay_15 rfl (lv_at hl 3 rfl) ?_
      refine lv_icmp_ge (tgt := 47) hx hb dX8_ridersUnderWay_16 (by decide) (fun c_5 => ?_) (fun c_5 => ?_)
      · have hke : k = 60 := by
          rcases Nat.lt_or_ge k 60 with q | q
          · exact absurd c_5 (nI_ge q (by decide))
          · omega
        refine lv_iload_n hx hb dX8_ridersUnderWay_47 rfl (lv_at hl 1 rfl) ?_
        exact W.iret (v := x1) hx hb hr (fun t9 ht hW => ⟨_, rfl, trivial, ht⟩) (fun q h => nomatch h) dX8_ridersUnderWay_48
      · have hlt : k < 60 := by
          rcases Nat.lt_or_ge k 60 with q | q
          · exact q
          · exact absurd (show nI 60 ≤ nI k from nI_le q (by omega)) c_5
        refine lv_aload_n hx hb dX8_ridersUnderWay_19 rfl (lv_at hl 2 rfl) ?_
        refine lv_iload hx hb dX8_ridersUnderWay_20 (lv_at hl 4 rfl) ?_
        obtain ⟨q_6, hq_6⟩ := pl_at (X := [(h0, .inr (8, [.ref a1, .ref a2, .ref a3, .ref a4, .ref a5, .ref a6, .ref a7, .ref a8, .ref a9, .int j_faultKind, .int j_horseCount, .int j_tabletCount, .int j_riderCount, .int j_lineLength, .int j_hour]))]) (f := f) (e := .inl (cs 5, 60, .inr (.inr (.inr (.inr g_2))))) hY.2.2.2.2.2.1.1 hf_1
        refine va_aldq hx hb hK hP q_6 5 hq_6 rfl (vp_in_nI hlt (by decide)) dX8_ridersUnderWay_22 ?_
        rcases hr_o_7 : g_2 (nI k).toNatClampNeg with _ | o_7
        · refine W.eq (g2 := F0 m 23 ls [.null]) rfl ?_
          refine lv_astoreN (lv' := [(5, .null), (0, .ref h0), (1, .int x1), (2, .ref a7), (3, .int 60), (4, .int (nI k))]) hx hb dX8_ridersUnderWay_23 hl (by decide) rfl (fun ls hl => ?_)
          refine lv_aloadN hx hb dX8_ridersUnderWay_25 (lv_at hl 0 rfl) ?_
          refine lv_ifnullN (tgt := 41) hx hb dX8_ridersUnderWay_27 (by decide) ?_
          refine lv_iinc (v := nI (k + 1)) (lv' := [(4, .int (nI (k + 1))), (5, .null), (0, .ref h0), (1, .int x1), (2, .ref a7), (3, .int 60)]) hx hb dX8_ridersUnderWay_41 hl (k := 5) rfl (by exact (nI_1 k)) (by decide) rfl (fun ls hl => ?_)
          refine lv_goto (tgt := 13) hx hb dX8_ridersUnderWay_44 (by decide) ?_
          exact ih (k + 1) x1 (by omega) (by omega) ls (lv_sub hl [2, 3, 4, 5, 0] rfl)
        · have hk_o_7 := hr_3 _ _ hr_o_7
          refine W.eq (g2 := F0 m 23 ls [.ref o_7]) rfl ?_
          refine lv_astore (lv' := [(5, .ref o_7), (0, .ref h0), (1, .int x1), (2, .ref a7), (3, .int 60), (4, .int (nI k))]) hx hb dX8_ridersUnderWay_23 hl (by decide) rfl (fun ls hl => ?_)
          refine lv_aload hx hb dX8_ridersUnderWay_25 (lv_at hl 0 rfl) ?_
          refine lv_ifnull hx hb dX8_ridersUnderWay_27 ?_
          refine lv_aload hx hb dX8_ridersUnderWay_30 (lv_at hl 0 rfl) ?_
          have hPc := hP.part (cx := []) [] rfl
          have hDc := hD.part (cx := []) [] (by decide) rfl
          have hKc := hK
          obtain ⟨x_9, x_10, o_11, o_12, x_13, x_14, x_15, o_16, x_17, x_18, hf_8, hk_o_11, hk_o_12, hq_o_16⟩ := hT.get hk_o_7
          obtain ⟨q_19, hq_19⟩ := pl_at (X := []) (f := f) (e := .inr (2, [.int x_9, .int x_10, .ref o_11, .ref o_12, .int x_13, .int x_14, .int x_15, va_rf o_16, .int x_17, .int x_18])) hk_o_7.1 hf_8
          refine cs_i (va_runV (As := []) (rest := []) ⟨hx, hb, hml, hown, hts⟩ (t_X2_isUnderWay l dC dI cs L ka f o_7 s.heap.size hT hk_o_7) (cwV 0 hts gX8_ridersUnderWay_X2_isUnderWay rfl rfl rfl (by decide +kernel) ⟨Nat.le_of_ble_eq_true rfl, Nat.le_of_ble_eq_true rfl⟩) ⟨c_blind, va_recv hKc hPc (ci := 2) (q0 := q_19) rfl hq_19, c_pre hPc hKc hDc hN⟩ rfl rfl hl.1 rfl (lv_room (Nat.le_of_ble_eq_true rfl)) dX8_ridersUnderWay_32 ⟨Nat.le_of_ble_eq_true rfl, Nat.le_of_ble_eq_true rfl⟩) (fun r_20 hr_20 => ?_)
          refine lv_if_eq (tgt := 41) hx hb dX8_ridersUnderWay_35 (by decide) (fun c_21 => ?_) (fun c_21 => ?_)
          · refine lv_iinc (v := nI (k + 1)) (lv' := [(4, .int (nI (k + 1))), (5, .ref o_7), (0, .ref h0), (1, .int x1), (2, .ref a7), (3, .int 60)]) hx hb dX8_ridersUnderWay_41 hl (k := 5) rfl (by exact (nI_1 k)) (by decide) rfl (fun ls hl => ?_)
            refine lv_goto (tgt := 13) hx hb dX8_ridersUnderWay_44 (by decide) ?_
            exact ih (k + 1) x1 (by omega) (by omega) ls (lv_sub hl [2, 3, 4, 5, 0] rfl)
          · refine lv_iinc (v := x1 + 1) (lv' := [(1, .int (x1 + 1)), (5, .ref o_7), (0, .ref h0), (2, .ref a7), (3, .int 60), (4, .int (nI k))]) hx hb dX8_ridersUnderWay_38 hl (k := 2) rfl rfl (by decide) rfl (fun ls hl => ?_)
            refine lv_iinc (v := nI (k + 1)) (lv' := [(4, .int (nI (k + 1))), (1, .int (x1 + 1)), (5, .ref o_7), (0, .ref h0), (2, .ref a7), (3, .int 60)]) hx hb dX8_ridersUnderWay_41 hl (k := 5) rfl (by exact (nI_1 k)) (by decide) rfl (fun ls hl => ?_)
            refine lv_goto (tgt := 13) hx hb dX8_ridersUnderWay_44 (by decide) ?_
            exact ih (k + 1) (x1 + 1) (by omega) (by omega) ls (lv_sub hl [3, 1, 4, 5, 0] rfl)
  exact HL 61 0 0 (by omega) (by omega) ls (lv_sub hl [4, 3, 2, 1, 0] rfl)

set_option maxHeartbeats 4000000 in
set_option maxRecDepth 100000 in
theorem t_X8_ridersWaitingAt (l : Launch) (dC : Nat → ClassId) (dI : Nat → Nat → Nat) (cs : Nat → ClassId) (L : List Nat) (ka : Nat → Nat) (f : Nat → va_E) (h0 : Nat) (a1 : Nat) (a2 : Nat) (a3 : Nat) (a4 : Nat) (a5 : Nat) (a6 : Nat) (a7 : Nat) (a8 : Nat) (a9 : Nat) (j_faultKind : Int32) (j_horseCount : Int32) (j_tabletCount : Int32) (j_riderCount : Int32) (j_lineLength : Int32) (j_hour : Int32) (p0 : Int32) (sz : Nat) (hT : tO L ka cs f) (hY : yK L ka a2 a3 a4 a5 a6 a7 a8 a9) : Met l yX8_ridersWaitingAt wsX8_ridersWaitingAt ({ frames := 2, cells := 0, slots := 0, locals := 41 }) (va_Pc [.ref h0, .int p0] (cP dC dI ([(h0, .inr (8, [.ref a1, .ref a2, .ref a3, .ref a4, .ref a5, .ref a6, .ref a7, .ref a8, .ref a9, .int j_faultKind, .int j_horseCount, .int j_tabletCount, .int j_riderCount, .int j_lineLength, .int j_hour]))] ++ va_pl L f) (tyC cs) sz)) (vp_Si (fun _ => True)) 0 0 (fun _ => False) := by
  refine Met.ofW (cc := cX8_ridersWaitingAt) (maxL := 7) (ret := (some .int)) (by decide) rfl ?_
  intro p e s m args below meth c s₁ B hml hv
  obtain ⟨rfl, hsz, hP, hK, hD0, hN⟩ := hv
  have hx := B.exec
  have hb := B.bytes
  have hr := B.returns
  have hts := atoms_spec (ws := wsX8_ridersWaitingAt) B.pre
  have hown : s.vm.findClass RX8 = some m.cls := findClass_of_methodNamed B.named
  have hlocks := B.notSynchronized
  subst hsz
  have hin2 : ∀ w ∈ u_ws RX2 TX2 10, w ∈ wsX8_ridersWaitingAt := by decide +kernel
  have hin8 : ∀ w ∈ u_ws RX8 TX8 15, w ∈ wsX8_ridersWaitingAt := by decide +kernel
  have hD := hD0
  have hP : va_P (dC, dI) vwCl ([(h0, .inr (8, [.ref a1, .ref a2, .ref a3, .ref a4, .ref a5, .ref a6, .ref a7, .ref a8, .ref a9, .int j_faultKind, .int j_horseCount, .int j_tabletCount, .int j_riderCount, .int j_lineLength, .int j_hour]))] ++ va_pl L f) s.heap := hP
  have hl := lv_entry ([.ref h0, .int p0]) (n := 7) (Nat.le_of_ble_eq_true rfl)
  rw [lg_entry_eq]
  generalize (lg_sl ([.ref h0, .int p0]) ++ List.replicate (7 - (lg_sl ([.ref h0, .int p0])).length) Slot.unset).toArray = ls at hl ⊢
  have hl : lv_has ls 7 [(0, .ref h0), (1, .int p0)] := hl
  refine lv_iconst (v := 0) hx hb dX8_ridersWaitingAt_0 (by decide) ?_
  refine lv_istore_n (lv' := [(2, .int 0), (0, .ref h0), (1, .int p0)]) hx hb dX8_ridersWaitingAt_1 rfl hl (by decide) rfl (fun ls hl => ?_)
  refine lv_aload_n hx hb dX8_ridersWaitingAt_2 rfl (lv_at hl 1 rfl) ?_
  refine va_get (D := (dC, dI)) (ci := 8) (v := .ref a7) (C := RX8) (T := TX8) (N := 15) hx hb hts hin8 hown hK hP 0 rfl rfl 6 (by decide) (hts (.fieldLink RX8 48 "YamRiders" "riders" "[LYamRiders$Rider;") (by decide +kernel)) (fun _ h9 => h9) rfl dX8_ridersWaitingAt_3 ?_
  refine lv_astore_n (lv' := [(3, .ref a7), (2, .int 0), (0, .ref h0), (1, .int p0)]) hx hb dX8_ridersWaitingAt_6 rfl hl (by decide) rfl (fun ls hl => ?_)
  refine lv_aload_n hx hb dX8_ridersWaitingAt_7 rfl (lv_at hl 0 rfl) ?_
  obtain ⟨g_2, hf_1, hr_3⟩ := hT.get hY.2.2.2.2.2.1
  obtain ⟨q_4, hq_4⟩ := pl_at (X := [(h0, .inr (8, [.ref a1, .ref a2, .ref a3, .ref a4, .ref a5, .ref a6, .ref a7, .ref a8, .ref a9, .int j_faultKind, .int j_horseCount, .int j_tabletCount, .int j_riderCount, .int j_lineLength, .int j_hour]))]) (f := f) (e := .inl (cs 5, 60, .inr (.inr (.inr (.inr g_2))))) hY.2.2.2.2.2.1.1 hf_1
  refine va_alen (v := 60) hx hb hK hP q_4 5 hq_4 rfl rfl dX8_ridersWaitingAt_8 ?_
  refine lv_istore (lv' := [(4, .int 60), (3, .ref a7), (2, .int 0), (0, .ref h0), (1, .int p0)]) hx hb dX8_ridersWaitingAt_9 hl (by decide) rfl (fun ls hl => ?_)
  refine lv_iconst (v := 0) hx hb dX8_ridersWaitingAt_11 (by decide) ?_
  refine lv_istore (lv' := [(5, .int 0), (4, .int 60), (3, .ref a7), (2, .int 0), (0, .ref h0), (1, .int p0)]) hx hb dX8_ridersWaitingAt_12 hl (by decide) rfl (fun ls hl => ?_)
  have HL : ∀ (n k : Nat) (x2 : Int32), k ≤ 60 → 60 + 1 ≤ k + n → ∀ ls : Array Slot, lv_has ls 7 [(0, .ref h0), (1, .int p0), (2, .int x2), (3, .ref a7), (4, .int 60), (5, .int (nI k))] → W p l e (headSpec wsX8_ridersWaitingAt ({ frames := 2, cells := 0, slots := 0, locals := 41 })).room s m ([.ref h0, .int p0]).toArray below meth c s.heap [] 0 0 (MQ below (vp_Si (fun _ => True)) ([.ref h0, .int p0]).toArray s 0 0 (fun _ => False)) (F0 m 14 ls []) := by
    intro n
    induction n with
    | zero => intro k x2 h1 h2; exact absurd h2 (by omega)
    | succ n ih =>
      intro k x2 hk hn ls hl
      refine lv_iload hx hb dX8_ridersWaitingAt_14 (lv_at hl 5 rfl) ?_
      refine lv_iload hx hb dX8_ridersWaitingAt_16 (lv_at hl 4 rfl) ?_
      refine lv_icmp_ge (tgt := 58) hx hb dX8_ridersWaitingAt_18 (by decide) (fun c_5 => ?_) (fun c_5 => ?_)
      · have hke : k = 60 := by
          rcases Nat.lt_or_ge k 60 with q | q
          · exact absurd c_5 (nI_ge q (by decide))
          · omega
        refine lv_iload_n hx hb dX8_ridersWaitingAt_58 rfl (lv_at hl 2 rfl) ?_
        exact W.iret (v := x2) hx hb hr (fun t9 ht hW => ⟨_, rfl, trivial, ht⟩) (fun q h => nomatch h) dX8_ridersWaitingAt_59
      · have hlt : k < 60 := by
          rcases Nat.lt_or_ge k 60 with q | q
          · exact q
          · exact absurd (show nI 60 ≤ nI k from nI_le q (by omega)) c_5
        refine lv_aload_n hx hb dX8_ridersWaitingAt_21 rfl (lv_at hl 3 rfl) ?_
        refine lv_iload hx hb dX8_ridersWaitingAt_22 (lv_at hl 5 rfl) ?_
        obtain ⟨q_6, hq_6⟩ := pl_at (X := [(h0, .inr (8, [.ref a1, .ref a2, .ref a3, .ref a4, .ref a5, .ref a6, .ref a7, .ref a8, .ref a9, .int j_faultKind, .int j_horseCount, .int j_tabletCount, .int j_riderCount, .int j_lineLength, .int j_hour]))]) (f := f) (e := .inl (cs 5, 60, .inr (.inr (.inr (.inr g_2))))) hY.2.2.2.2.2.1.1 hf_1
        refine va_aldq hx hb hK hP q_6 5 hq_6 rfl (vp_in_nI hlt (by decide)) dX8_ridersWaitingAt_24 ?_
        rcases hr_o_7 : g_2 (nI k).toNatClampNeg with _ | o_7
        · refine W.eq (g2 := F0 m 25 ls [.null]) rfl ?_
          refine lv_astoreN (lv' := [(6, .null), (0, .ref h0), (1, .int p0), (2, .int x2), (3, .ref a7), (4, .int 60), (5, .int (nI k))]) hx hb dX8_ridersWaitingAt_25 hl (by decide) rfl (fun ls hl => ?_)
          refine lv_aloadN hx hb dX8_ridersWaitingAt_27 (lv_at hl 0 rfl) ?_
          refine lv_ifnullN (tgt := 52) hx hb dX8_ridersWaitingAt_29 (by decide) ?_
          refine lv_iinc (v := nI (k + 1)) (lv' := [(5, .int (nI (k + 1))), (6, .null), (0, .ref h0), (1, .int p0), (2, .int x2), (3, .ref a7), (4, .int 60)]) hx hb dX8_ridersWaitingAt_52 hl (k := 6) rfl (by exact (nI_1 k)) (by decide) rfl (fun ls hl => ?_)
          refine lv_goto (tgt := 14) hx hb dX8_ridersWaitingAt_55 (by decide) ?_
          exact ih (k + 1) x2 (by omega) (by omega) ls (lv_sub hl [2, 3, 4, 5, 6, 0] rfl)
        · have hk_o_7 := hr_3 _ _ hr_o_7
          refine W.eq (g2 := F0 m 25 ls [.ref o_7]) rfl ?_
          refine lv_astore (lv' := [(6, .ref o_7), (0, .ref h0), (1, .int p0), (2, .int x2), (3, .ref a7), (4, .int 60), (5, .int (nI k))]) hx hb dX8_ridersWaitingAt_25 hl (by decide) rfl (fun ls hl => ?_)
          refine lv_aload hx hb dX8_ridersWaitingAt_27 (lv_at hl 0 rfl) ?_
          refine lv_ifnull hx hb dX8_ridersWaitingAt_29 ?_
          refine lv_aload hx hb dX8_ridersWaitingAt_32 (lv_at hl 0 rfl) ?_
          obtain ⟨x_9, x_10, o_11, o_12, x_13, x_14, x_15, o_16, x_17, x_18, hf_8, hk_o_11, hk_o_12, hq_o_16⟩ := hT.get hk_o_7
          obtain ⟨q_19, hq_19⟩ := pl_at (X := [(h0, .inr (8, [.ref a1, .ref a2, .ref a3, .ref a4, .ref a5, .ref a6, .ref a7, .ref a8, .ref a9, .int j_faultKind, .int j_horseCount, .int j_tabletCount, .int j_riderCount, .int j_lineLength, .int j_hour]))]) (f := f) (e := .inr (2, [.int x_9, .int x_10, .ref o_11, .ref o_12, .int x_13, .int x_14, .int x_15, va_rf o_16, .int x_17, .int x_18])) hk_o_7.1 hf_8
          refine va_getN (D := (dC, dI)) (ci := 2) (v := .int x_13) (C := RX2) (T := TX2) (N := 10) hx hb hts hin2 hown hK hP q_19 hq_19 rfl 4 (by decide) (hN.nx (.fieldLinkNest RX8 158 "YamRiders$Rider" "state" "I" "YamRiders") (by decide +kernel)) (fun _ h9 => h9) rfl dX8_ridersWaitingAt_34 ?_
          refine lv_if_ne (tgt := 52) hx hb dX8_ridersWaitingAt_37 (by decide) (fun c_20 => ?_) (fun c_20 => ?_)
          · refine lv_iinc (v := nI (k + 1)) (lv' := [(5, .int (nI (k + 1))), (6, .ref o_7), (0, .ref h0), (1, .int p0), (2, .int x2), (3, .ref a7), (4, .int 60)]) hx hb dX8_ridersWaitingAt_52 hl (k := 6) rfl (by exact (nI_1 k)) (by decide) rfl (fun ls hl => ?_)
            refine lv_goto (tgt := 14) hx hb dX8_ridersWaitingAt_55 (by decide) ?_
            exact ih (k + 1) x2 (by omega) (by omega) ls (lv_sub hl [2, 3, 4, 5, 6, 0] rfl)
          · refine lv_aload hx hb dX8_ridersWaitingAt_40 (lv_at hl 0 rfl) ?_
            have hPc := hP.part (cx := []) [] rfl
            have hDc := hD.part (cx := []) [] (by decide) rfl
            have hKc := hK
            obtain ⟨q_21, hq_21⟩ := pl_at (X := []) (f := f) (e := .inr (2, [.int x_9, .int x_10, .ref o_11, .ref o_12, .int x_13, .int x_14, .int x_15, va_rf o_16, .int x_17, .int x_18])) hk_o_7.1 hf_8
            refine cs_i (va_runV (As := []) (rest := []) ⟨hx, hb, hml, hown, hts⟩ (t_X2_lastStation l dC dI cs L ka f o_7 s.heap.size hT hk_o_7) (cwV 0 hts gX8_ridersWaitingAt_X2_lastStation rfl rfl rfl (by decide +kernel) ⟨Nat.le_of_ble_eq_true rfl, Nat.le_of_ble_eq_true rfl⟩) ⟨c_blind, va_recv hKc hPc (ci := 2) (q0 := q_21) rfl hq_21, c_pre hPc hKc hDc hN⟩ rfl rfl hl.1 rfl (lv_room (Nat.le_of_ble_eq_true rfl)) dX8_ridersWaitingAt_42 ⟨Nat.le_of_ble_eq_true rfl, Nat.le_of_ble_eq_true rfl⟩) (fun r_22 hr_22 => ?_)
            refine lv_iload_n hx hb dX8_ridersWaitingAt_45 rfl (lv_at hl 2 rfl) ?_
            refine lv_icmp_ne (tgt := 52) hx hb dX8_ridersWaitingAt_46 (by decide) (fun c_23 => ?_) (fun c_23 => ?_)
            · refine lv_iinc (v := nI (k + 1)) (lv' := [(5, .int (nI (k + 1))), (6, .ref o_7), (0, .ref h0), (1, .int p0), (2, .int x2), (3, .ref a7), (4, .int 60)]) hx hb dX8_ridersWaitingAt_52 hl (k := 6) rfl (by exact (nI_1 k)) (by decide) rfl (fun ls hl => ?_)
              refine lv_goto (tgt := 14) hx hb dX8_ridersWaitingAt_55 (by decide) ?_
              exact ih (k + 1) x2 (by omega) (by omega) ls (lv_sub hl [2, 3, 4, 5, 6, 0] rfl)
            · refine lv_iinc (v := x2 + 1) (lv' := [(2, .int (x2 + 1)), (6, .ref o_7), (0, .ref h0), (1, .int p0), (3, .ref a7), (4, .int 60), (5, .int (nI k))]) hx hb dX8_ridersWaitingAt_49 hl (k := 3) rfl rfl (by decide) rfl (fun ls hl => ?_)
              refine lv_iinc (v := nI (k + 1)) (lv' := [(5, .int (nI (k + 1))), (2, .int (x2 + 1)), (6, .ref o_7), (0, .ref h0), (1, .int p0), (3, .ref a7), (4, .int 60)]) hx hb dX8_ridersWaitingAt_52 hl (k := 6) rfl (by exact (nI_1 k)) (by decide) rfl (fun ls hl => ?_)
              refine lv_goto (tgt := 14) hx hb dX8_ridersWaitingAt_55 (by decide) ?_
              exact ih (k + 1) (x2 + 1) (by omega) (by omega) ls (lv_sub hl [3, 4, 1, 5, 6, 0] rfl)
  exact HL 61 0 0 (by omega) (by omega) ls (lv_sub hl [4, 5, 3, 2, 1, 0] rfl)

set_option maxHeartbeats 4000000 in
set_option maxRecDepth 100000 in
theorem t_X8_horsesAt (l : Launch) (dC : Nat → ClassId) (dI : Nat → Nat → Nat) (cs : Nat → ClassId) (L : List Nat) (ka : Nat → Nat) (f : Nat → va_E) (h0 : Nat) (a1 : Nat) (a2 : Nat) (a3 : Nat) (a4 : Nat) (a5 : Nat) (a6 : Nat) (a7 : Nat) (a8 : Nat) (a9 : Nat) (j_faultKind : Int32) (j_horseCount : Int32) (j_tabletCount : Int32) (j_riderCount : Int32) (j_lineLength : Int32) (j_hour : Int32) (p0 : Int32) (sz : Nat) (hT : tO L ka cs f) (hY : yK L ka a2 a3 a4 a5 a6 a7 a8 a9) : Met l yX8_horsesAt wsX8_horsesAt ({ frames := 0, cells := 0, slots := 0, locals := 0 }) (va_Pc [.ref h0, .int p0] (cP dC dI ([(h0, .inr (8, [.ref a1, .ref a2, .ref a3, .ref a4, .ref a5, .ref a6, .ref a7, .ref a8, .ref a9, .int j_faultKind, .int j_horseCount, .int j_tabletCount, .int j_riderCount, .int j_lineLength, .int j_hour]))] ++ va_pl L f) (tyC cs) sz)) (vp_Si (fun _ => True)) 0 0 (fun _ => False) := by
  refine Met.ofW (cc := cX8_horsesAt) (maxL := 7) (ret := (some .int)) (by decide) rfl ?_
  intro p e s m args below meth c s₁ B hml hv
  obtain ⟨rfl, hsz, hP, hK, hD0, hN⟩ := hv
  have hx := B.exec
  have hb := B.bytes
  have hr := B.returns
  have hts := atoms_spec (ws := wsX8_horsesAt) B.pre
  have hown : s.vm.findClass RX8 = some m.cls := findClass_of_methodNamed B.named
  have hlocks := B.notSynchronized
  subst hsz
  have hin0 : ∀ w ∈ u_ws RX0 TX0 3, w ∈ wsX8_horsesAt := by decide +kernel
  have hin8 : ∀ w ∈ u_ws RX8 TX8 15, w ∈ wsX8_horsesAt := by decide +kernel
  have hD := hD0
  have hP : va_P (dC, dI) vwCl ([(h0, .inr (8, [.ref a1, .ref a2, .ref a3, .ref a4, .ref a5, .ref a6, .ref a7, .ref a8, .ref a9, .int j_faultKind, .int j_horseCount, .int j_tabletCount, .int j_riderCount, .int j_lineLength, .int j_hour]))] ++ va_pl L f) s.heap := hP
  have hl := lv_entry ([.ref h0, .int p0]) (n := 7) (Nat.le_of_ble_eq_true rfl)
  rw [lg_entry_eq]
  generalize (lg_sl ([.ref h0, .int p0]) ++ List.replicate (7 - (lg_sl ([.ref h0, .int p0])).length) Slot.unset).toArray = ls at hl ⊢
  have hl : lv_has ls 7 [(0, .ref h0), (1, .int p0)] := hl
  refine lv_iconst (v := 0) hx hb dX8_horsesAt_0 (by decide) ?_
  refine lv_istore_n (lv' := [(2, .int 0), (0, .ref h0), (1, .int p0)]) hx hb dX8_horsesAt_1 rfl hl (by decide) rfl (fun ls hl => ?_)
  refine lv_aload_n hx hb dX8_horsesAt_2 rfl (lv_at hl 1 rfl) ?_
  refine va_get (D := (dC, dI)) (ci := 8) (v := .ref a5) (C := RX8) (T := TX8) (N := 15) hx hb hts hin8 hown hK hP 0 rfl rfl 4 (by decide) (hts (.fieldLink RX8 36 "YamRiders" "horses" "[LYamRiders$Horse;") (by decide +kernel)) (fun _ h9 => h9) rfl dX8_horsesAt_3 ?_
  refine lv_astore_n (lv' := [(3, .ref a5), (2, .int 0), (0, .ref h0), (1, .int p0)]) hx hb dX8_horsesAt_6 rfl hl (by decide) rfl (fun ls hl => ?_)
  refine lv_aload_n hx hb dX8_horsesAt_7 rfl (lv_at hl 0 rfl) ?_
  obtain ⟨g_2, hf_1, hr_3⟩ := hT.get hY.2.2.2.1
  obtain ⟨q_4, hq_4⟩ := pl_at (X := [(h0, .inr (8, [.ref a1, .ref a2, .ref a3, .ref a4, .ref a5, .ref a6, .ref a7, .ref a8, .ref a9, .int j_faultKind, .int j_horseCount, .int j_tabletCount, .int j_riderCount, .int j_lineLength, .int j_hour]))]) (f := f) (e := .inl (cs 3, 60, .inr (.inr (.inr (.inr g_2))))) hY.2.2.2.1.1 hf_1
  refine va_alen (v := 60) hx hb hK hP q_4 3 hq_4 rfl rfl dX8_horsesAt_8 ?_
  refine lv_istore (lv' := [(4, .int 60), (3, .ref a5), (2, .int 0), (0, .ref h0), (1, .int p0)]) hx hb dX8_horsesAt_9 hl (by decide) rfl (fun ls hl => ?_)
  refine lv_iconst (v := 0) hx hb dX8_horsesAt_11 (by decide) ?_
  refine lv_istore (lv' := [(5, .int 0), (4, .int 60), (3, .ref a5), (2, .int 0), (0, .ref h0), (1, .int p0)]) hx hb dX8_horsesAt_12 hl (by decide) rfl (fun ls hl => ?_)
  have HL : ∀ (n k : Nat) (x2 : Int32), k ≤ 60 → 60 + 1 ≤ k + n → ∀ ls : Array Slot, lv_has ls 7 [(0, .ref h0), (1, .int p0), (2, .int x2), (3, .ref a5), (4, .int 60), (5, .int (nI k))] → W p l e (headSpec wsX8_horsesAt ({ frames := 0, cells := 0, slots := 0, locals := 0 })).room s m ([.ref h0, .int p0]).toArray below meth c s.heap [] 0 0 (MQ below (vp_Si (fun _ => True)) ([.ref h0, .int p0]).toArray s 0 0 (fun _ => False)) (F0 m 14 ls []) := by
    intro n
    induction n with
    | zero => intro k x2 h1 h2; exact absurd h2 (by omega)
    | succ n ih =>
      intro k x2 hk hn ls hl
      refine lv_iload hx hb dX8_horsesAt_14 (lv_at hl 5 rfl) ?_
      refine lv_iload hx hb dX8_horsesAt_16 (lv_at hl 4 rfl) ?_
      refine lv_icmp_ge (tgt := 50) hx hb dX8_horsesAt_18 (by decide) (fun c_5 => ?_) (fun c_5 => ?_)
      · have hke : k = 60 := by
          rcases Nat.lt_or_ge k 60 with q | q
          · exact absurd c_5 (nI_ge q (by decide))
          · omega
        refine lv_iload_n hx hb dX8_horsesAt_50 rfl (lv_at hl 2 rfl) ?_
        exact W.iret (v := x2) hx hb hr (fun t9 ht hW => ⟨_, rfl, trivial, ht⟩) (fun q h => nomatch h) dX8_horsesAt_51
      · have hlt : k < 60 := by
          rcases Nat.lt_or_ge k 60 with q | q
          · exact q
          · exact absurd (show nI 60 ≤ nI k from nI_le q (by omega)) c_5
        refine lv_aload_n hx hb dX8_horsesAt_21 rfl (lv_at hl 3 rfl) ?_
        refine lv_iload hx hb dX8_horsesAt_22 (lv_at hl 5 rfl) ?_
        obtain ⟨q_6, hq_6⟩ := pl_at (X := [(h0, .inr (8, [.ref a1, .ref a2, .ref a3, .ref a4, .ref a5, .ref a6, .ref a7, .ref a8, .ref a9, .int j_faultKind, .int j_horseCount, .int j_tabletCount, .int j_riderCount, .int j_lineLength, .int j_hour]))]) (f := f) (e := .inl (cs 3, 60, .inr (.inr (.inr (.inr g_2))))) hY.2.2.2.1.1 hf_1
        refine va_aldq hx hb hK hP q_6 3 hq_6 rfl (vp_in_nI hlt (by decide)) dX8_horsesAt_24 ?_
        rcases hr_o_7 : g_2 (nI k).toNatClampNeg with _ | o_7
        · refine W.eq (g2 := F0 m 25 ls [.null]) rfl ?_
          refine lv_astoreN (lv' := [(6, .null), (0, .ref h0), (1, .int p0), (2, .int x2), (3, .ref a5), (4, .int 60), (5, .int (nI k))]) hx hb dX8_horsesAt_25 hl (by decide) rfl (fun ls hl => ?_)
          refine lv_aloadN hx hb dX8_horsesAt_27 (lv_at hl 0 rfl) ?_
          refine lv_ifnullN (tgt := 44) hx hb dX8_horsesAt_29 (by decide) ?_
          refine lv_iinc (v := nI (k + 1)) (lv' := [(5, .int (nI (k + 1))), (6, .null), (0, .ref h0), (1, .int p0), (2, .int x2), (3, .ref a5), (4, .int 60)]) hx hb dX8_horsesAt_44 hl (k := 6) rfl (by exact (nI_1 k)) (by decide) rfl (fun ls hl => ?_)
          refine lv_goto (tgt := 14) hx hb dX8_horsesAt_47 (by decide) ?_
          exact ih (k + 1) x2 (by omega) (by omega) ls (lv_sub hl [2, 3, 4, 5, 6, 0] rfl)
        · have hk_o_7 := hr_3 _ _ hr_o_7
          refine W.eq (g2 := F0 m 25 ls [.ref o_7]) rfl ?_
          refine lv_astore (lv' := [(6, .ref o_7), (0, .ref h0), (1, .int p0), (2, .int x2), (3, .ref a5), (4, .int 60), (5, .int (nI k))]) hx hb dX8_horsesAt_25 hl (by decide) rfl (fun ls hl => ?_)
          refine lv_aload hx hb dX8_horsesAt_27 (lv_at hl 0 rfl) ?_
          refine lv_ifnull hx hb dX8_horsesAt_29 ?_
          refine lv_aload hx hb dX8_horsesAt_32 (lv_at hl 0 rfl) ?_
          obtain ⟨x_9, x_10, x_11, hf_8⟩ := hT.get hk_o_7
          obtain ⟨q_12, hq_12⟩ := pl_at (X := [(h0, .inr (8, [.ref a1, .ref a2, .ref a3, .ref a4, .ref a5, .ref a6, .ref a7, .ref a8, .ref a9, .int j_faultKind, .int j_horseCount, .int j_tabletCount, .int j_riderCount, .int j_lineLength, .int j_hour]))]) (f := f) (e := .inr (0, [.int x_9, .int x_10, .int x_11])) hk_o_7.1 hf_8
          refine va_getN (D := (dC, dI)) (ci := 0) (v := .int x_10) (C := RX0) (T := TX0) (N := 3) hx hb hts hin0 hown hK hP q_12 hq_12 rfl 1 (by decide) (hN.nx (.fieldLinkNest RX8 209 "YamRiders$Horse" "station" "I" "YamRiders") (by decide +kernel)) (fun _ h9 => h9) rfl dX8_horsesAt_34 ?_
          refine lv_iload_n hx hb dX8_horsesAt_37 rfl (lv_at hl 2 rfl) ?_
          refine lv_icmp_ne (tgt := 44) hx hb dX8_horsesAt_38 (by decide) (fun c_13 => ?_) (fun c_13 => ?_)
          · refine lv_iinc (v := nI (k + 1)) (lv' := [(5, .int (nI (k + 1))), (6, .ref o_7), (0, .ref h0), (1, .int p0), (2, .int x2), (3, .ref a5), (4, .int 60)]) hx hb dX8_horsesAt_44 hl (k := 6) rfl (by exact (nI_1 k)) (by decide) rfl (fun ls hl => ?_)
            refine lv_goto (tgt := 14) hx hb dX8_horsesAt_47 (by decide) ?_
            exact ih (k + 1) x2 (by omega) (by omega) ls (lv_sub hl [2, 3, 4, 5, 6, 0] rfl)
          · refine lv_iinc (v := x2 + 1) (lv' := [(2, .int (x2 + 1)), (6, .ref o_7), (0, .ref h0), (1, .int p0), (3, .ref a5), (4, .int 60), (5, .int (nI k))]) hx hb dX8_horsesAt_41 hl (k := 3) rfl rfl (by decide) rfl (fun ls hl => ?_)
            refine lv_iinc (v := nI (k + 1)) (lv' := [(5, .int (nI (k + 1))), (2, .int (x2 + 1)), (6, .ref o_7), (0, .ref h0), (1, .int p0), (3, .ref a5), (4, .int 60)]) hx hb dX8_horsesAt_44 hl (k := 6) rfl (by exact (nI_1 k)) (by decide) rfl (fun ls hl => ?_)
            refine lv_goto (tgt := 14) hx hb dX8_horsesAt_47 (by decide) ?_
            exact ih (k + 1) (x2 + 1) (by omega) (by omega) ls (lv_sub hl [3, 4, 1, 5, 6, 0] rfl)
  exact HL 61 0 0 (by omega) (by omega) ls (lv_sub hl [4, 5, 3, 2, 1, 0] rfl)

set_option maxHeartbeats 4000000 in
set_option maxRecDepth 100000 in
theorem t_X8_strongestAt (l : Launch) (dC : Nat → ClassId) (dI : Nat → Nat → Nat) (cs : Nat → ClassId) (L : List Nat) (ka : Nat → Nat) (f : Nat → va_E) (h0 : Nat) (a1 : Nat) (a2 : Nat) (a3 : Nat) (a4 : Nat) (a5 : Nat) (a6 : Nat) (a7 : Nat) (a8 : Nat) (a9 : Nat) (j_faultKind : Int32) (j_horseCount : Int32) (j_tabletCount : Int32) (j_riderCount : Int32) (j_lineLength : Int32) (j_hour : Int32) (p0 : Int32) (sz : Nat) (hT : tO L ka cs f) (hY : yK L ka a2 a3 a4 a5 a6 a7 a8 a9) : Met l yX8_strongestAt wsX8_strongestAt ({ frames := 0, cells := 0, slots := 0, locals := 0 }) (va_Pc [.ref h0, .int p0] (cP dC dI ([(h0, .inr (8, [.ref a1, .ref a2, .ref a3, .ref a4, .ref a5, .ref a6, .ref a7, .ref a8, .ref a9, .int j_faultKind, .int j_horseCount, .int j_tabletCount, .int j_riderCount, .int j_lineLength, .int j_hour]))] ++ va_pl L f) (tyC cs) sz)) (va_Sq (fun r => tq L ka 0 r)) 0 0 (fun _ => False) := by
  refine Met.ofW (cc := cX8_strongestAt) (maxL := 7) (ret := (some (.object "YamRiders$Horse"))) (by decide) rfl ?_
  intro p e s m args below meth c s₁ B hml hv
  obtain ⟨rfl, hsz, hP, hK, hD0, hN⟩ := hv
  have hx := B.exec
  have hb := B.bytes
  have hr := B.returns
  have hts := atoms_spec (ws := wsX8_strongestAt) B.pre
  have hown : s.vm.findClass RX8 = some m.cls := findClass_of_methodNamed B.named
  have hlocks := B.notSynchronized
  subst hsz
  have hin0 : ∀ w ∈ u_ws RX0 TX0 3, w ∈ wsX8_strongestAt := by decide +kernel
  have hin8 : ∀ w ∈ u_ws RX8 TX8 15, w ∈ wsX8_strongestAt := by decide +kernel
  have hD := hD0
  have hP : va_P (dC, dI) vwCl ([(h0, .inr (8, [.ref a1, .ref a2, .ref a3, .ref a4, .ref a5, .ref a6, .ref a7, .ref a8, .ref a9, .int j_faultKind, .int j_horseCount, .int j_tabletCount, .int j_riderCount, .int j_lineLength, .int j_hour]))] ++ va_pl L f) s.heap := hP
  have hl := lv_entry ([.ref h0, .int p0]) (n := 7) (Nat.le_of_ble_eq_true rfl)
  rw [lg_entry_eq]
  generalize (lg_sl ([.ref h0, .int p0]) ++ List.replicate (7 - (lg_sl ([.ref h0, .int p0])).length) Slot.unset).toArray = ls at hl ⊢
  have hl : lv_has ls 7 [(0, .ref h0), (1, .int p0)] := hl
  refine lv_null hx hb dX8_strongestAt_0 ?_
  refine lv_astore_nN (lv' := [(2, .null), (0, .ref h0), (1, .int p0)]) hx hb dX8_strongestAt_1 rfl hl (by decide) rfl (fun ls hl => ?_)
  refine lv_aload_n hx hb dX8_strongestAt_2 rfl (lv_at hl 1 rfl) ?_
  refine va_get (D := (dC, dI)) (ci := 8) (v := .ref a5) (C := RX8) (T := TX8) (N := 15) hx hb hts hin8 hown hK hP 0 rfl rfl 4 (by decide) (hts (.fieldLink RX8 36 "YamRiders" "horses" "[LYamRiders$Horse;") (by decide +kernel)) (fun _ h9 => h9) rfl dX8_strongestAt_3 ?_
  refine lv_astore_n (lv' := [(3, .ref a5), (2, .null), (0, .ref h0), (1, .int p0)]) hx hb dX8_strongestAt_6 rfl hl (by decide) rfl (fun ls hl => ?_)
  refine lv_aload_n hx hb dX8_strongestAt_7 rfl (lv_at hl 0 rfl) ?_
  obtain ⟨g_2, hf_1, hr_3⟩ := hT.get hY.2.2.2.1
  obtain ⟨q_4, hq_4⟩ := pl_at (X := [(h0, .inr (8, [.ref a1, .ref a2, .ref a3, .ref a4, .ref a5, .ref a6, .ref a7, .ref a8, .ref a9, .int j_faultKind, .int j_horseCount, .int j_tabletCount, .int j_riderCount, .int j_lineLength, .int j_hour]))]) (f := f) (e := .inl (cs 3, 60, .inr (.inr (.inr (.inr g_2))))) hY.2.2.2.1.1 hf_1
  refine va_alen (v := 60) hx hb hK hP q_4 3 hq_4 rfl rfl dX8_strongestAt_8 ?_
  refine lv_istore (lv' := [(4, .int 60), (3, .ref a5), (2, .null), (0, .ref h0), (1, .int p0)]) hx hb dX8_strongestAt_9 hl (by decide) rfl (fun ls hl => ?_)
  refine lv_iconst (v := 0) hx hb dX8_strongestAt_11 (by decide) ?_
  refine lv_istore (lv' := [(5, .int 0), (4, .int 60), (3, .ref a5), (2, .null), (0, .ref h0), (1, .int p0)]) hx hb dX8_strongestAt_12 hl (by decide) rfl (fun ls hl => ?_)
  have HL : ∀ (n k : Nat) (q2 : Option Nat), k ≤ 60 → 60 + 1 ≤ k + n → (tq L ka 0 q2) → ∀ ls : Array Slot, lv_has ls 7 [(0, .ref h0), (1, .int p0), (2, va_rf q2), (3, .ref a5), (4, .int 60), (5, .int (nI k))] → W p l e (headSpec wsX8_strongestAt ({ frames := 0, cells := 0, slots := 0, locals := 0 })).room s m ([.ref h0, .int p0]).toArray below meth c s.heap [] 0 0 (MQ below (va_Sq (fun r => tq L ka 0 r)) ([.ref h0, .int p0]).toArray s 0 0 (fun _ => False)) (F0 m 14 ls []) := by
    intro n
    induction n with
    | zero => intro k q2 h1 h2; exact absurd h2 (by omega)
    | succ n ih =>
      intro k q2 hk hn hq2 ls hl
      refine lv_iload hx hb dX8_strongestAt_14 (lv_at hl 5 rfl) ?_
      refine lv_iload hx hb dX8_strongestAt_16 (lv_at hl 4 rfl) ?_
      refine lv_icmp_ge (tgt := 66) hx hb dX8_strongestAt_18 (by decide) (fun c_5 => ?_) (fun c_5 => ?_)
      · have hke : k = 60 := by
          rcases Nat.lt_or_ge k 60 with q | q
          · exact absurd c_5 (nI_ge q (by decide))
          · omega
        rcases q2 with _ | o_6
        · have hl : lv_has ls 7 [(0, .ref h0), (1, .int p0), (2, .null), (3, .ref a5), (4, .int 60), (5, .int (nI k))] := hl
          refine lv_aload_nN hx hb dX8_strongestAt_66 rfl (lv_at hl 2 rfl) ?_
          exact W.aret (v := .null) hx hb hr (by first | exact Or.inl ⟨_, rfl⟩ | exact Or.inr ⟨_, rfl⟩) (Or.inl rfl) (fun t9 ht hW => ⟨none, rfl, (fun _ h9 => nomatch h9), ht⟩) (fun q h => nomatch h) dX8_strongestAt_67
        · have hl : lv_has ls 7 [(0, .ref h0), (1, .int p0), (2, .ref o_6), (3, .ref a5), (4, .int 60), (5, .int (nI k))] := hl
          have hk_o_6 := hq2 _ rfl
          refine lv_aload_n hx hb dX8_strongestAt_66 rfl (lv_at hl 2 rfl) ?_
          exact W.aret (v := .ref o_6) hx hb hr (by first | exact Or.inl ⟨_, rfl⟩ | exact Or.inr ⟨_, rfl⟩) (Or.inr ⟨_, rfl⟩) (fun t9 ht hW => ⟨(some o_6), rfl, (fun _ h9 => Option.some.inj h9 ▸ hk_o_6), ht⟩) (fun q h => nomatch h) dX8_strongestAt_67
      · have hlt : k < 60 := by
          rcases Nat.lt_or_ge k 60 with q | q
          · exact q
          · exact absurd (show nI 60 ≤ nI k from nI_le q (by omega)) c_5
        refine lv_aload_n hx hb dX8_strongestAt_21 rfl (lv_at hl 3 rfl) ?_
        refine lv_iload hx hb dX8_strongestAt_22 (lv_at hl 5 rfl) ?_
        obtain ⟨q_7, hq_7⟩ := pl_at (X := [(h0, .inr (8, [.ref a1, .ref a2, .ref a3, .ref a4, .ref a5, .ref a6, .ref a7, .ref a8, .ref a9, .int j_faultKind, .int j_horseCount, .int j_tabletCount, .int j_riderCount, .int j_lineLength, .int j_hour]))]) (f := f) (e := .inl (cs 3, 60, .inr (.inr (.inr (.inr g_2))))) hY.2.2.2.1.1 hf_1
        refine va_aldq hx hb hK hP q_7 3 hq_7 rfl (vp_in_nI hlt (by decide)) dX8_strongestAt_24 ?_
        rcases hr_o_8 : g_2 (nI k).toNatClampNeg with _ | o_8
        · refine W.eq (g2 := F0 m 25 ls [.null]) rfl ?_
          refine lv_astoreN (lv' := [(6, .null), (0, .ref h0), (1, .int p0), (2, va_rf q2), (3, .ref a5), (4, .int 60), (5, .int (nI k))]) hx hb dX8_strongestAt_25 hl (by decide) rfl (fun ls hl => ?_)
          refine lv_aloadN hx hb dX8_strongestAt_27 (lv_at hl 0 rfl) ?_
          refine lv_ifnullN (tgt := 60) hx hb dX8_strongestAt_29 (by decide) ?_
          refine lv_iinc (v := nI (k + 1)) (lv' := [(5, .int (nI (k + 1))), (6, .null), (0, .ref h0), (1, .int p0), (2, va_rf q2), (3, .ref a5), (4, .int 60)]) hx hb dX8_strongestAt_60 hl (k := 6) rfl (by exact (nI_1 k)) (by decide) rfl (fun ls hl => ?_)
          refine lv_goto (tgt := 14) hx hb dX8_strongestAt_63 (by decide) ?_
          exact ih (k + 1) q2 (by omega) (by omega) hq2 ls (lv_sub hl [2, 3, 4, 5, 6, 0] rfl)
        · have hk_o_8 := hr_3 _ _ hr_o_8
          refine W.eq (g2 := F0 m 25 ls [.ref o_8]) rfl ?_
          refine lv_astore (lv' := [(6, .ref o_8), (0, .ref h0), (1, .int p0), (2, va_rf q2), (3, .ref a5), (4, .int 60), (5, .int (nI k))]) hx hb dX8_strongestAt_25 hl (by decide) rfl (fun ls hl => ?_)
          refine lv_aload hx hb dX8_strongestAt_27 (lv_at hl 0 rfl) ?_
          refine lv_ifnull hx hb dX8_strongestAt_29 ?_
          refine lv_aload hx hb dX8_strongestAt_32 (lv_at hl 0 rfl) ?_
          obtain ⟨x_10, x_11, x_12, hf_9⟩ := hT.get hk_o_8
          obtain ⟨q_13, hq_13⟩ := pl_at (X := [(h0, .inr (8, [.ref a1, .ref a2, .ref a3, .ref a4, .ref a5, .ref a6, .ref a7, .ref a8, .ref a9, .int j_faultKind, .int j_horseCount, .int j_tabletCount, .int j_riderCount, .int j_lineLength, .int j_hour]))]) (f := f) (e := .inr (0, [.int x_10, .int x_11, .int x_12])) hk_o_8.1 hf_9
          refine va_getN (D := (dC, dI)) (ci := 0) (v := .int x_11) (C := RX0) (T := TX0) (N := 3) hx hb hts hin0 hown hK hP q_13 hq_13 rfl 1 (by decide) (hN.nx (.fieldLinkNest RX8 209 "YamRiders$Horse" "station" "I" "YamRiders") (by decide +kernel)) (fun _ h9 => h9) rfl dX8_strongestAt_34 ?_
          refine lv_iload_n hx hb dX8_strongestAt_37 rfl (lv_at hl 2 rfl) ?_
          refine lv_icmp_ne (tgt := 60) hx hb dX8_strongestAt_38 (by decide) (fun c_14 => ?_) (fun c_14 => ?_)
          · refine lv_iinc (v := nI (k + 1)) (lv' := [(5, .int (nI (k + 1))), (6, .ref o_8), (0, .ref h0), (1, .int p0), (2, va_rf q2), (3, .ref a5), (4, .int 60)]) hx hb dX8_strongestAt_60 hl (k := 6) rfl (by exact (nI_1 k)) (by decide) rfl (fun ls hl => ?_)
            refine lv_goto (tgt := 14) hx hb dX8_strongestAt_63 (by decide) ?_
            exact ih (k + 1) q2 (by omega) (by omega) hq2 ls (lv_sub hl [2, 3, 4, 5, 6, 0] rfl)
          · rcases q2 with _ | o_15
            · have hl : lv_has ls 7 [(6, .ref o_8), (0, .ref h0), (1, .int p0), (2, .null), (3, .ref a5), (4, .int 60), (5, .int (nI k))] := hl
              refine lv_aload_nN hx hb dX8_strongestAt_41 rfl (lv_at hl 3 rfl) ?_
              refine lv_ifnullN (tgt := 57) hx hb dX8_strongestAt_42 (by decide) ?_
              refine lv_aload hx hb dX8_strongestAt_57 (lv_at hl 0 rfl) ?_
              refine lv_astore_n (lv' := [(2, .ref o_8), (6, .ref o_8), (0, .ref h0), (1, .int p0), (3, .ref a5), (4, .int 60), (5, .int (nI k))]) hx hb dX8_strongestAt_59 rfl hl (by decide) rfl (fun ls hl => ?_)
              refine lv_iinc (v := nI (k + 1)) (lv' := [(5, .int (nI (k + 1))), (2, .ref o_8), (6, .ref o_8), (0, .ref h0), (1, .int p0), (3, .ref a5), (4, .int 60)]) hx hb dX8_strongestAt_60 hl (k := 6) rfl (by exact (nI_1 k)) (by decide) rfl (fun ls hl => ?_)
              refine lv_goto (tgt := 14) hx hb dX8_strongestAt_63 (by decide) ?_
              exact ih (k + 1) (some o_8) (by omega) (by omega) (fun _ h9 => Option.some.inj h9 ▸ hk_o_8) ls (lv_sub hl [3, 4, 1, 5, 6, 0] rfl)
            · have hl : lv_has ls 7 [(6, .ref o_8), (0, .ref h0), (1, .int p0), (2, .ref o_15), (3, .ref a5), (4, .int 60), (5, .int (nI k))] := hl
              have hk_o_15 := hq2 _ rfl
              refine lv_aload_n hx hb dX8_strongestAt_41 rfl (lv_at hl 3 rfl) ?_
              refine lv_ifnull hx hb dX8_strongestAt_42 ?_
              refine lv_aload hx hb dX8_strongestAt_45 (lv_at hl 0 rfl) ?_
              obtain ⟨q_16, hq_16⟩ := pl_at (X := [(h0, .inr (8, [.ref a1, .ref a2, .ref a3, .ref a4, .ref a5, .ref a6, .ref a7, .ref a8, .ref a9, .int j_faultKind, .int j_horseCount, .int j_tabletCount, .int j_riderCount, .int j_lineLength, .int j_hour]))]) (f := f) (e := .inr (0, [.int x_10, .int x_11, .int x_12])) hk_o_8.1 hf_9
              refine va_getN (D := (dC, dI)) (ci := 0) (v := .int x_12) (C := RX0) (T := TX0) (N := 3) hx hb hts hin0 hown hK hP q_16 hq_16 rfl 2 (by decide) (hN.nx (.fieldLinkNest RX8 206 "YamRiders$Horse" "strength" "I" "YamRiders") (by decide +kernel)) (fun _ h9 => h9) rfl dX8_strongestAt_47 ?_
              refine lv_aload_n hx hb dX8_strongestAt_50 rfl (lv_at hl 3 rfl) ?_
              obtain ⟨x_18, x_19, x_20, hf_17⟩ := hT.get hk_o_15
              obtain ⟨q_21, hq_21⟩ := pl_at (X := [(h0, .inr (8, [.ref a1, .ref a2, .ref a3, .ref a4, .ref a5, .ref a6, .ref a7, .ref a8, .ref a9, .int j_faultKind, .int j_horseCount, .int j_tabletCount, .int j_riderCount, .int j_lineLength, .int j_hour]))]) (f := f) (e := .inr (0, [.int x_18, .int x_19, .int x_20])) hk_o_15.1 hf_17
              refine va_getN (D := (dC, dI)) (ci := 0) (v := .int x_20) (C := RX0) (T := TX0) (N := 3) hx hb hts hin0 hown hK hP q_21 hq_21 rfl 2 (by decide) (hN.nx (.fieldLinkNest RX8 206 "YamRiders$Horse" "strength" "I" "YamRiders") (by decide +kernel)) (fun _ h9 => h9) rfl dX8_strongestAt_51 ?_
              refine lv_icmp_le (tgt := 60) hx hb dX8_strongestAt_54 (by decide) (fun c_22 => ?_) (fun c_22 => ?_)
              · refine lv_iinc (v := nI (k + 1)) (lv' := [(5, .int (nI (k + 1))), (6, .ref o_8), (0, .ref h0), (1, .int p0), (2, .ref o_15), (3, .ref a5), (4, .int 60)]) hx hb dX8_strongestAt_60 hl (k := 6) rfl (by exact (nI_1 k)) (by decide) rfl (fun ls hl => ?_)
                refine lv_goto (tgt := 14) hx hb dX8_strongestAt_63 (by decide) ?_
                exact ih (k + 1) (some o_15) (by omega) (by omega) (fun _ h9 => Option.some.inj h9 ▸ hk_o_15) ls (lv_sub hl [2, 3, 4, 5, 6, 0] rfl)
              · refine lv_aload hx hb dX8_strongestAt_57 (lv_at hl 0 rfl) ?_
                refine lv_astore_n (lv' := [(2, .ref o_8), (6, .ref o_8), (0, .ref h0), (1, .int p0), (3, .ref a5), (4, .int 60), (5, .int (nI k))]) hx hb dX8_strongestAt_59 rfl hl (by decide) rfl (fun ls hl => ?_)
                refine lv_iinc (v := nI (k + 1)) (lv' := [(5, .int (nI (k + 1))), (2, .ref o_8), (6, .ref o_8), (0, .ref h0), (1, .int p0), (3, .ref a5), (4, .int 60)]) hx hb dX8_strongestAt_60 hl (k := 6) rfl (by exact (nI_1 k)) (by decide) rfl (fun ls hl => ?_)
                refine lv_goto (tgt := 14) hx hb dX8_strongestAt_63 (by decide) ?_
                exact ih (k + 1) (some o_8) (by omega) (by omega) (fun _ h9 => Option.some.inj h9 ▸ hk_o_8) ls (lv_sub hl [3, 4, 1, 5, 6, 0] rfl)
  exact HL 61 0 none (by omega) (by omega) (fun _ h9 => nomatch h9) ls (lv_sub hl [4, 5, 3, 2, 1, 0] rfl)

set_option maxHeartbeats 4000000 in
set_option maxRecDepth 100000 in
theorem t_X8_voided (l : Launch) (dC : Nat → ClassId) (dI : Nat → Nat → Nat) (cs : Nat → ClassId) (L : List Nat) (ka : Nat → Nat) (f : Nat → va_E) (h0 : Nat) (a1 : Nat) (a2 : Nat) (a3 : Nat) (a4 : Nat) (a5 : Nat) (a6 : Nat) (a7 : Nat) (a8 : Nat) (a9 : Nat) (j_faultKind : Int32) (j_horseCount : Int32) (j_tabletCount : Int32) (j_riderCount : Int32) (j_lineLength : Int32) (j_hour : Int32) (p0 : Int32) (p1 : Int32) (sz : Nat) (hT : tO L ka cs f) (hY : yK L ka a2 a3 a4 a5 a6 a7 a8 a9) : Met l yX8_voided wsX8_voided ({ frames := 2, cells := 0, slots := 0, locals := 41 }) (va_Pc [.ref h0, .int p0, .int p1] (cP dC dI ([(h0, .inr (8, [.ref a1, .ref a2, .ref a3, .ref a4, .ref a5, .ref a6, .ref a7, .ref a8, .ref a9, .int j_faultKind, .int j_horseCount, .int j_tabletCount, .int j_riderCount, .int j_lineLength, .int j_hour]))] ++ va_pl L f) (tyC cs) sz)) (vp_Si (fun _ => True)) 0 0 (fun _ => False) := by
  refine Met.ofW (cc := cX8_voided) (maxL := 4) (ret := (some .int)) (by decide) rfl ?_
  intro p e s m args below meth c s₁ B hml hv
  obtain ⟨rfl, hsz, hP, hK, hD0, hN⟩ := hv
  have hx := B.exec
  have hb := B.bytes
  have hr := B.returns
  have hts := atoms_spec (ws := wsX8_voided) B.pre
  have hown : s.vm.findClass RX8 = some m.cls := findClass_of_methodNamed B.named
  have hlocks := B.notSynchronized
  subst hsz
  have hD := hD0
  have hP : va_P (dC, dI) vwCl ([(h0, .inr (8, [.ref a1, .ref a2, .ref a3, .ref a4, .ref a5, .ref a6, .ref a7, .ref a8, .ref a9, .int j_faultKind, .int j_horseCount, .int j_tabletCount, .int j_riderCount, .int j_lineLength, .int j_hour]))] ++ va_pl L f) s.heap := hP
  have hl := lv_entry ([.ref h0, .int p0, .int p1]) (n := 4) (Nat.le_of_ble_eq_true rfl)
  rw [lg_entry_eq]
  generalize (lg_sl ([.ref h0, .int p0, .int p1]) ++ List.replicate (4 - (lg_sl ([.ref h0, .int p0, .int p1])).length) Slot.unset).toArray = ls at hl ⊢
  have hl : lv_has ls 4 [(0, .ref h0), (1, .int p0), (2, .int p1)] := hl
  refine lv_aload_n hx hb dX8_voided_0 rfl (lv_at hl 0 rfl) ?_
  refine lv_iload_n hx hb dX8_voided_1 rfl (lv_at hl 1 rfl) ?_
  have hPc := hP.part (cx := [(h0, .inr (8, [.ref a1, .ref a2, .ref a3, .ref a4, .ref a5, .ref a6, .ref a7, .ref a8, .ref a9, .int j_faultKind, .int j_horseCount, .int j_tabletCount, .int j_riderCount, .int j_lineLength, .int j_hour]))]) [0] rfl
  have hDc := hD.part (cx := [(h0, .inr (8, [.ref a1, .ref a2, .ref a3, .ref a4, .ref a5, .ref a6, .ref a7, .ref a8, .ref a9, .int j_faultKind, .int j_horseCount, .int j_tabletCount, .int j_riderCount, .int j_lineLength, .int j_hour]))]) [0] (by decide) rfl
  have hKc := hK
  refine cs_q (va_runV (As := [.int p0]) (rest := []) ⟨hx, hb, hml, hown, hts⟩ (t_X8_tabletOf l dC dI cs L ka f h0 a1 a2 a3 a4 a5 a6 a7 a8 a9 j_faultKind j_horseCount j_tabletCount j_riderCount j_lineLength j_hour p0 s.heap.size hT hY) (cwV 1 hts gX8_voided_X8_tabletOf rfl rfl rfl (by decide +kernel) ⟨Nat.le_of_ble_eq_true rfl, Nat.le_of_ble_eq_true rfl⟩) ⟨c_blind, va_recv hKc hPc (ci := 8) (q0 := 0) rfl rfl, c_pre hPc hKc hDc hN⟩ rfl rfl hl.1 rfl (lv_room (Nat.le_of_ble_eq_true rfl)) dX8_voided_2 ⟨Nat.le_of_ble_eq_true rfl, Nat.le_of_ble_eq_true rfl⟩) (fun o_1 ho_1 => ?_)
  rcases o_1 with _ | o_2
  · refine W.eq (g2 := F0 m 5 ls [.null]) rfl ?_
    refine lv_astore_nN (lv' := [(3, .null), (0, .ref h0), (1, .int p0), (2, .int p1)]) hx hb dX8_voided_5 rfl hl (by decide) rfl (fun ls hl => ?_)
    refine lv_aload_nN hx hb dX8_voided_6 rfl (lv_at hl 0 rfl) ?_
    refine lv_ifnonnullN hx hb dX8_voided_7 ?_
    refine lv_iconst (v := (-1)) hx hb dX8_voided_10 (by decide) ?_
    refine lv_goto (tgt := 19) hx hb dX8_voided_11 (by decide) ?_
    exact W.iret (v := (-1)) hx hb hr (fun t9 ht hW => ⟨_, rfl, trivial, ht⟩) (fun q h => nomatch h) dX8_voided_19
  · have hk_o_2 := ho_1 _ rfl
    refine W.eq (g2 := F0 m 5 ls [.ref o_2]) rfl ?_
    refine lv_astore_n (lv' := [(3, .ref o_2), (0, .ref h0), (1, .int p0), (2, .int p1)]) hx hb dX8_voided_5 rfl hl (by decide) rfl (fun ls hl => ?_)
    refine lv_aload_n hx hb dX8_voided_6 rfl (lv_at hl 0 rfl) ?_
    refine lv_ifnonnull (tgt := 14) hx hb dX8_voided_7 (by decide) ?_
    refine lv_aload_n hx hb dX8_voided_14 rfl (lv_at hl 0 rfl) ?_
    refine lv_iload_n hx hb dX8_voided_15 rfl (lv_at hl 3 rfl) ?_
    have hPc := hP.part (cx := []) [] rfl
    have hDc := hD.part (cx := []) [] (by decide) rfl
    have hKc := hK
    obtain ⟨x_4, o_5, hf_3, hk_o_5⟩ := hT.get hk_o_2
    obtain ⟨q_6, hq_6⟩ := pl_at (X := []) (f := f) (e := .inr (6, [.int x_4, .ref o_5])) hk_o_2.1 hf_3
    refine cs_i (va_runV (As := [.int p1]) (rest := []) ⟨hx, hb, hml, hown, hts⟩ (t_X6_voidSince l dC dI cs L ka f o_2 p1 s.heap.size hT hk_o_2) (cwV 1 hts gX8_voided_X6_voidSince rfl rfl rfl (by decide +kernel) ⟨Nat.le_of_ble_eq_true rfl, Nat.le_of_ble_eq_true rfl⟩) ⟨c_blind, va_recv hKc hPc (ci := 6) (q0 := q_6) rfl hq_6, c_pre hPc hKc hDc hN⟩ rfl rfl hl.1 rfl (lv_room (Nat.le_of_ble_eq_true rfl)) dX8_voided_16 ⟨Nat.le_of_ble_eq_true rfl, Nat.le_of_ble_eq_true rfl⟩) (fun r_7 hr_7 => ?_)
    exact W.iret (v := r_7) hx hb hr (fun t9 ht hW => ⟨_, rfl, trivial, ht⟩) (fun q h => nomatch h) dX8_voided_19

set_option maxHeartbeats 4000000 in
set_option maxRecDepth 100000 in
theorem t_X8_known (l : Launch) (dC : Nat → ClassId) (dI : Nat → Nat → Nat) (cs : Nat → ClassId) (L : List Nat) (ka : Nat → Nat) (f : Nat → va_E) (h0 : Nat) (a1 : Nat) (a2 : Nat) (a3 : Nat) (a4 : Nat) (a5 : Nat) (a6 : Nat) (a7 : Nat) (a8 : Nat) (a9 : Nat) (j_faultKind : Int32) (j_horseCount : Int32) (j_tabletCount : Int32) (j_riderCount : Int32) (j_lineLength : Int32) (j_hour : Int32) (p0 : Int32) (p1 : Int32) (sz : Nat) (hT : tO L ka cs f) (hY : yK L ka a2 a3 a4 a5 a6 a7 a8 a9) : Met l yX8_known wsX8_known ({ frames := 2, cells := 0, slots := 0, locals := 41 }) (va_Pc [.ref h0, .int p0, .int p1] (cP dC dI ([(h0, .inr (8, [.ref a1, .ref a2, .ref a3, .ref a4, .ref a5, .ref a6, .ref a7, .ref a8, .ref a9, .int j_faultKind, .int j_horseCount, .int j_tabletCount, .int j_riderCount, .int j_lineLength, .int j_hour]))] ++ va_pl L f) (tyC cs) sz)) (vp_Si (fun _ => True)) 0 0 (fun _ => False) := by
  refine Met.ofW (cc := cX8_known) (maxL := 4) (ret := (some .int)) (by decide) rfl ?_
  intro p e s m args below meth c s₁ B hml hv
  obtain ⟨rfl, hsz, hP, hK, hD0, hN⟩ := hv
  have hx := B.exec
  have hb := B.bytes
  have hr := B.returns
  have hts := atoms_spec (ws := wsX8_known) B.pre
  have hown : s.vm.findClass RX8 = some m.cls := findClass_of_methodNamed B.named
  have hlocks := B.notSynchronized
  subst hsz
  have hD := hD0
  have hP : va_P (dC, dI) vwCl ([(h0, .inr (8, [.ref a1, .ref a2, .ref a3, .ref a4, .ref a5, .ref a6, .ref a7, .ref a8, .ref a9, .int j_faultKind, .int j_horseCount, .int j_tabletCount, .int j_riderCount, .int j_lineLength, .int j_hour]))] ++ va_pl L f) s.heap := hP
  have hl := lv_entry ([.ref h0, .int p0, .int p1]) (n := 4) (Nat.le_of_ble_eq_true rfl)
  rw [lg_entry_eq]
  generalize (lg_sl ([.ref h0, .int p0, .int p1]) ++ List.replicate (4 - (lg_sl ([.ref h0, .int p0, .int p1])).length) Slot.unset).toArray = ls at hl ⊢
  have hl : lv_has ls 4 [(0, .ref h0), (1, .int p0), (2, .int p1)] := hl
  refine lv_aload_n hx hb dX8_known_0 rfl (lv_at hl 0 rfl) ?_
  refine lv_iload_n hx hb dX8_known_1 rfl (lv_at hl 1 rfl) ?_
  have hPc := hP.part (cx := [(h0, .inr (8, [.ref a1, .ref a2, .ref a3, .ref a4, .ref a5, .ref a6, .ref a7, .ref a8, .ref a9, .int j_faultKind, .int j_horseCount, .int j_tabletCount, .int j_riderCount, .int j_lineLength, .int j_hour]))]) [0] rfl
  have hDc := hD.part (cx := [(h0, .inr (8, [.ref a1, .ref a2, .ref a3, .ref a4, .ref a5, .ref a6, .ref a7, .ref a8, .ref a9, .int j_faultKind, .int j_horseCount, .int j_tabletCount, .int j_riderCount, .int j_lineLength, .int j_hour]))]) [0] (by decide) rfl
  have hKc := hK
  refine cs_q (va_runV (As := [.int p0]) (rest := []) ⟨hx, hb, hml, hown, hts⟩ (t_X8_riderOf l dC dI cs L ka f h0 a1 a2 a3 a4 a5 a6 a7 a8 a9 j_faultKind j_horseCount j_tabletCount j_riderCount j_lineLength j_hour p0 s.heap.size hT hY) (cwV 1 hts gX8_known_X8_riderOf rfl rfl rfl (by decide +kernel) ⟨Nat.le_of_ble_eq_true rfl, Nat.le_of_ble_eq_true rfl⟩) ⟨c_blind, va_recv hKc hPc (ci := 8) (q0 := 0) rfl rfl, c_pre hPc hKc hDc hN⟩ rfl rfl hl.1 rfl (lv_room (Nat.le_of_ble_eq_true rfl)) dX8_known_2 ⟨Nat.le_of_ble_eq_true rfl, Nat.le_of_ble_eq_true rfl⟩) (fun o_1 ho_1 => ?_)
  rcases o_1 with _ | o_2
  · refine W.eq (g2 := F0 m 5 ls [.null]) rfl ?_
    refine lv_astore_nN (lv' := [(3, .null), (0, .ref h0), (1, .int p0), (2, .int p1)]) hx hb dX8_known_5 rfl hl (by decide) rfl (fun ls hl => ?_)
    refine lv_aload_nN hx hb dX8_known_6 rfl (lv_at hl 0 rfl) ?_
    refine lv_ifnonnullN hx hb dX8_known_7 ?_
    refine lv_iconst (v := (-1)) hx hb dX8_known_10 (by decide) ?_
    refine lv_goto (tgt := 19) hx hb dX8_known_11 (by decide) ?_
    exact W.iret (v := (-1)) hx hb hr (fun t9 ht hW => ⟨_, rfl, trivial, ht⟩) (fun q h => nomatch h) dX8_known_19
  · have hk_o_2 := ho_1 _ rfl
    refine W.eq (g2 := F0 m 5 ls [.ref o_2]) rfl ?_
    refine lv_astore_n (lv' := [(3, .ref o_2), (0, .ref h0), (1, .int p0), (2, .int p1)]) hx hb dX8_known_5 rfl hl (by decide) rfl (fun ls hl => ?_)
    refine lv_aload_n hx hb dX8_known_6 rfl (lv_at hl 0 rfl) ?_
    refine lv_ifnonnull (tgt := 14) hx hb dX8_known_7 (by decide) ?_
    refine lv_aload_n hx hb dX8_known_14 rfl (lv_at hl 0 rfl) ?_
    refine lv_iload_n hx hb dX8_known_15 rfl (lv_at hl 3 rfl) ?_
    have hPc := hP.part (cx := []) [] rfl
    have hDc := hD.part (cx := []) [] (by decide) rfl
    have hKc := hK
    obtain ⟨x_4, x_5, o_6, o_7, x_8, x_9, x_10, o_11, x_12, x_13, hf_3, hk_o_6, hk_o_7, hq_o_11⟩ := hT.get hk_o_2
    obtain ⟨q_14, hq_14⟩ := pl_at (X := []) (f := f) (e := .inr (2, [.int x_4, .int x_5, .ref o_6, .ref o_7, .int x_8, .int x_9, .int x_10, va_rf o_11, .int x_12, .int x_13])) hk_o_2.1 hf_3
    refine cs_i (va_runV (As := [.int p1]) (rest := []) ⟨hx, hb, hml, hown, hts⟩ (t_X2_newsKnownSince l dC dI cs L ka f o_2 p1 s.heap.size hT hk_o_2) (cwV 1 hts gX8_known_X2_newsKnownSince rfl rfl rfl (by decide +kernel) ⟨Nat.le_of_ble_eq_true rfl, Nat.le_of_ble_eq_true rfl⟩) ⟨c_blind, va_recv hKc hPc (ci := 2) (q0 := q_14) rfl hq_14, c_pre hPc hKc hDc hN⟩ rfl rfl hl.1 rfl (lv_room (Nat.le_of_ble_eq_true rfl)) dX8_known_16 ⟨Nat.le_of_ble_eq_true rfl, Nat.le_of_ble_eq_true rfl⟩) (fun r_15 hr_15 => ?_)
    exact W.iret (v := r_15) hx hb hr (fun t9 ht hW => ⟨_, rfl, trivial, ht⟩) (fun q h => nomatch h) dX8_known_19

set_option maxHeartbeats 4000000 in
set_option maxRecDepth 100000 in
theorem t_X8_way (l : Launch) (dC : Nat → ClassId) (dI : Nat → Nat → Nat) (cs : Nat → ClassId) (L : List Nat) (ka : Nat → Nat) (f : Nat → va_E) (h0 : Nat) (a1 : Nat) (a2 : Nat) (a3 : Nat) (a4 : Nat) (a5 : Nat) (a6 : Nat) (a7 : Nat) (a8 : Nat) (a9 : Nat) (j_faultKind : Int32) (j_horseCount : Int32) (j_tabletCount : Int32) (j_riderCount : Int32) (j_lineLength : Int32) (j_hour : Int32) (p0 : Int32) (p1 : Int32) (sz : Nat) (hT : tO L ka cs f) (hY : yK L ka a2 a3 a4 a5 a6 a7 a8 a9) : Met l yX8_way wsX8_way ({ frames := 1, cells := 0, slots := 0, locals := 21 }) (va_Pc [.ref h0, .int p0, .int p1] (cP dC dI ([(h0, .inr (8, [.ref a1, .ref a2, .ref a3, .ref a4, .ref a5, .ref a6, .ref a7, .ref a8, .ref a9, .int j_faultKind, .int j_horseCount, .int j_tabletCount, .int j_riderCount, .int j_lineLength, .int j_hour]))] ++ va_pl L f) (tyC cs) sz)) (vp_Si (fun _ => True)) 0 0 (fun _ => False) := by
  refine Met.ofW (cc := cX8_way) (maxL := 4) (ret := (some .int)) (by decide) rfl ?_
  intro p e s m args below meth c s₁ B hml hv
  obtain ⟨rfl, hsz, hP, hK, hD0, hN⟩ := hv
  have hx := B.exec
  have hb := B.bytes
  have hr := B.returns
  have hts := atoms_spec (ws := wsX8_way) B.pre
  have hown : s.vm.findClass RX8 = some m.cls := findClass_of_methodNamed B.named
  have hlocks := B.notSynchronized
  subst hsz
  have hD := hD0
  have hP : va_P (dC, dI) vwCl ([(h0, .inr (8, [.ref a1, .ref a2, .ref a3, .ref a4, .ref a5, .ref a6, .ref a7, .ref a8, .ref a9, .int j_faultKind, .int j_horseCount, .int j_tabletCount, .int j_riderCount, .int j_lineLength, .int j_hour]))] ++ va_pl L f) s.heap := hP
  have hl := lv_entry ([.ref h0, .int p0, .int p1]) (n := 4) (Nat.le_of_ble_eq_true rfl)
  rw [lg_entry_eq]
  generalize (lg_sl ([.ref h0, .int p0, .int p1]) ++ List.replicate (4 - (lg_sl ([.ref h0, .int p0, .int p1])).length) Slot.unset).toArray = ls at hl ⊢
  have hl : lv_has ls 4 [(0, .ref h0), (1, .int p0), (2, .int p1)] := hl
  refine lv_aload_n hx hb dX8_way_0 rfl (lv_at hl 0 rfl) ?_
  refine lv_iload_n hx hb dX8_way_1 rfl (lv_at hl 1 rfl) ?_
  have hPc := hP.part (cx := [(h0, .inr (8, [.ref a1, .ref a2, .ref a3, .ref a4, .ref a5, .ref a6, .ref a7, .ref a8, .ref a9, .int j_faultKind, .int j_horseCount, .int j_tabletCount, .int j_riderCount, .int j_lineLength, .int j_hour]))]) [0] rfl
  have hDc := hD.part (cx := [(h0, .inr (8, [.ref a1, .ref a2, .ref a3, .ref a4, .ref a5, .ref a6, .ref a7, .ref a8, .ref a9, .int j_faultKind, .int j_horseCount, .int j_tabletCount, .int j_riderCount, .int j_lineLength, .int j_hour]))]) [0] (by decide) rfl
  have hKc := hK
  refine cs_q (va_runV (As := [.int p0]) (rest := []) ⟨hx, hb, hml, hown, hts⟩ (t_X8_riderOf l dC dI cs L ka f h0 a1 a2 a3 a4 a5 a6 a7 a8 a9 j_faultKind j_horseCount j_tabletCount j_riderCount j_lineLength j_hour p0 s.heap.size hT hY) (cwV 1 hts gX8_way_X8_riderOf rfl rfl rfl (by decide +kernel) ⟨Nat.le_of_ble_eq_true rfl, Nat.le_of_ble_eq_true rfl⟩) ⟨c_blind, va_recv hKc hPc (ci := 8) (q0 := 0) rfl rfl, c_pre hPc hKc hDc hN⟩ rfl rfl hl.1 rfl (lv_room (Nat.le_of_ble_eq_true rfl)) dX8_way_2 ⟨Nat.le_of_ble_eq_true rfl, Nat.le_of_ble_eq_true rfl⟩) (fun o_1 ho_1 => ?_)
  rcases o_1 with _ | o_2
  · refine W.eq (g2 := F0 m 5 ls [.null]) rfl ?_
    refine lv_astore_nN (lv' := [(3, .null), (0, .ref h0), (1, .int p0), (2, .int p1)]) hx hb dX8_way_5 rfl hl (by decide) rfl (fun ls hl => ?_)
    refine lv_aload_nN hx hb dX8_way_6 rfl (lv_at hl 0 rfl) ?_
    refine lv_ifnonnullN hx hb dX8_way_7 ?_
    refine lv_iconst (v := (-1)) hx hb dX8_way_10 (by decide) ?_
    refine lv_goto (tgt := 19) hx hb dX8_way_11 (by decide) ?_
    exact W.iret (v := (-1)) hx hb hr (fun t9 ht hW => ⟨_, rfl, trivial, ht⟩) (fun q h => nomatch h) dX8_way_19
  · have hk_o_2 := ho_1 _ rfl
    refine W.eq (g2 := F0 m 5 ls [.ref o_2]) rfl ?_
    refine lv_astore_n (lv' := [(3, .ref o_2), (0, .ref h0), (1, .int p0), (2, .int p1)]) hx hb dX8_way_5 rfl hl (by decide) rfl (fun ls hl => ?_)
    refine lv_aload_n hx hb dX8_way_6 rfl (lv_at hl 0 rfl) ?_
    refine lv_ifnonnull (tgt := 14) hx hb dX8_way_7 (by decide) ?_
    refine lv_aload_n hx hb dX8_way_14 rfl (lv_at hl 0 rfl) ?_
    refine lv_iload_n hx hb dX8_way_15 rfl (lv_at hl 3 rfl) ?_
    have hPc := hP.part (cx := []) [] rfl
    have hDc := hD.part (cx := []) [] (by decide) rfl
    have hKc := hK
    obtain ⟨x_4, x_5, o_6, o_7, x_8, x_9, x_10, o_11, x_12, x_13, hf_3, hk_o_6, hk_o_7, hq_o_11⟩ := hT.get hk_o_2
    obtain ⟨q_14, hq_14⟩ := pl_at (X := []) (f := f) (e := .inr (2, [.int x_4, .int x_5, .ref o_6, .ref o_7, .int x_8, .int x_9, .int x_10, va_rf o_11, .int x_12, .int x_13])) hk_o_2.1 hf_3
    refine cs_i (va_runV (As := [.int p1]) (rest := []) ⟨hx, hb, hml, hown, hts⟩ (t_X2_stationOfWay l dC dI cs L ka f o_2 p1 s.heap.size hT hk_o_2) (cwV 1 hts gX8_way_X2_stationOfWay rfl rfl rfl (by decide +kernel) ⟨Nat.le_of_ble_eq_true rfl, Nat.le_of_ble_eq_true rfl⟩) ⟨c_blind, va_recv hKc hPc (ci := 2) (q0 := q_14) rfl hq_14, c_pre hPc hKc hDc hN⟩ rfl rfl hl.1 rfl (lv_room (Nat.le_of_ble_eq_true rfl)) dX8_way_16 ⟨Nat.le_of_ble_eq_true rfl, Nat.le_of_ble_eq_true rfl⟩) (fun r_15 hr_15 => ?_)
    exact W.iret (v := r_15) hx hb hr (fun t9 ht hW => ⟨_, rfl, trivial, ht⟩) (fun q h => nomatch h) dX8_way_19

set_option maxHeartbeats 4000000 in
set_option maxRecDepth 100000 in
theorem t_X8_at (l : Launch) (dC : Nat → ClassId) (dI : Nat → Nat → Nat) (cs : Nat → ClassId) (L : List Nat) (ka : Nat → Nat) (f : Nat → va_E) (h0 : Nat) (a1 : Nat) (a2 : Nat) (a3 : Nat) (a4 : Nat) (a5 : Nat) (a6 : Nat) (a7 : Nat) (a8 : Nat) (a9 : Nat) (j_faultKind : Int32) (j_horseCount : Int32) (j_tabletCount : Int32) (j_riderCount : Int32) (j_lineLength : Int32) (j_hour : Int32) (p0 : Int32) (p1 : Int32) (sz : Nat) (hT : tO L ka cs f) (hY : yK L ka a2 a3 a4 a5 a6 a7 a8 a9) : Met l yX8_at wsX8_at ({ frames := 3, cells := 0, slots := 0, locals := 67 }) (va_Pc [.ref h0, .int p0, .int p1] (cP dC dI ([(h0, .inr (8, [.ref a1, .ref a2, .ref a3, .ref a4, .ref a5, .ref a6, .ref a7, .ref a8, .ref a9, .int j_faultKind, .int j_horseCount, .int j_tabletCount, .int j_riderCount, .int j_lineLength, .int j_hour]))] ++ va_pl L f) (tyC cs) sz)) (vp_Si (fun _ => True)) 0 0 (fun _ => False) := by
  refine Met.ofW (cc := cX8_at) (maxL := 3) (ret := (some .int)) (by decide) rfl ?_
  intro p e s m args below meth c s₁ B hml hv
  obtain ⟨rfl, hsz, hP, hK, hD0, hN⟩ := hv
  have hx := B.exec
  have hb := B.bytes
  have hr := B.returns
  have hts := atoms_spec (ws := wsX8_at) B.pre
  have hown : s.vm.findClass RX8 = some m.cls := findClass_of_methodNamed B.named
  have hlocks := B.notSynchronized
  subst hsz
  have hin8 : ∀ w ∈ u_ws RX8 TX8 15, w ∈ wsX8_at := by decide +kernel
  have hD := hD0
  have hP : va_P (dC, dI) vwCl ([(h0, .inr (8, [.ref a1, .ref a2, .ref a3, .ref a4, .ref a5, .ref a6, .ref a7, .ref a8, .ref a9, .int j_faultKind, .int j_horseCount, .int j_tabletCount, .int j_riderCount, .int j_lineLength, .int j_hour]))] ++ va_pl L f) s.heap := hP
  have hl := lv_entry ([.ref h0, .int p0, .int p1]) (n := 3) (Nat.le_of_ble_eq_true rfl)
  rw [lg_entry_eq]
  generalize (lg_sl ([.ref h0, .int p0, .int p1]) ++ List.replicate (3 - (lg_sl ([.ref h0, .int p0, .int p1])).length) Slot.unset).toArray = ls at hl ⊢
  have hl : lv_has ls 3 [(0, .ref h0), (1, .int p0), (2, .int p1)] := hl
  refine lv_iload_n hx hb dX8_at_0 rfl (lv_at hl 1 rfl) ?_
  have hPc := hP.sub (ws' := []) [] rfl
  have hDc := hD.sub (ws' := []) [] (by decide) rfl
  have hKc := hK.sub (tys' := []) [] rfl
  refine cs_i (va_runS (As := [.int p0]) (rest := []) ⟨hx, hb, hml, hown, hts⟩ (c_X8_isStation l dC dI p0 s.heap.size) (va_cwS 1 hts gX8_at_X8_isStation rfl rfl rfl (by decide +kernel) ⟨Nat.le_of_ble_eq_true rfl, Nat.le_of_ble_eq_true rfl⟩) ⟨c_blind, c_pre hPc hKc hDc hN⟩ rfl rfl hl.1 rfl (lv_room (Nat.le_of_ble_eq_true rfl)) dX8_at_1 ⟨Nat.le_of_ble_eq_true rfl, Nat.le_of_ble_eq_true rfl⟩) (fun r_1 hr_1 => ?_)
  subst hr_1
  refine lv_if_ne (tgt := 9) hx hb dX8_at_4 (by decide) (fun c_2 => ?_) (fun c_2 => ?_)
  · refine lv_iload_n hx hb dX8_at_9 rfl (lv_at hl 2 rfl) ?_
    by_cases c_3 : p1 = 0
    · refine lv_tableIn (tgt := 36) (off := 26) hx hb dX8_at_10 (by rw [c_3]; decide) (by rw [c_3]; decide) (by rw [c_3]; decide) (by decide) ?_
      refine lv_aload_n hx hb dX8_at_36 rfl (lv_at hl 0 rfl) ?_
      refine va_get (D := (dC, dI)) (ci := 8) (v := .ref a4) (C := RX8) (T := TX8) (N := 15) hx hb hts hin8 hown hK hP 0 rfl rfl 3 (by decide) (hts (.fieldLink RX8 30 "YamRiders" "fodderAt" "[I") (by decide +kernel)) (fun _ h9 => h9) rfl dX8_at_37 ?_
      refine lv_iload_n hx hb dX8_at_40 rfl (lv_at hl 1 rfl) ?_
      obtain ⟨g_5, hf_4⟩ := hT.get hY.2.2.1
      obtain ⟨q_6, hq_6⟩ := pl_at (X := [(h0, .inr (8, [.ref a1, .ref a2, .ref a3, .ref a4, .ref a5, .ref a6, .ref a7, .ref a8, .ref a9, .int j_faultKind, .int j_horseCount, .int j_tabletCount, .int j_riderCount, .int j_lineLength, .int j_hour]))]) (f := f) (e := .inl (cs 0, 12, .inl g_5)) hY.2.2.1.1 hf_4
      refine va_iald hx hb hK hP q_6 0 hq_6 rfl (st_in c_2) dX8_at_41 ?_
      refine lv_topi (fun v_7 ev_7 => ?_)
      exact W.iret (v := v_7) hx hb hr (fun t9 ht hW => ⟨_, rfl, trivial, ht⟩) (fun q h => nomatch h) dX8_at_42
    by_cases c_8 : p1 = 1
    · refine lv_tableIn (tgt := 43) (off := 33) hx hb dX8_at_10 (by rw [c_8]; decide) (by rw [c_8]; decide) (by rw [c_8]; decide) (by decide) ?_
      refine lv_aload_n hx hb dX8_at_43 rfl (lv_at hl 0 rfl) ?_
      refine lv_iload_n hx hb dX8_at_44 rfl (lv_at hl 1 rfl) ?_
      have hPc := hP.part (cx := [(h0, .inr (8, [.ref a1, .ref a2, .ref a3, .ref a4, .ref a5, .ref a6, .ref a7, .ref a8, .ref a9, .int j_faultKind, .int j_horseCount, .int j_tabletCount, .int j_riderCount, .int j_lineLength, .int j_hour]))]) [0] rfl
      have hDc := hD.part (cx := [(h0, .inr (8, [.ref a1, .ref a2, .ref a3, .ref a4, .ref a5, .ref a6, .ref a7, .ref a8, .ref a9, .int j_faultKind, .int j_horseCount, .int j_tabletCount, .int j_riderCount, .int j_lineLength, .int j_hour]))]) [0] (by decide) rfl
      have hKc := hK
      refine cs_i (va_runV (As := [.int p0]) (rest := []) ⟨hx, hb, hml, hown, hts⟩ (t_X8_horsesAt l dC dI cs L ka f h0 a1 a2 a3 a4 a5 a6 a7 a8 a9 j_faultKind j_horseCount j_tabletCount j_riderCount j_lineLength j_hour p0 s.heap.size hT hY) (cwV 1 hts gX8_at_X8_horsesAt rfl rfl rfl (by decide +kernel) ⟨Nat.le_of_ble_eq_true rfl, Nat.le_of_ble_eq_true rfl⟩) ⟨c_blind, va_recv hKc hPc (ci := 8) (q0 := 0) rfl rfl, c_pre hPc hKc hDc hN⟩ rfl rfl hl.1 rfl (lv_room (Nat.le_of_ble_eq_true rfl)) dX8_at_45 ⟨Nat.le_of_ble_eq_true rfl, Nat.le_of_ble_eq_true rfl⟩) (fun r_9 hr_9 => ?_)
      exact W.iret (v := r_9) hx hb hr (fun t9 ht hW => ⟨_, rfl, trivial, ht⟩) (fun q h => nomatch h) dX8_at_48
    by_cases c_10 : p1 = 2
    · refine lv_tableIn (tgt := 49) (off := 39) hx hb dX8_at_10 (by rw [c_10]; decide) (by rw [c_10]; decide) (by rw [c_10]; decide) (by decide) ?_
      refine lv_aload_n hx hb dX8_at_49 rfl (lv_at hl 0 rfl) ?_
      refine lv_iload_n hx hb dX8_at_50 rfl (lv_at hl 1 rfl) ?_
      have hPc := hP.part (cx := [(h0, .inr (8, [.ref a1, .ref a2, .ref a3, .ref a4, .ref a5, .ref a6, .ref a7, .ref a8, .ref a9, .int j_faultKind, .int j_horseCount, .int j_tabletCount, .int j_riderCount, .int j_lineLength, .int j_hour]))]) [0] rfl
      have hDc := hD.part (cx := [(h0, .inr (8, [.ref a1, .ref a2, .ref a3, .ref a4, .ref a5, .ref a6, .ref a7, .ref a8, .ref a9, .int j_faultKind, .int j_horseCount, .int j_tabletCount, .int j_riderCount, .int j_lineLength, .int j_hour]))]) [0] (by decide) rfl
      have hKc := hK
      refine cs_i (va_runV (As := [.int p0]) (rest := []) ⟨hx, hb, hml, hown, hts⟩ (t_X8_ridersWaitingAt l dC dI cs L ka f h0 a1 a2 a3 a4 a5 a6 a7 a8 a9 j_faultKind j_horseCount j_tabletCount j_riderCount j_lineLength j_hour p0 s.heap.size hT hY) (cwV 1 hts gX8_at_X8_ridersWaitingAt rfl rfl rfl (by decide +kernel) ⟨Nat.le_of_ble_eq_true rfl, Nat.le_of_ble_eq_true rfl⟩) ⟨c_blind, va_recv hKc hPc (ci := 8) (q0 := 0) rfl rfl, c_pre hPc hKc hDc hN⟩ rfl rfl hl.1 rfl (lv_room (Nat.le_of_ble_eq_true rfl)) dX8_at_51 ⟨Nat.le_of_ble_eq_true rfl, Nat.le_of_ble_eq_true rfl⟩) (fun r_11 hr_11 => ?_)
      exact W.iret (v := r_11) hx hb hr (fun t9 ht hW => ⟨_, rfl, trivial, ht⟩) (fun q h => nomatch h) dX8_at_54
    refine lv_tableOut (tgt := 55) hx hb dX8_at_10 (sw_out0_2 c_3 c_8 c_10) (by decide) ?_
    refine lv_iconst (v := (-1)) hx hb dX8_at_55 (by decide) ?_
    exact W.iret (v := (-1)) hx hb hr (fun t9 ht hW => ⟨_, rfl, trivial, ht⟩) (fun q h => nomatch h) dX8_at_56
  · refine lv_iconst (v := (-1)) hx hb dX8_at_7 (by decide) ?_
    exact W.iret (v := (-1)) hx hb hr (fun t9 ht hW => ⟨_, rfl, trivial, ht⟩) (fun q h => nomatch h) dX8_at_8

set_option maxHeartbeats 4000000 in
set_option maxRecDepth 100000 in
theorem t_X8_count (l : Launch) (dC : Nat → ClassId) (dI : Nat → Nat → Nat) (cs : Nat → ClassId) (L : List Nat) (ka : Nat → Nat) (f : Nat → va_E) (h0 : Nat) (a1 : Nat) (a2 : Nat) (a3 : Nat) (a4 : Nat) (a5 : Nat) (a6 : Nat) (a7 : Nat) (a8 : Nat) (a9 : Nat) (j_faultKind : Int32) (j_horseCount : Int32) (j_tabletCount : Int32) (j_riderCount : Int32) (j_lineLength : Int32) (j_hour : Int32) (b1 : Nat) (i_len : Int32) (p0 : Int32) (sz : Nat) (hT : tO L ka cs f) (hY : yK L ka a2 a3 a4 a5 a6 a7 a8 a9) : Met l yX8_count wsX8_count ({ frames := 2, cells := 0, slots := 0, locals := 45 }) (va_Pc [.ref h0, .int p0] (cP dC dI ([(h0, .inr (8, [.ref a1, .ref a2, .ref a3, .ref a4, .ref a5, .ref a6, .ref a7, .ref a8, .ref a9, .int j_faultKind, .int j_horseCount, .int j_tabletCount, .int j_riderCount, .int j_lineLength, .int j_hour])), (a1, .inr (7, [.ref b1, .int i_len]))] ++ va_pl L f) (tyC cs) sz)) (vp_Si (fun _ => True)) 0 0 (fun _ => False) := by
  refine Met.ofW (cc := cX8_count) (maxL := 2) (ret := (some .int)) (by decide) rfl ?_
  intro p e s m args below meth c s₁ B hml hv
  obtain ⟨rfl, hsz, hP, hK, hD0, hN⟩ := hv
  have hx := B.exec
  have hb := B.bytes
  have hr := B.returns
  have hts := atoms_spec (ws := wsX8_count) B.pre
  have hown : s.vm.findClass RX8 = some m.cls := findClass_of_methodNamed B.named
  have hlocks := B.notSynchronized
  subst hsz
  have hin7 : ∀ w ∈ u_ws RX7 TX7 2, w ∈ wsX8_count := by decide +kernel
  have hin8 : ∀ w ∈ u_ws RX8 TX8 15, w ∈ wsX8_count := by decide +kernel
  have hD := hD0
  have hP : va_P (dC, dI) vwCl ([(h0, .inr (8, [.ref a1, .ref a2, .ref a3, .ref a4, .ref a5, .ref a6, .ref a7, .ref a8, .ref a9, .int j_faultKind, .int j_horseCount, .int j_tabletCount, .int j_riderCount, .int j_lineLength, .int j_hour])), (a1, .inr (7, [.ref b1, .int i_len]))] ++ va_pl L f) s.heap := hP
  have hl := lv_entry ([.ref h0, .int p0]) (n := 2) (Nat.le_of_ble_eq_true rfl)
  rw [lg_entry_eq]
  generalize (lg_sl ([.ref h0, .int p0]) ++ List.replicate (2 - (lg_sl ([.ref h0, .int p0])).length) Slot.unset).toArray = ls at hl ⊢
  have hl : lv_has ls 2 [(0, .ref h0), (1, .int p0)] := hl
  refine lv_iload_n hx hb dX8_count_0 rfl (lv_at hl 1 rfl) ?_
  by_cases c_1 : p0 = 0
  · refine lv_tableIn (tgt := 40) (off := 39) hx hb dX8_count_1 (by rw [c_1]; decide) (by rw [c_1]; decide) (by rw [c_1]; decide) (by decide) ?_
    refine lv_aload_n hx hb dX8_count_40 rfl (lv_at hl 0 rfl) ?_
    refine va_get (D := (dC, dI)) (ci := 8) (v := .int j_hour) (C := RX8) (T := TX8) (N := 15) hx hb hts hin8 hown hK hP 0 rfl rfl 14 (by decide) (hts (.fieldLink RX8 140 "YamRiders" "hour" "I") (by decide +kernel)) (fun _ h9 => h9) rfl dX8_count_41 ?_
    exact W.iret (v := j_hour) hx hb hr (fun t9 ht hW => ⟨_, rfl, trivial, ht⟩) (fun q h => nomatch h) dX8_count_44
  by_cases c_2 : p0 = 1
  · refine lv_tableIn (tgt := 45) (off := 44) hx hb dX8_count_1 (by rw [c_2]; decide) (by rw [c_2]; decide) (by rw [c_2]; decide) (by decide) ?_
    refine lv_aload_n hx hb dX8_count_45 rfl (lv_at hl 0 rfl) ?_
    refine va_get (D := (dC, dI)) (ci := 8) (v := .int j_horseCount) (C := RX8) (T := TX8) (N := 15) hx hb hts hin8 hown hK hP 0 rfl rfl 10 (by decide) (hts (.fieldLink RX8 110 "YamRiders" "horseCount" "I") (by decide +kernel)) (fun _ h9 => h9) rfl dX8_count_46 ?_
    exact W.iret (v := j_horseCount) hx hb hr (fun t9 ht hW => ⟨_, rfl, trivial, ht⟩) (fun q h => nomatch h) dX8_count_49
  by_cases c_3 : p0 = 2
  · refine lv_tableIn (tgt := 50) (off := 49) hx hb dX8_count_1 (by rw [c_3]; decide) (by rw [c_3]; decide) (by rw [c_3]; decide) (by decide) ?_
    refine lv_aload_n hx hb dX8_count_50 rfl (lv_at hl 0 rfl) ?_
    refine va_get (D := (dC, dI)) (ci := 8) (v := .int j_tabletCount) (C := RX8) (T := TX8) (N := 15) hx hb hts hin8 hown hK hP 0 rfl rfl 11 (by decide) (hts (.fieldLink RX8 115 "YamRiders" "tabletCount" "I") (by decide +kernel)) (fun _ h9 => h9) rfl dX8_count_51 ?_
    exact W.iret (v := j_tabletCount) hx hb hr (fun t9 ht hW => ⟨_, rfl, trivial, ht⟩) (fun q h => nomatch h) dX8_count_54
  by_cases c_4 : p0 = 3
  · refine lv_tableIn (tgt := 55) (off := 54) hx hb dX8_count_1 (by rw [c_4]; decide) (by rw [c_4]; decide) (by rw [c_4]; decide) (by decide) ?_
    refine lv_aload_n hx hb dX8_count_55 rfl (lv_at hl 0 rfl) ?_
    refine va_get (D := (dC, dI)) (ci := 8) (v := .int j_riderCount) (C := RX8) (T := TX8) (N := 15) hx hb hts hin8 hown hK hP 0 rfl rfl 12 (by decide) (hts (.fieldLink RX8 124 "YamRiders" "riderCount" "I") (by decide +kernel)) (fun _ h9 => h9) rfl dX8_count_56 ?_
    exact W.iret (v := j_riderCount) hx hb hr (fun t9 ht hW => ⟨_, rfl, trivial, ht⟩) (fun q h => nomatch h) dX8_count_59
  by_cases c_5 : p0 = 4
  · refine lv_tableIn (tgt := 60) (off := 59) hx hb dX8_count_1 (by rw [c_5]; decide) (by rw [c_5]; decide) (by rw [c_5]; decide) (by decide) ?_
    refine lv_aload_n hx hb dX8_count_60 rfl (lv_at hl 0 rfl) ?_
    have hPc := hP.part (cx := [(h0, .inr (8, [.ref a1, .ref a2, .ref a3, .ref a4, .ref a5, .ref a6, .ref a7, .ref a8, .ref a9, .int j_faultKind, .int j_horseCount, .int j_tabletCount, .int j_riderCount, .int j_lineLength, .int j_hour]))]) [0] rfl
    have hDc := hD.part (cx := [(h0, .inr (8, [.ref a1, .ref a2, .ref a3, .ref a4, .ref a5, .ref a6, .ref a7, .ref a8, .ref a9, .int j_faultKind, .int j_horseCount, .int j_tabletCount, .int j_riderCount, .int j_lineLength, .int j_hour]))]) [0] (by decide) rfl
    have hKc := hK
    refine cs_i (va_runV (As := []) (rest := []) ⟨hx, hb, hml, hown, hts⟩ (t_X8_ridersUnderWay l dC dI cs L ka f h0 a1 a2 a3 a4 a5 a6 a7 a8 a9 j_faultKind j_horseCount j_tabletCount j_riderCount j_lineLength j_hour s.heap.size hT hY) (cwV 0 hts gX8_count_X8_ridersUnderWay rfl rfl rfl (by decide +kernel) ⟨Nat.le_of_ble_eq_true rfl, Nat.le_of_ble_eq_true rfl⟩) ⟨c_blind, va_recv hKc hPc (ci := 8) (q0 := 0) rfl rfl, c_pre hPc hKc hDc hN⟩ rfl rfl hl.1 rfl (lv_room (Nat.le_of_ble_eq_true rfl)) dX8_count_61 ⟨Nat.le_of_ble_eq_true rfl, Nat.le_of_ble_eq_true rfl⟩) (fun r_6 hr_6 => ?_)
    exact W.iret (v := r_6) hx hb hr (fun t9 ht hW => ⟨_, rfl, trivial, ht⟩) (fun q h => nomatch h) dX8_count_64
  by_cases c_7 : p0 = 5
  · refine lv_tableIn (tgt := 65) (off := 64) hx hb dX8_count_1 (by rw [c_7]; decide) (by rw [c_7]; decide) (by rw [c_7]; decide) (by decide) ?_
    refine lv_aload_n hx hb dX8_count_65 rfl (lv_at hl 0 rfl) ?_
    refine va_get (D := (dC, dI)) (ci := 8) (v := .ref a1) (C := RX8) (T := TX8) (N := 15) hx hb hts hin8 hown hK hP 0 rfl rfl 0 (by decide) (hts (.fieldLink RX8 10 "YamRiders" "tape" "LYamRiders$Tape;") (by decide +kernel)) (fun _ h9 => h9) rfl dX8_count_66 ?_
    refine va_getN (D := (dC, dI)) (ci := 7) (v := .int i_len) (C := RX7) (T := TX7) (N := 2) hx hb hts hin7 hown hK hP 1 rfl rfl 1 (by decide) (hN.nx (.fieldLinkNest RX8 70 "YamRiders$Tape" "length" "I" "YamRiders") (by decide +kernel)) (fun _ h9 => h9) rfl dX8_count_69 ?_
    exact W.iret (v := i_len) hx hb hr (fun t9 ht hW => ⟨_, rfl, trivial, ht⟩) (fun q h => nomatch h) dX8_count_72
  refine lv_tableOut (tgt := 73) hx hb dX8_count_1 (sw_out0_5 c_1 c_2 c_3 c_4 c_5 c_7) (by decide) ?_
  refine lv_iconst (v := (-1)) hx hb dX8_count_73 (by decide) ?_
  exact W.iret (v := (-1)) hx hb hr (fun t9 ht hW => ⟨_, rfl, trivial, ht⟩) (fun q h => nomatch h) dX8_count_74

set_option maxHeartbeats 4000000 in
set_option maxRecDepth 100000 in
theorem t_X8_goesBefore (l : Launch) (dC : Nat → ClassId) (dI : Nat → Nat → Nat) (cs : Nat → ClassId) (L : List Nat) (ka : Nat → Nat) (f : Nat → va_E) (h0 : Nat) (e1 : Nat) (sz : Nat) (hT : tO L ka cs f) (hk_h0 : tp L ka 2 h0) (hk_e1 : tp L ka 2 e1) : Met l yX8_goesBefore wsX8_goesBefore ({ frames := 2, cells := 0, slots := 0, locals := 41 }) (va_Pc [.ref h0, .ref e1] (cP dC dI ([] ++ va_pl L f) (tyC cs) sz)) (vp_Si (fun r => r = 0 ∨ r = 1)) 0 0 (fun _ => False) := by
  refine Met.ofW (cc := cX8_goesBefore) (maxL := 2) (ret := (some .boolean)) (by decide) rfl ?_
  intro p e s m args below meth c s₁ B hml hv
  obtain ⟨rfl, hsz, hP, hK, hD0, hN⟩ := hv
  have hx := B.exec
  have hb := B.bytes
  have hr := B.returns
  have hts := atoms_spec (ws := wsX8_goesBefore) B.pre
  have hown : s.vm.findClass RX8 = some m.cls := findClass_of_methodNamed B.named
  have hlocks := B.notSynchronized
  subst hsz
  have hin2 : ∀ w ∈ u_ws RX2 TX2 10, w ∈ wsX8_goesBefore := by decide +kernel
  have hD := hD0
  have hP : va_P (dC, dI) vwCl ([] ++ va_pl L f) s.heap := hP
  have hl := lv_entry ([.ref h0, .ref e1]) (n := 2) (Nat.le_of_ble_eq_true rfl)
  rw [lg_entry_eq]
  generalize (lg_sl ([.ref h0, .ref e1]) ++ List.replicate (2 - (lg_sl ([.ref h0, .ref e1])).length) Slot.unset).toArray = ls at hl ⊢
  have hl : lv_has ls 2 [(0, .ref h0), (1, .ref e1)] := hl
  refine lv_aload_n hx hb dX8_goesBefore_0 rfl (lv_at hl 0 rfl) ?_
  refine lv_ifnull hx hb dX8_goesBefore_1 ?_
  refine lv_aload_n hx hb dX8_goesBefore_4 rfl (lv_at hl 1 rfl) ?_
  refine lv_ifnonnull (tgt := 10) hx hb dX8_goesBefore_5 (by decide) ?_
  refine lv_aload_n hx hb dX8_goesBefore_10 rfl (lv_at hl 0 rfl) ?_
  have hPc := hP.part (cx := []) [] rfl
  have hDc := hD.part (cx := []) [] (by decide) rfl
  have hKc := hK
  obtain ⟨x_2, x_3, o_4, o_5, x_6, x_7, x_8, o_9, x_10, x_11, hf_1, hk_o_4, hk_o_5, hq_o_9⟩ := hT.get hk_h0
  obtain ⟨q_12, hq_12⟩ := pl_at (X := []) (f := f) (e := .inr (2, [.int x_2, .int x_3, .ref o_4, .ref o_5, .int x_6, .int x_7, .int x_8, va_rf o_9, .int x_10, .int x_11])) hk_h0.1 hf_1
  refine cs_i (va_runV (As := []) (rest := []) ⟨hx, hb, hml, hown, hts⟩ (t_X2_lastStation l dC dI cs L ka f h0 s.heap.size hT hk_h0) (cwV 0 hts gX8_goesBefore_X2_lastStation rfl rfl rfl (by decide +kernel) ⟨Nat.le_of_ble_eq_true rfl, Nat.le_of_ble_eq_true rfl⟩) ⟨c_blind, va_recv hKc hPc (ci := 2) (q0 := q_12) rfl hq_12, c_pre hPc hKc hDc hN⟩ rfl rfl hl.1 rfl (lv_room (Nat.le_of_ble_eq_true rfl)) dX8_goesBefore_11 ⟨Nat.le_of_ble_eq_true rfl, Nat.le_of_ble_eq_true rfl⟩) (fun r_13 hr_13 => ?_)
  refine lv_aload_n hx hb dX8_goesBefore_14 rfl (lv_at hl 1 rfl) ?_
  have hPc := hP.part (cx := []) [] rfl
  have hDc := hD.part (cx := []) [] (by decide) rfl
  have hKc := hK
  obtain ⟨x_15, x_16, o_17, o_18, x_19, x_20, x_21, o_22, x_23, x_24, hf_14, hk_o_17, hk_o_18, hq_o_22⟩ := hT.get hk_e1
  obtain ⟨q_25, hq_25⟩ := pl_at (X := []) (f := f) (e := .inr (2, [.int x_15, .int x_16, .ref o_17, .ref o_18, .int x_19, .int x_20, .int x_21, va_rf o_22, .int x_23, .int x_24])) hk_e1.1 hf_14
  refine cs_i (va_runV (As := []) (rest := [.int r_13]) ⟨hx, hb, hml, hown, hts⟩ (t_X2_lastStation l dC dI cs L ka f e1 s.heap.size hT hk_e1) (cwV 0 hts gX8_goesBefore_X2_lastStation rfl rfl rfl (by decide +kernel) ⟨Nat.le_of_ble_eq_true rfl, Nat.le_of_ble_eq_true rfl⟩) ⟨c_blind, va_recv hKc hPc (ci := 2) (q0 := q_25) rfl hq_25, c_pre hPc hKc hDc hN⟩ rfl rfl hl.1 rfl (lv_room (Nat.le_of_ble_eq_true rfl)) dX8_goesBefore_15 ⟨Nat.le_of_ble_eq_true rfl, Nat.le_of_ble_eq_true rfl⟩) (fun r_26 hr_26 => ?_)
  refine lv_icmp_eq (tgt := 38) hx hb dX8_goesBefore_18 (by decide) (fun c_27 => ?_) (fun c_27 => ?_)
  · refine lv_aload_n hx hb dX8_goesBefore_38 rfl (lv_at hl 0 rfl) ?_
    obtain ⟨q_28, hq_28⟩ := pl_at (X := []) (f := f) (e := .inr (2, [.int x_2, .int x_3, .ref o_4, .ref o_5, .int x_6, .int x_7, .int x_8, va_rf o_9, .int x_10, .int x_11])) hk_h0.1 hf_1
    refine va_getN (D := (dC, dI)) (ci := 2) (v := .int x_3) (C := RX2) (T := TX2) (N := 10) hx hb hts hin2 hown hK hP q_28 hq_28 rfl 1 (by decide) (hN.nx (.fieldLinkNest RX8 270 "YamRiders$Rider" "rank" "I" "YamRiders") (by decide +kernel)) (fun _ h9 => h9) rfl dX8_goesBefore_39 ?_
    refine lv_aload_n hx hb dX8_goesBefore_42 rfl (lv_at hl 1 rfl) ?_
    obtain ⟨q_29, hq_29⟩ := pl_at (X := []) (f := f) (e := .inr (2, [.int x_15, .int x_16, .ref o_17, .ref o_18, .int x_19, .int x_20, .int x_21, va_rf o_22, .int x_23, .int x_24])) hk_e1.1 hf_14
    refine va_getN (D := (dC, dI)) (ci := 2) (v := .int x_16) (C := RX2) (T := TX2) (N := 10) hx hb hts hin2 hown hK hP q_29 hq_29 rfl 1 (by decide) (hN.nx (.fieldLinkNest RX8 270 "YamRiders$Rider" "rank" "I" "YamRiders") (by decide +kernel)) (fun _ h9 => h9) rfl dX8_goesBefore_43 ?_
    refine lv_icmp_eq (tgt := 66) hx hb dX8_goesBefore_46 (by decide) (fun c_30 => ?_) (fun c_30 => ?_)
    · refine lv_aload_n hx hb dX8_goesBefore_66 rfl (lv_at hl 0 rfl) ?_
      obtain ⟨q_31, hq_31⟩ := pl_at (X := []) (f := f) (e := .inr (2, [.int x_2, .int x_3, .ref o_4, .ref o_5, .int x_6, .int x_7, .int x_8, va_rf o_9, .int x_10, .int x_11])) hk_h0.1 hf_1
      refine va_getN (D := (dC, dI)) (ci := 2) (v := .int x_8) (C := RX2) (T := TX2) (N := 10) hx hb hts hin2 hown hK hP q_31 hq_31 rfl 6 (by decide) (hN.nx (.fieldLinkNest RX8 184 "YamRiders$Rider" "came" "I" "YamRiders") (by decide +kernel)) (fun _ h9 => h9) rfl dX8_goesBefore_67 ?_
      refine lv_aload_n hx hb dX8_goesBefore_70 rfl (lv_at hl 1 rfl) ?_
      obtain ⟨q_32, hq_32⟩ := pl_at (X := []) (f := f) (e := .inr (2, [.int x_15, .int x_16, .ref o_17, .ref o_18, .int x_19, .int x_20, .int x_21, va_rf o_22, .int x_23, .int x_24])) hk_e1.1 hf_14
      refine va_getN (D := (dC, dI)) (ci := 2) (v := .int x_21) (C := RX2) (T := TX2) (N := 10) hx hb hts hin2 hown hK hP q_32 hq_32 rfl 6 (by decide) (hN.nx (.fieldLinkNest RX8 184 "YamRiders$Rider" "came" "I" "YamRiders") (by decide +kernel)) (fun _ h9 => h9) rfl dX8_goesBefore_71 ?_
      refine lv_icmp_ge (tgt := 81) hx hb dX8_goesBefore_74 (by decide) (fun c_33 => ?_) (fun c_33 => ?_)
      · refine lv_iconst (v := 0) hx hb dX8_goesBefore_81 (by decide) ?_
        exact W.zret (v := 0) hx hb hr rfl (fun t9 ht hW => ⟨_, rfl, (Or.inl rfl), ht⟩) (fun q h => nomatch h) dX8_goesBefore_82
      · refine lv_iconst (v := 1) hx hb dX8_goesBefore_77 (by decide) ?_
        refine lv_goto (tgt := 82) hx hb dX8_goesBefore_78 (by decide) ?_
        exact W.zret (v := 1) hx hb hr rfl (fun t9 ht hW => ⟨_, rfl, (Or.inr rfl), ht⟩) (fun q h => nomatch h) dX8_goesBefore_82
    · refine lv_aload_n hx hb dX8_goesBefore_49 rfl (lv_at hl 0 rfl) ?_
      obtain ⟨q_34, hq_34⟩ := pl_at (X := []) (f := f) (e := .inr (2, [.int x_2, .int x_3, .ref o_4, .ref o_5, .int x_6, .int x_7, .int x_8, va_rf o_9, .int x_10, .int x_11])) hk_h0.1 hf_1
      refine va_getN (D := (dC, dI)) (ci := 2) (v := .int x_3) (C := RX2) (T := TX2) (N := 10) hx hb hts hin2 hown hK hP q_34 hq_34 rfl 1 (by decide) (hN.nx (.fieldLinkNest RX8 270 "YamRiders$Rider" "rank" "I" "YamRiders") (by decide +kernel)) (fun _ h9 => h9) rfl dX8_goesBefore_50 ?_
      refine lv_aload_n hx hb dX8_goesBefore_53 rfl (lv_at hl 1 rfl) ?_
      obtain ⟨q_35, hq_35⟩ := pl_at (X := []) (f := f) (e := .inr (2, [.int x_15, .int x_16, .ref o_17, .ref o_18, .int x_19, .int x_20, .int x_21, va_rf o_22, .int x_23, .int x_24])) hk_e1.1 hf_14
      refine va_getN (D := (dC, dI)) (ci := 2) (v := .int x_16) (C := RX2) (T := TX2) (N := 10) hx hb hts hin2 hown hK hP q_35 hq_35 rfl 1 (by decide) (hN.nx (.fieldLinkNest RX8 270 "YamRiders$Rider" "rank" "I" "YamRiders") (by decide +kernel)) (fun _ h9 => h9) rfl dX8_goesBefore_54 ?_
      refine lv_icmp_ge (tgt := 64) hx hb dX8_goesBefore_57 (by decide) (fun c_36 => ?_) (fun c_36 => ?_)
      · refine lv_iconst (v := 0) hx hb dX8_goesBefore_64 (by decide) ?_
        exact W.zret (v := 0) hx hb hr rfl (fun t9 ht hW => ⟨_, rfl, (Or.inl rfl), ht⟩) (fun q h => nomatch h) dX8_goesBefore_65
      · refine lv_iconst (v := 1) hx hb dX8_goesBefore_60 (by decide) ?_
        refine lv_goto (tgt := 65) hx hb dX8_goesBefore_61 (by decide) ?_
        exact W.zret (v := 1) hx hb hr rfl (fun t9 ht hW => ⟨_, rfl, (Or.inr rfl), ht⟩) (fun q h => nomatch h) dX8_goesBefore_65
  · refine lv_aload_n hx hb dX8_goesBefore_21 rfl (lv_at hl 0 rfl) ?_
    have hPc := hP.part (cx := []) [] rfl
    have hDc := hD.part (cx := []) [] (by decide) rfl
    have hKc := hK
    obtain ⟨q_37, hq_37⟩ := pl_at (X := []) (f := f) (e := .inr (2, [.int x_2, .int x_3, .ref o_4, .ref o_5, .int x_6, .int x_7, .int x_8, va_rf o_9, .int x_10, .int x_11])) hk_h0.1 hf_1
    refine cs_i (va_runV (As := []) (rest := []) ⟨hx, hb, hml, hown, hts⟩ (t_X2_lastStation l dC dI cs L ka f h0 s.heap.size hT hk_h0) (cwV 0 hts gX8_goesBefore_X2_lastStation rfl rfl rfl (by decide +kernel) ⟨Nat.le_of_ble_eq_true rfl, Nat.le_of_ble_eq_true rfl⟩) ⟨c_blind, va_recv hKc hPc (ci := 2) (q0 := q_37) rfl hq_37, c_pre hPc hKc hDc hN⟩ rfl rfl hl.1 rfl (lv_room (Nat.le_of_ble_eq_true rfl)) dX8_goesBefore_22 ⟨Nat.le_of_ble_eq_true rfl, Nat.le_of_ble_eq_true rfl⟩) (fun r_38 hr_38 => ?_)
    refine lv_aload_n hx hb dX8_goesBefore_25 rfl (lv_at hl 1 rfl) ?_
    have hPc := hP.part (cx := []) [] rfl
    have hDc := hD.part (cx := []) [] (by decide) rfl
    have hKc := hK
    obtain ⟨q_39, hq_39⟩ := pl_at (X := []) (f := f) (e := .inr (2, [.int x_15, .int x_16, .ref o_17, .ref o_18, .int x_19, .int x_20, .int x_21, va_rf o_22, .int x_23, .int x_24])) hk_e1.1 hf_14
    refine cs_i (va_runV (As := []) (rest := [.int r_38]) ⟨hx, hb, hml, hown, hts⟩ (t_X2_lastStation l dC dI cs L ka f e1 s.heap.size hT hk_e1) (cwV 0 hts gX8_goesBefore_X2_lastStation rfl rfl rfl (by decide +kernel) ⟨Nat.le_of_ble_eq_true rfl, Nat.le_of_ble_eq_true rfl⟩) ⟨c_blind, va_recv hKc hPc (ci := 2) (q0 := q_39) rfl hq_39, c_pre hPc hKc hDc hN⟩ rfl rfl hl.1 rfl (lv_room (Nat.le_of_ble_eq_true rfl)) dX8_goesBefore_26 ⟨Nat.le_of_ble_eq_true rfl, Nat.le_of_ble_eq_true rfl⟩) (fun r_40 hr_40 => ?_)
    refine lv_icmp_ge (tgt := 36) hx hb dX8_goesBefore_29 (by decide) (fun c_41 => ?_) (fun c_41 => ?_)
    · refine lv_iconst (v := 0) hx hb dX8_goesBefore_36 (by decide) ?_
      exact W.zret (v := 0) hx hb hr rfl (fun t9 ht hW => ⟨_, rfl, (Or.inl rfl), ht⟩) (fun q h => nomatch h) dX8_goesBefore_37
    · refine lv_iconst (v := 1) hx hb dX8_goesBefore_32 (by decide) ?_
      refine lv_goto (tgt := 37) hx hb dX8_goesBefore_33 (by decide) ?_
      exact W.zret (v := 1) hx hb hr rfl (fun t9 ht hW => ⟨_, rfl, (Or.inr rfl), ht⟩) (fun q h => nomatch h) dX8_goesBefore_37

set_option maxHeartbeats 4000000 in
set_option maxRecDepth 100000 in
theorem t_X8_goesBefore_n (l : Launch) (dC : Nat → ClassId) (dI : Nat → Nat → Nat) (cs : Nat → ClassId) (L : List Nat) (ka : Nat → Nat) (f : Nat → va_E) (h0 : Nat) (sz : Nat) (hT : tO L ka cs f) (hk_h0 : tp L ka 2 h0) : Met l yX8_goesBefore wsX8_goesBefore ({ frames := 0, cells := 0, slots := 0, locals := 0 }) (va_Pc [.ref h0, .null] (cP dC dI ([] ++ va_pl L f) (tyC cs) sz)) (vp_Si (fun r => r = 0)) 0 0 (fun _ => False) := by
  refine Met.ofW (cc := cX8_goesBefore) (maxL := 2) (ret := (some .boolean)) (by decide) rfl ?_
  intro p e s m args below meth c s₁ B hml hv
  obtain ⟨rfl, hsz, hP, hK, hD0, hN⟩ := hv
  have hx := B.exec
  have hb := B.bytes
  have hr := B.returns
  have hts := atoms_spec (ws := wsX8_goesBefore) B.pre
  have hown : s.vm.findClass RX8 = some m.cls := findClass_of_methodNamed B.named
  have hlocks := B.notSynchronized
  subst hsz
  have hD := hD0
  have hP : va_P (dC, dI) vwCl ([] ++ va_pl L f) s.heap := hP
  have hl := lv_entry ([.ref h0, .null]) (n := 2) (Nat.le_of_ble_eq_true rfl)
  rw [lg_entry_eq]
  generalize (lg_sl ([.ref h0, .null]) ++ List.replicate (2 - (lg_sl ([.ref h0, .null])).length) Slot.unset).toArray = ls at hl ⊢
  have hl : lv_has ls 2 [(0, .ref h0), (1, .null)] := hl
  refine lv_aload_n hx hb dX8_goesBefore_0 rfl (lv_at hl 0 rfl) ?_
  refine lv_ifnull hx hb dX8_goesBefore_1 ?_
  refine lv_aload_nN hx hb dX8_goesBefore_4 rfl (lv_at hl 1 rfl) ?_
  refine lv_ifnonnullN hx hb dX8_goesBefore_5 ?_
  refine lv_iconst (v := 0) hx hb dX8_goesBefore_8 (by decide) ?_
  exact W.zret (v := 0) hx hb hr rfl (fun t9 ht hW => ⟨_, rfl, rfl, ht⟩) (fun q h => nomatch h) dX8_goesBefore_9
