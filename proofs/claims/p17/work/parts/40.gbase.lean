def sp_st (s : Int32) : Int32 := if s < 0 then 0 else if 12 ≤ s then 0 else 1
theorem st_of {u : Int32} (h : ¬ sp_st u = 0) : ∃ j : Nat, j < 12 ∧ u = nI j := by
  unfold sp_st at h
  by_cases h1 : u < 0
  · rw [if_pos h1] at h; exact absurd rfl h
  · rw [if_neg h1] at h
    by_cases h2 : (12 : Int32) ≤ u
    · rw [if_pos h2] at h; exact absurd rfl h
    · obtain ⟨j, hj, rfl⟩ := nI_of h1
      refine ⟨j, ?_, rfl⟩
      rcases Nat.lt_or_ge j 12 with q | q
      · exact q
      · exact absurd (show nI 12 ≤ nI j from nI_le q hj) h2
theorem st_in {u : Int32} (h : ¬ sp_st u = 0) : vp_in u 12 := by
  obtain ⟨j, hj, rfl⟩ := st_of h
  exact vp_in_nI hj (by decide)

theorem ix144 {u v : Int32} (hu : ¬ sp_st u = 0) (hv : ¬ sp_st v = 0) : vp_in (12 * u + v) 144 := by
  obtain ⟨a, ha, rfl⟩ := st_of hu
  obtain ⟨b, hb, rfl⟩ := st_of hv
  rw [show (12 : Int32) = nI 12 from rfl, pk_mul, nI_add]
  exact vp_in_nI (by omega) (by decide)

set_option maxHeartbeats 4000000 in
set_option maxRecDepth 100000 in
theorem c_X8_isStation (l : Launch) (dC : Nat → ClassId) (dI : Nat → Nat → Nat) (p0 : Int32) (sz : Nat) : Met l yX8_isStation wsX8_isStation ({ frames := 0, cells := 0, slots := 0, locals := 0 }) (va_Pc [.int p0] (cP dC dI [] [] sz)) (vp_Si (fun r => r = sp_st p0)) 0 0 (fun _ => False) := by
  refine Met.ofW (cc := cX8_isStation) (maxL := 1) (ret := (some .boolean)) (by decide) rfl ?_
  intro p e s m args below meth c s₁ B hml hv
  obtain ⟨rfl, hsz, hP, hK, hD0, hN⟩ := hv
  have hx := B.exec
  have hb := B.bytes
  have hr := B.returns
  have hts := atoms_spec (ws := wsX8_isStation) B.pre
  have hown : s.vm.findClass RX8 = some m.cls := findClass_of_methodNamed B.named
  have hlocks := B.notSynchronized
  subst hsz
  have hD := hD0
  have hP : va_P (dC, dI) vwCl [] s.heap := hP
  have hl := lv_entry ([.int p0]) (n := 1) (Nat.le_of_ble_eq_true rfl)
  rw [lg_entry_eq]
  generalize (lg_sl ([.int p0]) ++ List.replicate (1 - (lg_sl ([.int p0])).length) Slot.unset).toArray = ls at hl ⊢
  have hl : lv_has ls 1 [(0, .int p0)] := hl
  refine lv_iload_n hx hb dX8_isStation_0 rfl (lv_at hl 0 rfl) ?_
  refine lv_if_lt (tgt := 14) hx hb dX8_isStation_1 (by decide) (fun c_1 => ?_) (fun c_1 => ?_)
  · refine lv_iconst (v := 0) hx hb dX8_isStation_14 (by decide) ?_
    exact W.zret (v := 0) hx hb hr rfl (fun t9 ht hW => ⟨_, rfl, (by unfold sp_st; rw [if_pos c_1]), ht⟩) (fun q h => nomatch h) dX8_isStation_15
  · refine lv_iload_n hx hb dX8_isStation_4 rfl (lv_at hl 0 rfl) ?_
    refine lv_bipush (v := 12) hx hb dX8_isStation_5 (by decide) ?_
    refine lv_icmp_ge (tgt := 14) hx hb dX8_isStation_7 (by decide) (fun c_2 => ?_) (fun c_2 => ?_)
    · refine lv_iconst (v := 0) hx hb dX8_isStation_14 (by decide) ?_
      exact W.zret (v := 0) hx hb hr rfl (fun t9 ht hW => ⟨_, rfl, (by unfold sp_st; rw [if_neg c_1, if_pos c_2]), ht⟩) (fun q h => nomatch h) dX8_isStation_15
    · refine lv_iconst (v := 1) hx hb dX8_isStation_10 (by decide) ?_
      refine lv_goto (tgt := 15) hx hb dX8_isStation_11 (by decide) ?_
      exact W.zret (v := 1) hx hb hr rfl (fun t9 ht hW => ⟨_, rfl, (by unfold sp_st; rw [if_neg c_1, if_neg c_2]), ht⟩) (fun q h => nomatch h) dX8_isStation_15

set_option maxHeartbeats 4000000 in
set_option maxRecDepth 100000 in
theorem c_X9_isStation (l : Launch) (dC : Nat → ClassId) (dI : Nat → Nat → Nat) (p0 : Int32) (sz : Nat) : Met l yX9_isStation wsX9_isStation ({ frames := 0, cells := 0, slots := 0, locals := 0 }) (va_Pc [.int p0] (cP dC dI [] [] sz)) (vp_Si (fun r => r = sp_st p0)) 0 0 (fun _ => False) := by
  refine Met.ofW (cc := cX9_isStation) (maxL := 1) (ret := (some .boolean)) (by decide) rfl ?_
  intro p e s m args below meth c s₁ B hml hv
  obtain ⟨rfl, hsz, hP, hK, hD0, hN⟩ := hv
  have hx := B.exec
  have hb := B.bytes
  have hr := B.returns
  have hts := atoms_spec (ws := wsX9_isStation) B.pre
  have hown : s.vm.findClass RX9 = some m.cls := findClass_of_methodNamed B.named
  have hlocks := B.notSynchronized
  subst hsz
  have hD := hD0
  have hP : va_P (dC, dI) vwCl [] s.heap := hP
  have hl := lv_entry ([.int p0]) (n := 1) (Nat.le_of_ble_eq_true rfl)
  rw [lg_entry_eq]
  generalize (lg_sl ([.int p0]) ++ List.replicate (1 - (lg_sl ([.int p0])).length) Slot.unset).toArray = ls at hl ⊢
  have hl : lv_has ls 1 [(0, .int p0)] := hl
  refine lv_iload_n hx hb dX9_isStation_0 rfl (lv_at hl 0 rfl) ?_
  refine lv_if_lt (tgt := 14) hx hb dX9_isStation_1 (by decide) (fun c_1 => ?_) (fun c_1 => ?_)
  · refine lv_iconst (v := 0) hx hb dX9_isStation_14 (by decide) ?_
    exact W.zret (v := 0) hx hb hr rfl (fun t9 ht hW => ⟨_, rfl, (by unfold sp_st; rw [if_pos c_1]), ht⟩) (fun q h => nomatch h) dX9_isStation_15
  · refine lv_iload_n hx hb dX9_isStation_4 rfl (lv_at hl 0 rfl) ?_
    refine lv_bipush (v := 12) hx hb dX9_isStation_5 (by decide) ?_
    refine lv_icmp_ge (tgt := 14) hx hb dX9_isStation_7 (by decide) (fun c_2 => ?_) (fun c_2 => ?_)
    · refine lv_iconst (v := 0) hx hb dX9_isStation_14 (by decide) ?_
      exact W.zret (v := 0) hx hb hr rfl (fun t9 ht hW => ⟨_, rfl, (by unfold sp_st; rw [if_neg c_1, if_pos c_2]), ht⟩) (fun q h => nomatch h) dX9_isStation_15
    · refine lv_iconst (v := 1) hx hb dX9_isStation_10 (by decide) ?_
      refine lv_goto (tgt := 15) hx hb dX9_isStation_11 (by decide) ?_
      exact W.zret (v := 1) hx hb hr rfl (fun t9 ht hW => ⟨_, rfl, (by unfold sp_st; rw [if_neg c_1, if_neg c_2]), ht⟩) (fun q h => nomatch h) dX9_isStation_15

theorem g_in {x : Int32} {n j : Nat} (h : j < n) (hn : n < 2 ^ 31) (e : x = nI j) : vp_in x n := by rw [e]; exact vp_in_nI h hn
theorem hz_lt {n : Nat} (h : n ≤ 60) (c : ¬ nI n = 60) : n < 60 := by
  rcases Nat.lt_or_ge n 60 with q | q
  · exact q
  · exact absurd (show nI n = nI 60 by rw [show n = 60 by omega]) c
theorem ix240 {T k : Nat} (hT : T < 20) (hk : k < 12) {c : Int32} (hc : c = nI k) : vp_in (12 * nI T + c) 240 := by
  rw [hc, show (12 : Int32) = nI 12 from rfl, pk_mul, nI_add]
  exact vp_in_nI (by omega) (by decide)
