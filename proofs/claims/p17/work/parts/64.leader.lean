theorem gt_n {k n : Nat} (h : ¬ nI n < nI k) (hn : n < 2 ^ 31) (hk : k < 2 ^ 31) : k ≤ n := (nI_leI hk hn).mp (Int32.not_lt.mp h)

set_option maxHeartbeats 4000000 in
set_option maxRecDepth 100000 in
theorem e_J7_fill (l : Launch) (dC : Nat → ClassId) (dI : Nat → Nat → Nat) (cs : Nat → ClassId) (L : List Nat) (ka : Nat → Nat) (ix : Nat → Nat) (ad : Nat → Nat → Nat) (n0 : Nat) (n6 : Nat) (n2 : Nat) (S : Nat → Nat → Nat → Int32) (f : Nat → va_E) (i9 : Nat) (b1 : Nat) (p0 : Int32) (sz : Nat) (hT : tB L ka ix ad cs n0 n6 n2 S f) (hk_b1 : tpx L ka ix 45 i9 b1) (hlt_i9 : i9 < 12) : Met l yJ7_fill_53178 wsJ7_fill_53178 ({ frames := 0, cells := 0, slots := 0, locals := 0 }) (va_Pc [.ref b1, .int p0] (cP dC dI ([] ++ va_pl L f) (tyC cs) sz)) (va_Qv (fun (_ : Unit) => True) (fun (_ : Unit) t9 => ∃ (S2 : Nat → Nat → Nat → Int32) (f2 : Nat → va_E), (tB L ka ix ad cs n0 n6 n2 S2 f2) ∧ (AG S S2) ∧ cQ dC dI ([] ++ va_pl L f2) [] (va_A ([] ++ va_pl L f) sz) t9) (va_A ([] ++ va_pl L f) sz)) 0 0 (va_A ([] ++ va_pl L f) sz) := by
  refine Met.ofW (cc := cJ7_fill_53178) (maxL := 4) (ret := none) (by decide) rfl ?_
  intro p e s m args below meth c s₁ B hml hv
  obtain ⟨rfl, hsz, hP, hK, hD0, hN⟩ := hv
  have hx := B.exec
  have hb := B.bytes
  have hr := B.returns
  have hts := atoms_spec (ws := wsJ7_fill_53178) B.pre
  have hown : s.vm.findClass RJ7 = some m.cls := findClass_of_methodNamed B.named
  have hlocks := B.notSynchronized
  subst hsz
  have hD := hD0.self (sz := s.heap.size)
  generalize hAe : va_A ([] ++ va_pl L f) s.heap.size = A at hD ⊢
  have hA : ∀ q : Nat, s.heap.size ≤ q → A q := fun q h => by rw [← hAe]; exact Or.inr h
  have hS : va_S A s.heap s.heap [] := va_S.rf
  have hP : va_P (dC, dI) vwCl ([] ++ va_pl L f) s.heap := hP
  have hl := lv_entry ([.ref b1, .int p0]) (n := 4) (Nat.le_of_ble_eq_true rfl)
  rw [lg_entry_eq]
  generalize (lg_sl ([.ref b1, .int p0]) ++ List.replicate (4 - (lg_sl ([.ref b1, .int p0])).length) Slot.unset).toArray = ls at hl ⊢
  have hl : lv_has ls 4 [(0, .ref b1), (1, .int p0)] := hl
  refine lv_iconst (v := 0) hx hb dJ7_fill_53178_0 (by decide) ?_
  refine lv_istore_n (lv' := [(2, .int 0), (0, .ref b1), (1, .int p0)]) hx hb dJ7_fill_53178_1 rfl hl (by decide) rfl (fun ls hl => ?_)
  refine lv_aload_n hx hb dJ7_fill_53178_2 rfl (lv_at hl 1 rfl) ?_
  have hf_1 : f b1 = .inl (cs 0, 12, .inl (S 720 i9)) := hT.get hk_b1
  obtain ⟨q_2, hq_2⟩ := pl_at (X := []) (f := f) (e := .inl (cs 0, 12, .inl (S 720 i9))) hk_b1.1 hf_1
  refine va_alen (v := 12) hx hb hK hP q_2 0 hq_2 rfl rfl dJ7_fill_53178_3 ?_
  refine lv_istore_n (lv' := [(3, .int 12), (2, .int 0), (0, .ref b1), (1, .int p0)]) hx hb dJ7_fill_53178_4 rfl hl (by decide) rfl (fun ls hl => ?_)
  have HL : ∀ (n k : Nat) (S8 : Nat → Nat → Nat → Int32), k ≤ 12 → 12 + 1 ≤ k + n → (AG S S8) → ∀ (f_3 : Nat → va_E) (H : Heap) (locs : List Loc), tB L ka ix ad cs n0 n6 n2 S8 f_3 → va_P (dC, dI) vwCl ([] ++ va_pl L f_3) H → va_D A ([] ++ va_pl L f_3) → va_S A s.heap H locs → ∀ ls : Array Slot, lv_has ls 4 [(0, .ref b1), (1, .int p0), (2, .int (nI k)), (3, .int 12)] → W p l e (headSpec wsJ7_fill_53178 ({ frames := 0, cells := 0, slots := 0, locals := 0 })).room s m ([.ref b1, .int p0]).toArray below meth c H locs 0 0 (MQ below (va_Qv (fun (_ : Unit) => True) (fun (_ : Unit) t9 => ∃ (S2 : Nat → Nat → Nat → Int32) (f2 : Nat → va_E), (tB L ka ix ad cs n0 n6 n2 S2 f2) ∧ (AG S S2) ∧ cQ dC dI ([] ++ va_pl L f2) [] A t9) A) ([.ref b1, .int p0]).toArray s 0 0 A) (F0 m 5 ls []) := by
    intro n
    induction n with
    | zero => intro k S8 h1 h2; exact absurd h2 (by omega)
    | succ n ih =>
      intro k S8 hk hn hFrS8 f_3 H locs hT hP hD hS ls hl
      refine lv_iload_n hx hb dJ7_fill_53178_5 rfl (lv_at hl 2 rfl) ?_
      refine lv_iload_n hx hb dJ7_fill_53178_6 rfl (lv_at hl 3 rfl) ?_
      refine lv_icmp_ge (tgt := 20) hx hb dJ7_fill_53178_7 (by decide) (fun c_4 => ?_) (fun c_4 => ?_)
      · have hke : k = 12 := by
          rcases Nat.lt_or_ge k 12 with q | q
          · exact absurd c_4 (nI_ge q (by decide))
          · omega
        have hP9 := hP.part (cx := []) [] rfl
        have hD9 := hD.part (cx := []) [] (by decide) rfl
        have hK9 := hK.sub (tys' := []) [] rfl
        refine W.widen (k := 0) (n := 0) (Nat.le_of_ble_eq_true rfl) (Nat.le_of_ble_eq_true rfl) ?_
        exact W.vret hx hb hr (fun t9 ht hW => ⟨⟨(), rfl, trivial, S8, f_3, hT, hFrS8, by rw [ht]; exact hP9, va_K.moved hW.alike hK9, hD9⟩, hS.F ht⟩) hS.2.2 dJ7_fill_53178_20
      · have hlt : k < 12 := by
          rcases Nat.lt_or_ge k 12 with q | q
          · exact q
          · exact absurd (show nI 12 ≤ nI k from nI_le q (by omega)) c_4
        refine lv_aload_n hx hb dJ7_fill_53178_10 rfl (lv_at hl 0 rfl) ?_
        refine lv_iload_n hx hb dJ7_fill_53178_11 rfl (lv_at hl 2 rfl) ?_
        refine lv_iload_n hx hb dJ7_fill_53178_12 rfl (lv_at hl 1 rfl) ?_
        have hf_5 : f_3 b1 = .inl (cs 0, 12, .inl (S8 720 i9)) := hT.get hk_b1
        obtain ⟨q_6, hq_6⟩ := pl_at (X := []) (f := f_3) (e := .inl (cs 0, 12, .inl (S8 720 i9))) hk_b1.1 hf_5
        refine va_iast hx hb hK hP hD hS q_6 0 hq_6 rfl (vp_in_nI (by omega) (by omega)) dJ7_fill_53178_13 (fun H locs hP9 hD9 hS => ?_)
        have hs_7 := pl_st (.inl (cs 0, 12, .inl (upd (S8 720 i9) (nI k).toNatClampNeg p0))) hD hk_b1.1 hf_5 hq_6
        have hP9 : va_P (dC, dI) vwCl ((([] : va_W) ++ va_pl L f_3).set q_6 (b1, .inl (cs 0, 12, .inl (upd (S8 720 i9) (nI k).toNatClampNeg p0)))) H := hP9
        have hD9 : va_D A ((([] : va_W) ++ va_pl L f_3).set q_6 (b1, .inl (cs 0, 12, .inl (upd (S8 720 i9) (nI k).toNatClampNeg p0)))) := hD9
        rw [hs_7] at hP9 hD9
        have hT := hT.up (c := 720) (j := k) (v := p0) (e := .inl (cs 0, 12, .inl (upd (S8 720 i9) (nI k).toNatClampNeg p0))) hk_b1 rfl (hT.2.2.up (by decide) (by decide) (by decide)) (by simp only [EN]; rw [up3_a, (nI_clamp (by omega))])
        have hP := hP9
        have hD := hD9
        clear hP9 hD9 hs_7
        obtain ⟨S_9, eS_9⟩ : ∃ S9 : Nat → Nat → Nat → Int32, S9 = up3 S8 720 i9 k p0 := ⟨_, rfl⟩
        rw [← eS_9] at hT
        generalize va_up f_3 b1 (.inl (cs 0, 12, .inl (upd (S8 720 i9) (nI k).toNatClampNeg p0))) = f_8 at hP hD hT
        have hFr_10 : AG S S_9 := by rw [eS_9]; exact AG.up hFrS8 (by decide)
        refine lv_iinc (v := nI (k + 1)) (lv' := [(2, .int (nI (k + 1))), (0, .ref b1), (1, .int p0), (3, .int 12)]) hx hb dJ7_fill_53178_14 hl (k := 2) rfl (by exact (nI_1 k)) (by decide) rfl (fun ls hl => ?_)
        refine lv_goto (tgt := 5) hx hb dJ7_fill_53178_17 (by decide) ?_
        exact ih (k + 1) S_9 (by omega) (by omega) hFr_10 _ _ _ hT (hP.part (cx := _) [] rfl) (hD.part (cx := _) [] (by decide) rfl) hS ls (lv_sub hl [1, 2, 0, 3] rfl)
  exact HL 13 0 S (by omega) (by omega) AG.rf _ _ _ hT (hP.part (cx := _) [] rfl) (hD.part (cx := _) [] (by decide) rfl) hS ls (lv_sub hl [2, 3, 1, 0] rfl)

set_option maxHeartbeats 4000000 in
set_option maxRecDepth 100000 in
theorem e_X1_setSpare (l : Launch) (dC : Nat → ClassId) (dI : Nat → Nat → Nat) (cs : Nat → ClassId) (L : List Nat) (ka : Nat → Nat) (ix : Nat → Nat) (ad : Nat → Nat → Nat) (n0 : Nat) (n6 : Nat) (n2 : Nat) (S : Nat → Nat → Nat → Int32) (f : Nat → va_E) (h0 : Nat) (p0 : Int32) (p1 : Int32) (sz : Nat) (hT : tB L ka ix ad cs n0 n6 n2 S f) (hk_h0 : tpx L ka ix 1 0 h0) : Met l yX1_setSpare wsX1_setSpare ({ frames := 1, cells := 0, slots := 0, locals := 20 }) (va_Pc [.ref h0, .int p0, .int p1] (cP dC dI ([] ++ va_pl L f) (tyC cs) sz)) (va_Qv (fun (_ : Unit) => True) (fun (_ : Unit) t9 => ∃ (S2 : Nat → Nat → Nat → Int32) (f2 : Nat → va_E), (tB L ka ix ad cs n0 n6 n2 S2 f2) ∧ (AG S S2) ∧ cQ dC dI ([] ++ va_pl L f2) [] (va_A ([] ++ va_pl L f) sz) t9) (va_A ([] ++ va_pl L f) sz)) 0 0 (va_A ([] ++ va_pl L f) sz) := by
  refine Met.ofW (cc := cX1_setSpare) (maxL := 3) (ret := none) (by decide) rfl ?_
  intro p e s m args below meth c s₁ B hml hv
  obtain ⟨rfl, hsz, hP, hK, hD0, hN⟩ := hv
  have hx := B.exec
  have hb := B.bytes
  have hr := B.returns
  have hts := atoms_spec (ws := wsX1_setSpare) B.pre
  have hown : s.vm.findClass RX1 = some m.cls := findClass_of_methodNamed B.named
  have hlocks := B.notSynchronized
  subst hsz
  have hin1 : ∀ w ∈ u_ws RX1 TX1 4, w ∈ wsX1_setSpare := by decide +kernel
  have hD := hD0.self (sz := s.heap.size)
  generalize hAe : va_A ([] ++ va_pl L f) s.heap.size = A at hD ⊢
  have hA : ∀ q : Nat, s.heap.size ≤ q → A q := fun q h => by rw [← hAe]; exact Or.inr h
  have hS : va_S A s.heap s.heap [] := va_S.rf
  have hP : va_P (dC, dI) vwCl ([] ++ va_pl L f) s.heap := hP
  have hl := lv_entry ([.ref h0, .int p0, .int p1]) (n := 3) (Nat.le_of_ble_eq_true rfl)
  rw [lg_entry_eq]
  generalize (lg_sl ([.ref h0, .int p0, .int p1]) ++ List.replicate (3 - (lg_sl ([.ref h0, .int p0, .int p1])).length) Slot.unset).toArray = ls at hl ⊢
  have hl : lv_has ls 3 [(0, .ref h0), (1, .int p0), (2, .int p1)] := hl
  refine lv_iload_n hx hb dX1_setSpare_0 rfl (lv_at hl 1 rfl) ?_
  have hPc := hP.sub (ws' := []) [] rfl
  have hDc := hD.sub (ws' := []) [] (by decide) rfl
  have hKc := hK.sub (tys' := []) [] rfl
  refine cs_i (va_runSN (As := [.int p0]) (rest := []) ⟨hx, hb, hml, hown, hts⟩ (c_X8_isStation l dC dI p0 s.heap.size) ⟨va_cnB 1 hts ggX1_setSpare_X8_isStation rfl rfl rfl (hN.1 (.methodLinkNest RX1 26 yX8_isStation "YamRiders") (by decide +kernel)) (hts (.initialized RX8) (by decide +kernel)) (by decide +kernel) ⟨Nat.le_of_ble_eq_true rfl, Nat.le_of_ble_eq_true rfl⟩, hts (.static yX8_isStation) (by decide +kernel), trivial⟩ ⟨c_blind, c_pre hPc hKc hDc hN⟩ rfl rfl hl.1 rfl (lv_room (Nat.le_of_ble_eq_true rfl)) dX1_setSpare_1 ⟨Nat.le_of_ble_eq_true rfl, Nat.le_of_ble_eq_true rfl⟩) (fun r_1 hr_1 => ?_)
  subst hr_1
  refine lv_if_eq (tgt := 14) hx hb dX1_setSpare_4 (by decide) (fun c_2 => ?_) (fun c_2 => ?_)
  · have hP9 := hP.part (cx := []) [] rfl
    have hD9 := hD.part (cx := []) [] (by decide) rfl
    have hK9 := hK.sub (tys' := []) [] rfl
    refine W.widen (k := 0) (n := 0) (Nat.le_of_ble_eq_true rfl) (Nat.le_of_ble_eq_true rfl) ?_
    exact W.vret hx hb hr (fun t9 ht hW => ⟨⟨(), rfl, trivial, S, f, hT, AG.rf, by rw [ht]; exact hP9, va_K.moved hW.alike hK9, hD9⟩, hS.F ht⟩) hS.2.2 dX1_setSpare_14
  · refine lv_aload_n hx hb dX1_setSpare_7 rfl (lv_at hl 0 rfl) ?_
    have hf_3 : f h0 = .inr (1, [.ref (ad 41 0), .ref (ad 42 0), .ref (ad 43 0), .ref (ad 44 0)]) := hT.get hk_h0
    obtain ⟨q_4, hq_4⟩ := pl_at (X := []) (f := f) (e := .inr (1, [.ref (ad 41 0), .ref (ad 42 0), .ref (ad 43 0), .ref (ad 44 0)])) hk_h0.1 hf_3
    refine va_get (D := (dC, dI)) (ci := 1) (v := .ref (ad 41 0)) (C := RX1) (T := TX1) (N := 4) hx hb hts hin1 hown hK hP q_4 hq_4 rfl 0 (by decide) (hts (.fieldLink RX1 9 "YamRiders$Leader" "spare" "[I") (by decide +kernel)) (fun _ h9 => h9) rfl dX1_setSpare_8 ?_
    refine lv_iload_n hx hb dX1_setSpare_11 rfl (lv_at hl 1 rfl) ?_
    refine lv_iload_n hx hb dX1_setSpare_12 rfl (lv_at hl 2 rfl) ?_
    obtain ⟨u_5, hu_5, rfl⟩ := st_of c_2
    have hf_6 : f (ad 41 0) = .inl (cs 0, 12, .inl (S 656 0)) := hT.get (hT.kf (k := 41) (by decide))
    obtain ⟨q_7, hq_7⟩ := pl_at (X := []) (f := f) (e := .inl (cs 0, 12, .inl (S 656 0))) (hT.kf (k := 41) (by decide)).1 hf_6
    refine va_iast hx hb hK hP hD hS q_7 0 hq_7 rfl (vp_in_nI (by omega) (by omega)) dX1_setSpare_13 (fun H locs hP9 hD9 hS => ?_)
    have hs_8 := pl_st (.inl (cs 0, 12, .inl (upd (S 656 0) (nI u_5).toNatClampNeg p1))) hD (hT.kf (k := 41) (by decide)).1 hf_6 hq_7
    have hP9 : va_P (dC, dI) vwCl ((([] : va_W) ++ va_pl L f).set q_7 ((ad 41 0), .inl (cs 0, 12, .inl (upd (S 656 0) (nI u_5).toNatClampNeg p1)))) H := hP9
    have hD9 : va_D A ((([] : va_W) ++ va_pl L f).set q_7 ((ad 41 0), .inl (cs 0, 12, .inl (upd (S 656 0) (nI u_5).toNatClampNeg p1)))) := hD9
    rw [hs_8] at hP9 hD9
    have hT := hT.up (c := 656) (j := u_5) (v := p1) (e := .inl (cs 0, 12, .inl (upd (S 656 0) (nI u_5).toNatClampNeg p1))) (hT.kf (k := 41) (by decide)) rfl (hT.2.2.up (by decide) (by decide) (by decide)) (by simp only [EN]; rw [up3_a, (nI_clamp (by omega))])
    have hP := hP9
    have hD := hD9
    clear hP9 hD9 hs_8
    obtain ⟨S_10, eS_10⟩ : ∃ S9 : Nat → Nat → Nat → Int32, S9 = up3 S 656 0 u_5 p1 := ⟨_, rfl⟩
    rw [← eS_10] at hT
    generalize va_up f (ad 41 0) (.inl (cs 0, 12, .inl (upd (S 656 0) (nI u_5).toNatClampNeg p1))) = f_9 at hP hD hT
    have hFr_11 : AG S S_10 := by rw [eS_10]; exact AG.up AG.rf (by decide)
    have hP9 := hP.part (cx := []) [] rfl
    have hD9 := hD.part (cx := []) [] (by decide) rfl
    have hK9 := hK.sub (tys' := []) [] rfl
    refine W.widen (k := 0) (n := 0) (Nat.le_of_ble_eq_true rfl) (Nat.le_of_ble_eq_true rfl) ?_
    exact W.vret hx hb hr (fun t9 ht hW => ⟨⟨(), rfl, trivial, S_10, f_9, hT, hFr_11, by rw [ht]; exact hP9, va_K.moved hW.alike hK9, hD9⟩, hS.F ht⟩) hS.2.2 dX1_setSpare_14

set_option maxHeartbeats 4000000 in
set_option maxRecDepth 100000 in
theorem e_X1_isAnyShort (l : Launch) (dC : Nat → ClassId) (dI : Nat → Nat → Nat) (cs : Nat → ClassId) (L : List Nat) (ka : Nat → Nat) (ix : Nat → Nat) (ad : Nat → Nat → Nat) (n0 : Nat) (n6 : Nat) (n2 : Nat) (S : Nat → Nat → Nat → Int32) (f : Nat → va_E) (h0 : Nat) (sz : Nat) (hT : tB L ka ix ad cs n0 n6 n2 S f) (hk_h0 : tpx L ka ix 1 0 h0) : Met l yX1_isAnyShort wsX1_isAnyShort ({ frames := 0, cells := 0, slots := 0, locals := 0 }) (va_Pc [.ref h0] (cP dC dI ([] ++ va_pl L f) (tyC cs) sz)) (vp_Si (fun r => r = 0 ∨ r = 1)) 0 0 (fun _ => False) := by
  refine Met.ofW (cc := cX1_isAnyShort) (maxL := 2) (ret := (some .boolean)) (by decide) rfl ?_
  intro p e s m args below meth c s₁ B hml hv
  obtain ⟨rfl, hsz, hP, hK, hD0, hN⟩ := hv
  have hx := B.exec
  have hb := B.bytes
  have hr := B.returns
  have hts := atoms_spec (ws := wsX1_isAnyShort) B.pre
  have hown : s.vm.findClass RX1 = some m.cls := findClass_of_methodNamed B.named
  have hlocks := B.notSynchronized
  subst hsz
  have hin1 : ∀ w ∈ u_ws RX1 TX1 4, w ∈ wsX1_isAnyShort := by decide +kernel
  have hD := hD0
  have hP : va_P (dC, dI) vwCl ([] ++ va_pl L f) s.heap := hP
  have hl := lv_entry ([.ref h0]) (n := 2) (Nat.le_of_ble_eq_true rfl)
  rw [lg_entry_eq]
  generalize (lg_sl ([.ref h0]) ++ List.replicate (2 - (lg_sl ([.ref h0])).length) Slot.unset).toArray = ls at hl ⊢
  have hl : lv_has ls 2 [(0, .ref h0)] := hl
  refine lv_iconst (v := 0) hx hb dX1_isAnyShort_0 (by decide) ?_
  refine lv_istore_n (lv' := [(1, .int 0), (0, .ref h0)]) hx hb dX1_isAnyShort_1 rfl hl (by decide) rfl (fun ls hl => ?_)
  have HL : ∀ (n k : Nat), k ≤ 12 → 12 + 1 ≤ k + n → ∀ ls : Array Slot, lv_has ls 2 [(0, .ref h0), (1, .int (nI k))] → W p l e (headSpec wsX1_isAnyShort ({ frames := 0, cells := 0, slots := 0, locals := 0 })).room s m ([.ref h0]).toArray below meth c s.heap [] 0 0 (MQ below (vp_Si (fun r => r = 0 ∨ r = 1)) ([.ref h0]).toArray s 0 0 (fun _ => False)) (F0 m 2 ls []) := by
    intro n
    induction n with
    | zero => intro k h1 h2; exact absurd h2 (by omega)
    | succ n ih =>
      intro k hk hn ls hl
      refine lv_iload_n hx hb dX1_isAnyShort_2 rfl (lv_at hl 1 rfl) ?_
      refine lv_bipush (v := 12) hx hb dX1_isAnyShort_3 (by decide) ?_
      refine lv_icmp_ge (tgt := 25) hx hb dX1_isAnyShort_5 (by decide) (fun c_1 => ?_) (fun c_1 => ?_)
      · have hke : k = 12 := by
          rcases Nat.lt_or_ge k 12 with q | q
          · exact absurd c_1 (nI_ge q (by decide))
          · omega
        refine lv_iconst (v := 0) hx hb dX1_isAnyShort_25 (by decide) ?_
        exact W.zret (v := 0) hx hb hr rfl (fun t9 ht hW => ⟨_, rfl, (Or.inl rfl), ht⟩) (fun q h => nomatch h) dX1_isAnyShort_26
      · have hlt : k < 12 := by
          rcases Nat.lt_or_ge k 12 with q | q
          · exact q
          · exact absurd (show nI 12 ≤ nI k from nI_le q (by omega)) c_1
        refine lv_aload_n hx hb dX1_isAnyShort_8 rfl (lv_at hl 0 rfl) ?_
        have hf_2 : f h0 = .inr (1, [.ref (ad 41 0), .ref (ad 42 0), .ref (ad 43 0), .ref (ad 44 0)]) := hT.get hk_h0
        obtain ⟨q_3, hq_3⟩ := pl_at (X := []) (f := f) (e := .inr (1, [.ref (ad 41 0), .ref (ad 42 0), .ref (ad 43 0), .ref (ad 44 0)])) hk_h0.1 hf_2
        refine va_get (D := (dC, dI)) (ci := 1) (v := .ref (ad 41 0)) (C := RX1) (T := TX1) (N := 4) hx hb hts hin1 hown hK hP q_3 hq_3 rfl 0 (by decide) (hts (.fieldLink RX1 9 "YamRiders$Leader" "spare" "[I") (by decide +kernel)) (fun _ h9 => h9) rfl dX1_isAnyShort_9 ?_
        refine lv_iload_n hx hb dX1_isAnyShort_12 rfl (lv_at hl 1 rfl) ?_
        have hf_4 : f (ad 41 0) = .inl (cs 0, 12, .inl (S 656 0)) := hT.get (hT.kf (k := 41) (by decide))
        obtain ⟨q_5, hq_5⟩ := pl_at (X := []) (f := f) (e := .inl (cs 0, 12, .inl (S 656 0))) (hT.kf (k := 41) (by decide)).1 hf_4
        refine va_iald hx hb hK hP q_5 0 hq_5 rfl (vp_in_nI (by omega) (by omega)) dX1_isAnyShort_13 ?_
        refine lv_topi (fun v_6 ev_6 => ?_)
        obtain rfl : v_6 = S 656 0 k := ev_6.trans (by rw [(nI_clamp (by omega))])
        refine lv_if_ge (tgt := 19) hx hb dX1_isAnyShort_14 (by decide) (fun c_7 => ?_) (fun c_7 => ?_)
        · refine lv_iinc (v := nI (k + 1)) (lv' := [(1, .int (nI (k + 1))), (0, .ref h0)]) hx hb dX1_isAnyShort_19 hl (k := 1) rfl (by exact (nI_1 k)) (by decide) rfl (fun ls hl => ?_)
          refine lv_goto (tgt := 2) hx hb dX1_isAnyShort_22 (by decide) ?_
          exact ih (k + 1) (by omega) (by omega) ls (lv_sub hl [1, 0] rfl)
        · refine lv_iconst (v := 1) hx hb dX1_isAnyShort_17 (by decide) ?_
          exact W.zret (v := 1) hx hb hr rfl (fun t9 ht hW => ⟨_, rfl, (Or.inr rfl), ht⟩) (fun q h => nomatch h) dX1_isAnyShort_18
  exact HL 13 0 (by omega) (by omega) ls (lv_sub hl [1, 0] rfl)

set_option maxHeartbeats 4000000 in
set_option maxRecDepth 100000 in
theorem e_X1_painsOver (l : Launch) (dC : Nat → ClassId) (dI : Nat → Nat → Nat) (cs : Nat → ClassId) (L : List Nat) (ka : Nat → Nat) (ix : Nat → Nat) (ad : Nat → Nat → Nat) (n0 : Nat) (n6 : Nat) (n2 : Nat) (S : Nat → Nat → Nat → Int32) (f : Nat → va_E) (h0 : Nat) (p0 : Int32) (p1 : Int32) (p2 : Int32) (sz : Nat) (hT : tB L ka ix ad cs n0 n6 n2 S f) (hk_h0 : tpx L ka ix 1 0 h0) : Met l yX1_painsOver wsX1_painsOver ({ frames := 1, cells := 0, slots := 0, locals := 20 }) (va_Pc [.ref h0, .int p0, .int p1, .int p2] (cP dC dI ([] ++ va_pl L f) (tyC cs) sz)) (vp_Si (fun _ => True)) 0 0 (fun _ => False) := by
  refine Met.ofW (cc := cX1_painsOver) (maxL := 4) (ret := (some .int)) (by decide) rfl ?_
  intro p e s m args below meth c s₁ B hml hv
  obtain ⟨rfl, hsz, hP, hK, hD0, hN⟩ := hv
  have hx := B.exec
  have hb := B.bytes
  have hr := B.returns
  have hts := atoms_spec (ws := wsX1_painsOver) B.pre
  have hown : s.vm.findClass RX1 = some m.cls := findClass_of_methodNamed B.named
  have hlocks := B.notSynchronized
  subst hsz
  have hin1 : ∀ w ∈ u_ws RX1 TX1 4, w ∈ wsX1_painsOver := by decide +kernel
  have hD := hD0
  have hP : va_P (dC, dI) vwCl ([] ++ va_pl L f) s.heap := hP
  have hl := lv_entry ([.ref h0, .int p0, .int p1, .int p2]) (n := 4) (Nat.le_of_ble_eq_true rfl)
  rw [lg_entry_eq]
  generalize (lg_sl ([.ref h0, .int p0, .int p1, .int p2]) ++ List.replicate (4 - (lg_sl ([.ref h0, .int p0, .int p1, .int p2])).length) Slot.unset).toArray = ls at hl ⊢
  have hl : lv_has ls 4 [(0, .ref h0), (1, .int p0), (2, .int p1), (3, .int p2)] := hl
  refine lv_iload_n hx hb dX1_painsOver_0 rfl (lv_at hl 1 rfl) ?_
  have hPc := hP.sub (ws' := []) [] rfl
  have hDc := hD.sub (ws' := []) [] (by decide) rfl
  have hKc := hK.sub (tys' := []) [] rfl
  refine cs_i (va_runSN (As := [.int p0]) (rest := []) ⟨hx, hb, hml, hown, hts⟩ (c_X8_isStation l dC dI p0 s.heap.size) ⟨va_cnB 1 hts ggX1_painsOver_X8_isStation rfl rfl rfl (hN.1 (.methodLinkNest RX1 26 yX8_isStation "YamRiders") (by decide +kernel)) (hts (.initialized RX8) (by decide +kernel)) (by decide +kernel) ⟨Nat.le_of_ble_eq_true rfl, Nat.le_of_ble_eq_true rfl⟩, hts (.static yX8_isStation) (by decide +kernel), trivial⟩ ⟨c_blind, c_pre hPc hKc hDc hN⟩ rfl rfl hl.1 rfl (lv_room (Nat.le_of_ble_eq_true rfl)) dX1_painsOver_1 ⟨Nat.le_of_ble_eq_true rfl, Nat.le_of_ble_eq_true rfl⟩) (fun r_1 hr_1 => ?_)
  subst hr_1
  refine lv_if_eq (tgt := 30) hx hb dX1_painsOver_4 (by decide) (fun c_2 => ?_) (fun c_2 => ?_)
  · refine lv_iload_n hx hb dX1_painsOver_30 rfl (lv_at hl 3 rfl) ?_
    exact W.iret (v := p2) hx hb hr (fun t9 ht hW => ⟨_, rfl, trivial, ht⟩) (fun q h => nomatch h) dX1_painsOver_31
  · refine lv_iload_n hx hb dX1_painsOver_7 rfl (lv_at hl 2 rfl) ?_
    have hPc := hP.sub (ws' := []) [] rfl
    have hDc := hD.sub (ws' := []) [] (by decide) rfl
    have hKc := hK.sub (tys' := []) [] rfl
    refine cs_i (va_runSN (As := [.int p1]) (rest := []) ⟨hx, hb, hml, hown, hts⟩ (c_X8_isStation l dC dI p1 s.heap.size) ⟨va_cnB 1 hts ggX1_painsOver_X8_isStation rfl rfl rfl (hN.1 (.methodLinkNest RX1 26 yX8_isStation "YamRiders") (by decide +kernel)) (hts (.initialized RX8) (by decide +kernel)) (by decide +kernel) ⟨Nat.le_of_ble_eq_true rfl, Nat.le_of_ble_eq_true rfl⟩, hts (.static yX8_isStation) (by decide +kernel), trivial⟩ ⟨c_blind, c_pre hPc hKc hDc hN⟩ rfl rfl hl.1 rfl (lv_room (Nat.le_of_ble_eq_true rfl)) dX1_painsOver_8 ⟨Nat.le_of_ble_eq_true rfl, Nat.le_of_ble_eq_true rfl⟩) (fun r_3 hr_3 => ?_)
    subst hr_3
    refine lv_if_eq (tgt := 30) hx hb dX1_painsOver_11 (by decide) (fun c_4 => ?_) (fun c_4 => ?_)
    · refine lv_iload_n hx hb dX1_painsOver_30 rfl (lv_at hl 3 rfl) ?_
      exact W.iret (v := p2) hx hb hr (fun t9 ht hW => ⟨_, rfl, trivial, ht⟩) (fun q h => nomatch h) dX1_painsOver_31
    · refine lv_aload_n hx hb dX1_painsOver_14 rfl (lv_at hl 0 rfl) ?_
      have hf_5 : f h0 = .inr (1, [.ref (ad 41 0), .ref (ad 42 0), .ref (ad 43 0), .ref (ad 44 0)]) := hT.get hk_h0
      obtain ⟨q_6, hq_6⟩ := pl_at (X := []) (f := f) (e := .inr (1, [.ref (ad 41 0), .ref (ad 42 0), .ref (ad 43 0), .ref (ad 44 0)])) hk_h0.1 hf_5
      refine va_get (D := (dC, dI)) (ci := 1) (v := .ref (ad 42 0)) (C := RX1) (T := TX1) (N := 4) hx hb hts hin1 hown hK hP q_6 hq_6 rfl 1 (by decide) (hts (.fieldLink RX1 17 "YamRiders$Leader" "led" "[[I") (by decide +kernel)) (fun _ h9 => h9) rfl dX1_painsOver_15 ?_
      refine lv_iload_n hx hb dX1_painsOver_18 rfl (lv_at hl 2 rfl) ?_
      obtain ⟨u_7, hu_7, rfl⟩ := st_of c_4
      have hf_8 : f (ad 42 0) = .inl (cs 2, 12, .inr (.inr (.inr (.inr (gl ad 45 12))))) := hT.get (hT.kf (k := 42) (by decide))
      obtain ⟨q_9, hq_9⟩ := pl_at (X := []) (f := f) (e := .inl (cs 2, 12, .inr (.inr (.inr (.inr (gl ad 45 12)))))) (hT.kf (k := 42) (by decide)).1 hf_8
      refine va_aldg hx hb hK hP q_9 2 hq_9 rfl (vp_in_nI (by omega) (by omega)) (show gl ad 45 12 (nI u_7).toNatClampNeg = some (ad 45 u_7) from by rw [(nI_clamp (by omega))]; exact gl_p (by omega)) dX1_painsOver_19 ?_
      refine lv_iload_n hx hb dX1_painsOver_20 rfl (lv_at hl 1 rfl) ?_
      obtain ⟨u_10, hu_10, rfl⟩ := st_of c_2
      have hf_11 : f (ad 45 u_7) = .inl (cs 0, 12, .inl (S 720 u_7)) := hT.get (hT.k45 (i := u_7) (by omega))
      obtain ⟨q_12, hq_12⟩ := pl_at (X := []) (f := f) (e := .inl (cs 0, 12, .inl (S 720 u_7))) (hT.k45 (i := u_7) (by omega)).1 hf_11
      refine va_iald hx hb hK hP q_12 0 hq_12 rfl (vp_in_nI (by omega) (by omega)) dX1_painsOver_21 ?_
      refine lv_topi (fun v_13 ev_13 => ?_)
      obtain rfl : v_13 = S 720 u_7 u_10 := ev_13.trans (by rw [(nI_clamp (by omega))])
      refine lv_if_le (tgt := 30) hx hb dX1_painsOver_22 (by decide) (fun c_14 => ?_) (fun c_14 => ?_)
      · refine lv_iload_n hx hb dX1_painsOver_30 rfl (lv_at hl 3 rfl) ?_
        exact W.iret (v := p2) hx hb hr (fun t9 ht hW => ⟨_, rfl, trivial, ht⟩) (fun q h => nomatch h) dX1_painsOver_31
      · refine lv_iload_n hx hb dX1_painsOver_25 rfl (lv_at hl 3 rfl) ?_
        refine lv_ineg hx hb dX1_painsOver_26 ?_
        refine lv_topi (fun v_15 ev_15 => ?_)
        refine lv_goto (tgt := 31) hx hb dX1_painsOver_27 (by decide) ?_
        exact W.iret (v := v_15) hx hb hr (fun t9 ht hW => ⟨_, rfl, trivial, ht⟩) (fun q h => nomatch h) dX1_painsOver_31

set_option maxHeartbeats 4000000 in
set_option maxRecDepth 100000 in
theorem e_X1_nearestShort (l : Launch) (dC : Nat → ClassId) (dI : Nat → Nat → Nat) (cs : Nat → ClassId) (L : List Nat) (ka : Nat → Nat) (ix : Nat → Nat) (ad : Nat → Nat → Nat) (n0 : Nat) (n6 : Nat) (n2 : Nat) (S : Nat → Nat → Nat → Int32) (f : Nat → va_E) (h0 : Nat) (sz : Nat) (hT : tB L ka ix ad cs n0 n6 n2 S f) (hk_h0 : tpx L ka ix 1 0 h0) : Met l yX1_nearestShort wsX1_nearestShort ({ frames := 0, cells := 0, slots := 0, locals := 0 }) (va_Pc [.ref h0] (cP dC dI ([] ++ va_pl L f) (tyC cs) sz)) (vp_Si (fun _ => True)) 0 0 (fun _ => False) := by
  refine Met.ofW (cc := cX1_nearestShort) (maxL := 4) (ret := (some .int)) (by decide) rfl ?_
  intro p e s m args below meth c s₁ B hml hv
  obtain ⟨rfl, hsz, hP, hK, hD0, hN⟩ := hv
  have hx := B.exec
  have hb := B.bytes
  have hr := B.returns
  have hts := atoms_spec (ws := wsX1_nearestShort) B.pre
  have hown : s.vm.findClass RX1 = some m.cls := findClass_of_methodNamed B.named
  have hlocks := B.notSynchronized
  subst hsz
  have hin1 : ∀ w ∈ u_ws RX1 TX1 4, w ∈ wsX1_nearestShort := by decide +kernel
  have hD := hD0
  have hP : va_P (dC, dI) vwCl ([] ++ va_pl L f) s.heap := hP
  have hl := lv_entry ([.ref h0]) (n := 4) (Nat.le_of_ble_eq_true rfl)
  rw [lg_entry_eq]
  generalize (lg_sl ([.ref h0]) ++ List.replicate (4 - (lg_sl ([.ref h0])).length) Slot.unset).toArray = ls at hl ⊢
  have hl : lv_has ls 4 [(0, .ref h0)] := hl
  refine lv_iconst (v := (-1)) hx hb dX1_nearestShort_0 (by decide) ?_
  refine lv_istore_n (lv' := [(1, .int (-1)), (0, .ref h0)]) hx hb dX1_nearestShort_1 rfl hl (by decide) rfl (fun ls hl => ?_)
  refine lv_ldc (v := 1000000) hx hb hown (hts (.constant RX1 56 (1000000)) (by decide +kernel)) dX1_nearestShort_2 ?_
  refine lv_istore_n (lv' := [(2, .int 1000000), (1, .int (-1)), (0, .ref h0)]) hx hb dX1_nearestShort_4 rfl hl (by decide) rfl (fun ls hl => ?_)
  refine lv_iconst (v := 0) hx hb dX1_nearestShort_5 (by decide) ?_
  refine lv_istore_n (lv' := [(3, .int 0), (2, .int 1000000), (1, .int (-1)), (0, .ref h0)]) hx hb dX1_nearestShort_6 rfl hl (by decide) rfl (fun ls hl => ?_)
  have HL : ∀ (n k : Nat) (x1 : Int32) (x2 : Int32), k ≤ 12 → 12 + 1 ≤ k + n → ∀ ls : Array Slot, lv_has ls 4 [(0, .ref h0), (1, .int x1), (2, .int x2), (3, .int (nI k))] → W p l e (headSpec wsX1_nearestShort ({ frames := 0, cells := 0, slots := 0, locals := 0 })).room s m ([.ref h0]).toArray below meth c s.heap [] 0 0 (MQ below (vp_Si (fun _ => True)) ([.ref h0]).toArray s 0 0 (fun _ => False)) (F0 m 7 ls []) := by
    intro n
    induction n with
    | zero => intro k x1 x2 h1 h2; exact absurd h2 (by omega)
    | succ n ih =>
      intro k x1 x2 hk hn ls hl
      refine lv_iload_n hx hb dX1_nearestShort_7 rfl (lv_at hl 3 rfl) ?_
      refine lv_bipush (v := 12) hx hb dX1_nearestShort_8 (by decide) ?_
      refine lv_icmp_ge (tgt := 47) hx hb dX1_nearestShort_10 (by decide) (fun c_1 => ?_) (fun c_1 => ?_)
      · have hke : k = 12 := by
          rcases Nat.lt_or_ge k 12 with q | q
          · exact absurd c_1 (nI_ge q (by decide))
          · omega
        refine lv_iload_n hx hb dX1_nearestShort_47 rfl (lv_at hl 1 rfl) ?_
        exact W.iret (v := x1) hx hb hr (fun t9 ht hW => ⟨_, rfl, trivial, ht⟩) (fun q h => nomatch h) dX1_nearestShort_48
      · have hlt : k < 12 := by
          rcases Nat.lt_or_ge k 12 with q | q
          · exact q
          · exact absurd (show nI 12 ≤ nI k from nI_le q (by omega)) c_1
        refine lv_aload_n hx hb dX1_nearestShort_13 rfl (lv_at hl 0 rfl) ?_
        have hf_2 : f h0 = .inr (1, [.ref (ad 41 0), .ref (ad 42 0), .ref (ad 43 0), .ref (ad 44 0)]) := hT.get hk_h0
        obtain ⟨q_3, hq_3⟩ := pl_at (X := []) (f := f) (e := .inr (1, [.ref (ad 41 0), .ref (ad 42 0), .ref (ad 43 0), .ref (ad 44 0)])) hk_h0.1 hf_2
        refine va_get (D := (dC, dI)) (ci := 1) (v := .ref (ad 41 0)) (C := RX1) (T := TX1) (N := 4) hx hb hts hin1 hown hK hP q_3 hq_3 rfl 0 (by decide) (hts (.fieldLink RX1 9 "YamRiders$Leader" "spare" "[I") (by decide +kernel)) (fun _ h9 => h9) rfl dX1_nearestShort_14 ?_
        refine lv_iload_n hx hb dX1_nearestShort_17 rfl (lv_at hl 3 rfl) ?_
        have hf_4 : f (ad 41 0) = .inl (cs 0, 12, .inl (S 656 0)) := hT.get (hT.kf (k := 41) (by decide))
        obtain ⟨q_5, hq_5⟩ := pl_at (X := []) (f := f) (e := .inl (cs 0, 12, .inl (S 656 0))) (hT.kf (k := 41) (by decide)).1 hf_4
        refine va_iald hx hb hK hP q_5 0 hq_5 rfl (vp_in_nI (by omega) (by omega)) dX1_nearestShort_18 ?_
        refine lv_topi (fun v_6 ev_6 => ?_)
        obtain rfl : v_6 = S 656 0 k := ev_6.trans (by rw [(nI_clamp (by omega))])
        refine lv_if_ge (tgt := 41) hx hb dX1_nearestShort_19 (by decide) (fun c_7 => ?_) (fun c_7 => ?_)
        · refine lv_iinc (v := nI (k + 1)) (lv' := [(3, .int (nI (k + 1))), (0, .ref h0), (1, .int x1), (2, .int x2)]) hx hb dX1_nearestShort_41 hl (k := 3) rfl (by exact (nI_1 k)) (by decide) rfl (fun ls hl => ?_)
          refine lv_goto (tgt := 7) hx hb dX1_nearestShort_44 (by decide) ?_
          exact ih (k + 1) x1 x2 (by omega) (by omega) ls (lv_sub hl [1, 2, 3, 0] rfl)
        · refine lv_aload_n hx hb dX1_nearestShort_22 rfl (lv_at hl 0 rfl) ?_
          obtain ⟨q_8, hq_8⟩ := pl_at (X := []) (f := f) (e := .inr (1, [.ref (ad 41 0), .ref (ad 42 0), .ref (ad 43 0), .ref (ad 44 0)])) hk_h0.1 hf_2
          refine va_get (D := (dC, dI)) (ci := 1) (v := .ref (ad 43 0)) (C := RX1) (T := TX1) (N := 4) hx hb hts hin1 hown hK hP q_8 hq_8 rfl 2 (by decide) (hts (.fieldLink RX1 20 "YamRiders$Leader" "pains" "[I") (by decide +kernel)) (fun _ h9 => h9) rfl dX1_nearestShort_23 ?_
          refine lv_iload_n hx hb dX1_nearestShort_26 rfl (lv_at hl 3 rfl) ?_
          have hf_9 : f (ad 43 0) = .inl (cs 0, 12, .inl (S 688 0)) := hT.get (hT.kf (k := 43) (by decide))
          obtain ⟨q_10, hq_10⟩ := pl_at (X := []) (f := f) (e := .inl (cs 0, 12, .inl (S 688 0))) (hT.kf (k := 43) (by decide)).1 hf_9
          refine va_iald hx hb hK hP q_10 0 hq_10 rfl (vp_in_nI (by omega) (by omega)) dX1_nearestShort_27 ?_
          refine lv_topi (fun v_11 ev_11 => ?_)
          obtain rfl : v_11 = S 688 0 k := ev_11.trans (by rw [(nI_clamp (by omega))])
          refine lv_iload_n hx hb dX1_nearestShort_28 rfl (lv_at hl 2 rfl) ?_
          refine lv_icmp_ge (tgt := 41) hx hb dX1_nearestShort_29 (by decide) (fun c_12 => ?_) (fun c_12 => ?_)
          · refine lv_iinc (v := nI (k + 1)) (lv' := [(3, .int (nI (k + 1))), (0, .ref h0), (1, .int x1), (2, .int x2)]) hx hb dX1_nearestShort_41 hl (k := 3) rfl (by exact (nI_1 k)) (by decide) rfl (fun ls hl => ?_)
            refine lv_goto (tgt := 7) hx hb dX1_nearestShort_44 (by decide) ?_
            exact ih (k + 1) x1 x2 (by omega) (by omega) ls (lv_sub hl [1, 2, 3, 0] rfl)
          · refine lv_iload_n hx hb dX1_nearestShort_32 rfl (lv_at hl 3 rfl) ?_
            refine lv_istore_n (lv' := [(1, .int (nI k)), (0, .ref h0), (2, .int x2), (3, .int (nI k))]) hx hb dX1_nearestShort_33 rfl hl (by decide) rfl (fun ls hl => ?_)
            refine lv_aload_n hx hb dX1_nearestShort_34 rfl (lv_at hl 1 rfl) ?_
            obtain ⟨q_13, hq_13⟩ := pl_at (X := []) (f := f) (e := .inr (1, [.ref (ad 41 0), .ref (ad 42 0), .ref (ad 43 0), .ref (ad 44 0)])) hk_h0.1 hf_2
            refine va_get (D := (dC, dI)) (ci := 1) (v := .ref (ad 43 0)) (C := RX1) (T := TX1) (N := 4) hx hb hts hin1 hown hK hP q_13 hq_13 rfl 2 (by decide) (hts (.fieldLink RX1 20 "YamRiders$Leader" "pains" "[I") (by decide +kernel)) (fun _ h9 => h9) rfl dX1_nearestShort_35 ?_
            refine lv_iload_n hx hb dX1_nearestShort_38 rfl (lv_at hl 3 rfl) ?_
            obtain ⟨q_14, hq_14⟩ := pl_at (X := []) (f := f) (e := .inl (cs 0, 12, .inl (S 688 0))) (hT.kf (k := 43) (by decide)).1 hf_9
            refine va_iald hx hb hK hP q_14 0 hq_14 rfl (vp_in_nI (by omega) (by omega)) dX1_nearestShort_39 ?_
            refine lv_topi (fun v_15 ev_15 => ?_)
            obtain rfl : v_15 = S 688 0 k := ev_15.trans (by rw [(nI_clamp (by omega))])
            refine lv_istore_n (lv' := [(2, .int (S 688 0 k)), (1, .int (nI k)), (0, .ref h0), (3, .int (nI k))]) hx hb dX1_nearestShort_40 rfl hl (by decide) rfl (fun ls hl => ?_)
            refine lv_iinc (v := nI (k + 1)) (lv' := [(3, .int (nI (k + 1))), (2, .int (S 688 0 k)), (1, .int (nI k)), (0, .ref h0)]) hx hb dX1_nearestShort_41 hl (k := 3) rfl (by exact (nI_1 k)) (by decide) rfl (fun ls hl => ?_)
            refine lv_goto (tgt := 7) hx hb dX1_nearestShort_44 (by decide) ?_
            exact ih (k + 1) (nI k) (S 688 0 k) (by omega) (by omega) ls (lv_sub hl [3, 2, 1, 0] rfl)
  exact HL 13 0 (-1) 1000000 (by omega) (by omega) ls (lv_sub hl [3, 2, 1, 0] rfl)

set_option maxHeartbeats 4000000 in
set_option maxRecDepth 100000 in
theorem e_X1_spreadFrom (l : Launch) (dC : Nat → ClassId) (dI : Nat → Nat → Nat) (cs : Nat → ClassId) (L : List Nat) (ka : Nat → Nat) (ix : Nat → Nat) (ad : Nat → Nat → Nat) (n0 : Nat) (n6 : Nat) (n2 : Nat) (S : Nat → Nat → Nat → Int32) (f : Nat → va_E) (h0 : Nat) (p0 : Int32) (e1 : Nat) (sz : Nat) (hT : tB L ka ix ad cs n0 n6 n2 S f) (hk_h0 : tpx L ka ix 1 0 h0) (hk_e1 : tpx L ka ix 3 0 e1) : Met l yX1_spreadFrom wsX1_spreadFrom ({ frames := 2, cells := 0, slots := 0, locals := 43 }) (va_Pc [.ref h0, .int p0, .ref e1] (cP dC dI ([] ++ va_pl L f) (tyC cs) sz)) (va_Qi (fun (r : Int32) (_ : Unit) => r = 0 ∨ r = 1) (fun (_ : Unit) t9 => ∃ (S2 : Nat → Nat → Nat → Int32) (f2 : Nat → va_E), (tB L ka ix ad cs n0 n6 n2 S2 f2) ∧ (AG S S2) ∧ cQ dC dI ([] ++ va_pl L f2) [] (va_A ([] ++ va_pl L f) sz) t9) (va_A ([] ++ va_pl L f) sz)) 0 0 (va_A ([] ++ va_pl L f) sz) := by
  refine Met.ofW (cc := cX1_spreadFrom) (maxL := 6) (ret := (some .boolean)) (by decide) rfl ?_
  intro p e s m args below meth c s₁ B hml hv
  obtain ⟨rfl, hsz, hP, hK, hD0, hN⟩ := hv
  have hx := B.exec
  have hb := B.bytes
  have hr := B.returns
  have hts := atoms_spec (ws := wsX1_spreadFrom) B.pre
  have hown : s.vm.findClass RX1 = some m.cls := findClass_of_methodNamed B.named
  have hlocks := B.notSynchronized
  subst hsz
  have hin1 : ∀ w ∈ u_ws RX1 TX1 4, w ∈ wsX1_spreadFrom := by decide +kernel
  have hD := hD0.self (sz := s.heap.size)
  generalize hAe : va_A ([] ++ va_pl L f) s.heap.size = A at hD ⊢
  have hA : ∀ q : Nat, s.heap.size ≤ q → A q := fun q h => by rw [← hAe]; exact Or.inr h
  have hS : va_S A s.heap s.heap [] := va_S.rf
  have hP : va_P (dC, dI) vwCl ([] ++ va_pl L f) s.heap := hP
  have hl := lv_entry ([.ref h0, .int p0, .ref e1]) (n := 6) (Nat.le_of_ble_eq_true rfl)
  rw [lg_entry_eq]
  generalize (lg_sl ([.ref h0, .int p0, .ref e1]) ++ List.replicate (6 - (lg_sl ([.ref h0, .int p0, .ref e1])).length) Slot.unset).toArray = ls at hl ⊢
  have hl : lv_has ls 6 [(0, .ref h0), (1, .int p0), (2, .ref e1)] := hl
  refine lv_iconst (v := 0) hx hb dX1_spreadFrom_0 (by decide) ?_
  refine lv_istore_n (lv' := [(3, .int 0), (0, .ref h0), (1, .int p0), (2, .ref e1)]) hx hb dX1_spreadFrom_1 rfl hl (by decide) rfl (fun ls hl => ?_)
  refine lv_iconst (v := 0) hx hb dX1_spreadFrom_2 (by decide) ?_
  refine lv_istore (lv' := [(4, .int 0), (3, .int 0), (0, .ref h0), (1, .int p0), (2, .ref e1)]) hx hb dX1_spreadFrom_3 hl (by decide) rfl (fun ls hl => ?_)
  have HL : ∀ (n k : Nat) (x3 : Int32) (S8 : Nat → Nat → Nat → Int32), k ≤ 12 → 12 + 1 ≤ k + n → (AG S S8) → (x3 = 0 ∨ x3 = 1) → ∀ (f_1 : Nat → va_E) (H : Heap) (locs : List Loc), tB L ka ix ad cs n0 n6 n2 S8 f_1 → va_P (dC, dI) vwCl ([] ++ va_pl L f_1) H → va_D A ([] ++ va_pl L f_1) → va_S A s.heap H locs → ∀ ls : Array Slot, lv_has ls 6 [(0, .ref h0), (1, .int p0), (2, .ref e1), (3, .int x3), (4, .int (nI k))] → W p l e (headSpec wsX1_spreadFrom ({ frames := 2, cells := 0, slots := 0, locals := 43 })).room s m ([.ref h0, .int p0, .ref e1]).toArray below meth c H locs 0 0 (MQ below (va_Qi (fun (r : Int32) (_ : Unit) => r = 0 ∨ r = 1) (fun (_ : Unit) t9 => ∃ (S2 : Nat → Nat → Nat → Int32) (f2 : Nat → va_E), (tB L ka ix ad cs n0 n6 n2 S2 f2) ∧ (AG S S2) ∧ cQ dC dI ([] ++ va_pl L f2) [] A t9) A) ([.ref h0, .int p0, .ref e1]).toArray s 0 0 A) (F0 m 5 ls []) := by
    intro n
    induction n with
    | zero => intro k x3 S8 h1 h2; exact absurd h2 (by omega)
    | succ n ih =>
      intro k x3 S8 hk hn hFrS8 h01 f_1 H locs hT hP hD hS ls hl
      refine lv_iload hx hb dX1_spreadFrom_5 (lv_at hl 4 rfl) ?_
      refine lv_bipush (v := 12) hx hb dX1_spreadFrom_7 (by decide) ?_
      refine lv_icmp_ge (tgt := 99) hx hb dX1_spreadFrom_9 (by decide) (fun c_2 => ?_) (fun c_2 => ?_)
      · have hke : k = 12 := by
          rcases Nat.lt_or_ge k 12 with q | q
          · exact absurd c_2 (nI_ge q (by decide))
          · omega
        refine lv_iload_n hx hb dX1_spreadFrom_99 rfl (lv_at hl 3 rfl) ?_
        have hP9 := hP.part (cx := []) [] rfl
        have hD9 := hD.part (cx := []) [] (by decide) rfl
        have hK9 := hK.sub (tys' := []) [] rfl
        refine W.widen (k := 0) (n := 0) (Nat.le_of_ble_eq_true rfl) (Nat.le_of_ble_eq_true rfl) ?_
        exact W.zret (v := x3) hx hb hr (nz01 h01) (fun t9 ht hW => ⟨⟨_, (), rfl, h01, S8, f_1, hT, hFrS8, by rw [ht]; exact hP9, va_K.moved hW.alike hK9, hD9⟩, hS.F ht⟩) hS.2.2 dX1_spreadFrom_100
      · have hlt : k < 12 := by
          rcases Nat.lt_or_ge k 12 with q | q
          · exact q
          · exact absurd (show nI 12 ≤ nI k from nI_le q (by omega)) c_2
        refine lv_iload_n hx hb dX1_spreadFrom_12 rfl (lv_at hl 1 rfl) ?_
        have hPc := hP.sub (ws' := []) [] rfl
        have hDc := hD.sub (ws' := []) [] (by decide) rfl
        have hKc := hK.sub (tys' := []) [] rfl
        refine cs_i (va_runSN (As := [.int p0]) (rest := []) ⟨hx, hb, hml, hown, hts⟩ (c_X8_isStation l dC dI p0 H.size) ⟨va_cnB 1 hts ggX1_spreadFrom_X8_isStation rfl rfl rfl (hN.1 (.methodLinkNest RX1 26 yX8_isStation "YamRiders") (by decide +kernel)) (hts (.initialized RX8) (by decide +kernel)) (by decide +kernel) ⟨Nat.le_of_ble_eq_true rfl, Nat.le_of_ble_eq_true rfl⟩, hts (.static yX8_isStation) (by decide +kernel), trivial⟩ ⟨c_blind, c_pre hPc hKc hDc hN⟩ rfl rfl hl.1 rfl (lv_room (Nat.le_of_ble_eq_true rfl)) dX1_spreadFrom_13 ⟨Nat.le_of_ble_eq_true rfl, Nat.le_of_ble_eq_true rfl⟩) (fun r_3 hr_3 => ?_)
        subst hr_3
        refine lv_if_eq (tgt := 99) hx hb dX1_spreadFrom_16 (by decide) (fun c_4 => ?_) (fun c_4 => ?_)
        · refine lv_iload_n hx hb dX1_spreadFrom_99 rfl (lv_at hl 3 rfl) ?_
          have hP9 := hP.part (cx := []) [] rfl
          have hD9 := hD.part (cx := []) [] (by decide) rfl
          have hK9 := hK.sub (tys' := []) [] rfl
          refine W.widen (k := 0) (n := 0) (Nat.le_of_ble_eq_true rfl) (Nat.le_of_ble_eq_true rfl) ?_
          exact W.zret (v := x3) hx hb hr (nz01 h01) (fun t9 ht hW => ⟨⟨_, (), rfl, h01, S8, f_1, hT, hFrS8, by rw [ht]; exact hP9, va_K.moved hW.alike hK9, hD9⟩, hS.F ht⟩) hS.2.2 dX1_spreadFrom_100
        · refine lv_aload_n hx hb dX1_spreadFrom_19 rfl (lv_at hl 2 rfl) ?_
          refine lv_iload_n hx hb dX1_spreadFrom_20 rfl (lv_at hl 1 rfl) ?_
          refine lv_iload hx hb dX1_spreadFrom_21 (lv_at hl 4 rfl) ?_
          have hPc := hP.part (cx := []) [] rfl
          have hDc := hD.part (cx := []) [] (by decide) rfl
          have hKc := hK
          have hf_5 : f_1 e1 = .inr (3, [.ref (ad 24 0), .ref (ad 25 0), .ref (ad 31 0), .ref (ad 32 0), .ref (ad 33 0)]) := hT.get hk_e1
          obtain ⟨q_6, hq_6⟩ := pl_at (X := []) (f := f_1) (e := .inr (3, [.ref (ad 24 0), .ref (ad 25 0), .ref (ad 31 0), .ref (ad 32 0), .ref (ad 33 0)])) hk_e1.1 hf_5
          refine cs_i (va_runV (As := [.int p0, .int (nI k)]) (rest := []) ⟨hx, hb, hml, hown, hts⟩ (e_X3_time l dC dI cs L ka ix ad n0 n6 n2 S8 f_1 e1 p0 (nI k) H.size hT hk_e1) (cwV 2 hts gX1_spreadFrom_X3_timeBetween rfl rfl rfl (by decide +kernel) ⟨Nat.le_of_ble_eq_true rfl, Nat.le_of_ble_eq_true rfl⟩) ⟨c_blind, va_recv hKc hPc (ci := 3) (q0 := q_6) rfl hq_6, c_pre hPc hKc hDc hN⟩ rfl rfl hl.1 rfl (lv_room (Nat.le_of_ble_eq_true rfl)) dX1_spreadFrom_23 ⟨Nat.le_of_ble_eq_true rfl, Nat.le_of_ble_eq_true rfl⟩) (fun r_7 hr_7 => ?_)
          subst hr_7
          refine lv_istore (lv' := [(5, .int (tmG S8 p0 (nI k))), (0, .ref h0), (1, .int p0), (2, .ref e1), (3, .int x3), (4, .int (nI k))]) hx hb dX1_spreadFrom_26 hl (by decide) rfl (fun ls hl => ?_)
          refine lv_iload hx hb dX1_spreadFrom_28 (lv_at hl 0 rfl) ?_
          refine lv_iconst (v := (-1)) hx hb dX1_spreadFrom_30 (by decide) ?_
          refine lv_icmp_eq (tgt := 93) hx hb dX1_spreadFrom_31 (by decide) (fun c_8 => ?_) (fun c_8 => ?_)
          · refine lv_iinc (v := nI (k + 1)) (lv' := [(4, .int (nI (k + 1))), (5, .int (tmG S8 p0 (nI k))), (0, .ref h0), (1, .int p0), (2, .ref e1), (3, .int x3)]) hx hb dX1_spreadFrom_93 hl (k := 5) rfl (by exact (nI_1 k)) (by decide) rfl (fun ls hl => ?_)
            refine lv_goto (tgt := 5) hx hb dX1_spreadFrom_96 (by decide) ?_
            exact ih (k + 1) x3 S8 (by omega) (by omega) hFrS8 h01 _ _ _ hT (hP.part (cx := _) [] rfl) (hD.part (cx := _) [] (by decide) rfl) hS ls (lv_sub hl [2, 3, 4, 5, 0] rfl)
          · refine lv_aload_n hx hb dX1_spreadFrom_34 rfl (lv_at hl 1 rfl) ?_
            have hf_9 : f_1 h0 = .inr (1, [.ref (ad 41 0), .ref (ad 42 0), .ref (ad 43 0), .ref (ad 44 0)]) := hT.get hk_h0
            obtain ⟨q_10, hq_10⟩ := pl_at (X := []) (f := f_1) (e := .inr (1, [.ref (ad 41 0), .ref (ad 42 0), .ref (ad 43 0), .ref (ad 44 0)])) hk_h0.1 hf_9
            refine va_get (D := (dC, dI)) (ci := 1) (v := .ref (ad 43 0)) (C := RX1) (T := TX1) (N := 4) hx hb hts hin1 hown hK hP q_10 hq_10 rfl 2 (by decide) (hts (.fieldLink RX1 20 "YamRiders$Leader" "pains" "[I") (by decide +kernel)) (fun _ h9 => h9) rfl dX1_spreadFrom_35 ?_
            refine lv_iload_n hx hb dX1_spreadFrom_38 rfl (lv_at hl 2 rfl) ?_
            obtain ⟨u_11, hu_11, rfl⟩ := st_of c_4
            have hf_12 : f_1 (ad 43 0) = .inl (cs 0, 12, .inl (S8 688 0)) := hT.get (hT.kf (k := 43) (by decide))
            obtain ⟨q_13, hq_13⟩ := pl_at (X := []) (f := f_1) (e := .inl (cs 0, 12, .inl (S8 688 0))) (hT.kf (k := 43) (by decide)).1 hf_12
            refine va_iald hx hb hK hP q_13 0 hq_13 rfl (vp_in_nI (by omega) (by omega)) dX1_spreadFrom_39 ?_
            refine lv_topi (fun v_14 ev_14 => ?_)
            obtain rfl : v_14 = S8 688 0 u_11 := ev_14.trans (by rw [(nI_clamp (by omega))])
            refine lv_aload_n hx hb dX1_spreadFrom_40 rfl (lv_at hl 1 rfl) ?_
            refine lv_iload_n hx hb dX1_spreadFrom_41 rfl (lv_at hl 2 rfl) ?_
            refine lv_iload hx hb dX1_spreadFrom_42 (lv_at hl 5 rfl) ?_
            refine lv_iload hx hb dX1_spreadFrom_44 (lv_at hl 0 rfl) ?_
            have hPc := hP.part (cx := []) [] rfl
            have hDc := hD.part (cx := []) [] (by decide) rfl
            have hKc := hK
            have hf_15 : f_1 h0 = .inr (1, [.ref (ad 41 0), .ref (ad 42 0), .ref (ad 43 0), .ref (ad 44 0)]) := hT.get hk_h0
            obtain ⟨q_16, hq_16⟩ := pl_at (X := []) (f := f_1) (e := .inr (1, [.ref (ad 41 0), .ref (ad 42 0), .ref (ad 43 0), .ref (ad 44 0)])) hk_h0.1 hf_15
            refine cs_i (va_runV (As := [.int (nI u_11), .int (nI k), .int (tmG S8 (nI u_11) (nI k))]) (rest := [.int (S8 688 0 u_11)]) ⟨hx, hb, hml, hown, hts⟩ (e_X1_painsOver l dC dI cs L ka ix ad n0 n6 n2 S8 f_1 h0 (nI u_11) (nI k) (tmG S8 (nI u_11) (nI k)) H.size hT hk_h0) (cwV 3 hts gX1_spreadFrom_X1_painsOver rfl rfl rfl (by decide +kernel) ⟨Nat.le_of_ble_eq_true rfl, Nat.le_of_ble_eq_true rfl⟩) ⟨c_blind, va_recv hKc hPc (ci := 1) (q0 := q_16) rfl hq_16, c_pre hPc hKc hDc hN⟩ rfl rfl hl.1 rfl (lv_room (Nat.le_of_ble_eq_true rfl)) dX1_spreadFrom_46 ⟨Nat.le_of_ble_eq_true rfl, Nat.le_of_ble_eq_true rfl⟩) (fun r_17 hr_17 => ?_)
            refine lv_iadd hx hb dX1_spreadFrom_49 ?_
            refine lv_aload_n hx hb dX1_spreadFrom_50 rfl (lv_at hl 1 rfl) ?_
            obtain ⟨q_18, hq_18⟩ := pl_at (X := []) (f := f_1) (e := .inr (1, [.ref (ad 41 0), .ref (ad 42 0), .ref (ad 43 0), .ref (ad 44 0)])) hk_h0.1 hf_15
            refine va_get (D := (dC, dI)) (ci := 1) (v := .ref (ad 43 0)) (C := RX1) (T := TX1) (N := 4) hx hb hts hin1 hown hK hP q_18 hq_18 rfl 2 (by decide) (hts (.fieldLink RX1 20 "YamRiders$Leader" "pains" "[I") (by decide +kernel)) (fun _ h9 => h9) rfl dX1_spreadFrom_51 ?_
            refine lv_iload hx hb dX1_spreadFrom_54 (lv_at hl 5 rfl) ?_
            obtain ⟨q_19, hq_19⟩ := pl_at (X := []) (f := f_1) (e := .inl (cs 0, 12, .inl (S8 688 0))) (hT.kf (k := 43) (by decide)).1 hf_12
            refine va_iald hx hb hK hP q_19 0 hq_19 rfl (vp_in_nI (by omega) (by omega)) dX1_spreadFrom_56 ?_
            refine lv_topi (fun v_20 ev_20 => ?_)
            obtain rfl : v_20 = S8 688 0 k := ev_20.trans (by rw [(nI_clamp (by omega))])
            refine lv_icmp_ge (tgt := 93) hx hb dX1_spreadFrom_57 (by decide) (fun c_21 => ?_) (fun c_21 => ?_)
            · refine lv_iinc (v := nI (k + 1)) (lv' := [(4, .int (nI (k + 1))), (5, .int (tmG S8 (nI u_11) (nI k))), (0, .ref h0), (1, .int (nI u_11)), (2, .ref e1), (3, .int x3)]) hx hb dX1_spreadFrom_93 hl (k := 5) rfl (by exact (nI_1 k)) (by decide) rfl (fun ls hl => ?_)
              refine lv_goto (tgt := 5) hx hb dX1_spreadFrom_96 (by decide) ?_
              exact ih (k + 1) x3 S8 (by omega) (by omega) hFrS8 h01 _ _ _ hT (hP.part (cx := _) [] rfl) (hD.part (cx := _) [] (by decide) rfl) hS ls (lv_sub hl [2, 3, 4, 5, 0] rfl)
            · refine lv_aload_n hx hb dX1_spreadFrom_60 rfl (lv_at hl 1 rfl) ?_
              obtain ⟨q_22, hq_22⟩ := pl_at (X := []) (f := f_1) (e := .inr (1, [.ref (ad 41 0), .ref (ad 42 0), .ref (ad 43 0), .ref (ad 44 0)])) hk_h0.1 hf_15
              refine va_get (D := (dC, dI)) (ci := 1) (v := .ref (ad 43 0)) (C := RX1) (T := TX1) (N := 4) hx hb hts hin1 hown hK hP q_22 hq_22 rfl 2 (by decide) (hts (.fieldLink RX1 20 "YamRiders$Leader" "pains" "[I") (by decide +kernel)) (fun _ h9 => h9) rfl dX1_spreadFrom_61 ?_
              refine lv_iload hx hb dX1_spreadFrom_64 (lv_at hl 5 rfl) ?_
              refine lv_aload_n hx hb dX1_spreadFrom_66 rfl (lv_at hl 1 rfl) ?_
              obtain ⟨q_23, hq_23⟩ := pl_at (X := []) (f := f_1) (e := .inr (1, [.ref (ad 41 0), .ref (ad 42 0), .ref (ad 43 0), .ref (ad 44 0)])) hk_h0.1 hf_15
              refine va_get (D := (dC, dI)) (ci := 1) (v := .ref (ad 43 0)) (C := RX1) (T := TX1) (N := 4) hx hb hts hin1 hown hK hP q_23 hq_23 rfl 2 (by decide) (hts (.fieldLink RX1 20 "YamRiders$Leader" "pains" "[I") (by decide +kernel)) (fun _ h9 => h9) rfl dX1_spreadFrom_67 ?_
              refine lv_iload_n hx hb dX1_spreadFrom_70 rfl (lv_at hl 2 rfl) ?_
              obtain ⟨q_24, hq_24⟩ := pl_at (X := []) (f := f_1) (e := .inl (cs 0, 12, .inl (S8 688 0))) (hT.kf (k := 43) (by decide)).1 hf_12
              refine va_iald hx hb hK hP q_24 0 hq_24 rfl (vp_in_nI (by omega) (by omega)) dX1_spreadFrom_71 ?_
              refine lv_topi (fun v_25 ev_25 => ?_)
              obtain rfl : v_25 = S8 688 0 u_11 := ev_25.trans (by rw [(nI_clamp (by omega))])
              refine lv_aload_n hx hb dX1_spreadFrom_72 rfl (lv_at hl 1 rfl) ?_
              refine lv_iload_n hx hb dX1_spreadFrom_73 rfl (lv_at hl 2 rfl) ?_
              refine lv_iload hx hb dX1_spreadFrom_74 (lv_at hl 5 rfl) ?_
              refine lv_iload hx hb dX1_spreadFrom_76 (lv_at hl 0 rfl) ?_
              have hPc := hP.part (cx := []) [] rfl
              have hDc := hD.part (cx := []) [] (by decide) rfl
              have hKc := hK
              obtain ⟨q_26, hq_26⟩ := pl_at (X := []) (f := f_1) (e := .inr (1, [.ref (ad 41 0), .ref (ad 42 0), .ref (ad 43 0), .ref (ad 44 0)])) hk_h0.1 hf_15
              refine cs_i (va_runV (As := [.int (nI u_11), .int (nI k), .int (tmG S8 (nI u_11) (nI k))]) (rest := [.int (S8 688 0 u_11), .int (nI k), .ref (ad 43 0)]) ⟨hx, hb, hml, hown, hts⟩ (e_X1_painsOver l dC dI cs L ka ix ad n0 n6 n2 S8 f_1 h0 (nI u_11) (nI k) (tmG S8 (nI u_11) (nI k)) H.size hT hk_h0) (cwV 3 hts gX1_spreadFrom_X1_painsOver rfl rfl rfl (by decide +kernel) ⟨Nat.le_of_ble_eq_true rfl, Nat.le_of_ble_eq_true rfl⟩) ⟨c_blind, va_recv hKc hPc (ci := 1) (q0 := q_26) rfl hq_26, c_pre hPc hKc hDc hN⟩ rfl rfl hl.1 rfl (lv_room (Nat.le_of_ble_eq_true rfl)) dX1_spreadFrom_78 ⟨Nat.le_of_ble_eq_true rfl, Nat.le_of_ble_eq_true rfl⟩) (fun r_27 hr_27 => ?_)
              refine lv_iadd hx hb dX1_spreadFrom_81 ?_
              obtain ⟨q_28, hq_28⟩ := pl_at (X := []) (f := f_1) (e := .inl (cs 0, 12, .inl (S8 688 0))) (hT.kf (k := 43) (by decide)).1 hf_12
              refine va_iast hx hb hK hP hD hS q_28 0 hq_28 rfl (vp_in_nI (by omega) (by omega)) dX1_spreadFrom_82 (fun H locs hP9 hD9 hS => ?_)
              have hs_29 := pl_st (.inl (cs 0, 12, .inl (upd (S8 688 0) (nI k).toNatClampNeg ((S8 688 0 u_11) + r_27)))) hD (hT.kf (k := 43) (by decide)).1 hf_12 hq_28
              have hP9 : va_P (dC, dI) vwCl ((([] : va_W) ++ va_pl L f_1).set q_28 ((ad 43 0), .inl (cs 0, 12, .inl (upd (S8 688 0) (nI k).toNatClampNeg ((S8 688 0 u_11) + r_27))))) H := hP9
              have hD9 : va_D A ((([] : va_W) ++ va_pl L f_1).set q_28 ((ad 43 0), .inl (cs 0, 12, .inl (upd (S8 688 0) (nI k).toNatClampNeg ((S8 688 0 u_11) + r_27))))) := hD9
              rw [hs_29] at hP9 hD9
              have hT := hT.up (c := 688) (j := k) (v := ((S8 688 0 u_11) + r_27)) (e := .inl (cs 0, 12, .inl (upd (S8 688 0) (nI k).toNatClampNeg ((S8 688 0 u_11) + r_27)))) (hT.kf (k := 43) (by decide)) rfl (hT.2.2.up (by decide) (by decide) (by decide)) (by simp only [EN]; rw [up3_a, (nI_clamp (by omega))])
              have hP := hP9
              have hD := hD9
              clear hP9 hD9 hs_29
              obtain ⟨S_31, eS_31⟩ : ∃ S9 : Nat → Nat → Nat → Int32, S9 = up3 S8 688 0 k ((S8 688 0 u_11) + r_27) := ⟨_, rfl⟩
              rw [← eS_31] at hT
              generalize va_up f_1 (ad 43 0) (.inl (cs 0, 12, .inl (upd (S8 688 0) (nI k).toNatClampNeg ((S8 688 0 u_11) + r_27)))) = f_30 at hP hD hT
              have hFr_32 : AG S S_31 := by rw [eS_31]; exact AG.up hFrS8 (by decide)
              refine lv_aload_n hx hb dX1_spreadFrom_83 rfl (lv_at hl 1 rfl) ?_
              have hf_33 : f_30 h0 = .inr (1, [.ref (ad 41 0), .ref (ad 42 0), .ref (ad 43 0), .ref (ad 44 0)]) := hT.get hk_h0
              obtain ⟨q_34, hq_34⟩ := pl_at (X := []) (f := f_30) (e := .inr (1, [.ref (ad 41 0), .ref (ad 42 0), .ref (ad 43 0), .ref (ad 44 0)])) hk_h0.1 hf_33
              refine va_get (D := (dC, dI)) (ci := 1) (v := .ref (ad 44 0)) (C := RX1) (T := TX1) (N := 4) hx hb hts hin1 hown hK hP q_34 hq_34 rfl 3 (by decide) (hts (.fieldLink RX1 23 "YamRiders$Leader" "from" "[I") (by decide +kernel)) (fun _ h9 => h9) rfl dX1_spreadFrom_84 ?_
              refine lv_iload hx hb dX1_spreadFrom_87 (lv_at hl 5 rfl) ?_
              refine lv_iload_n hx hb dX1_spreadFrom_89 rfl (lv_at hl 2 rfl) ?_
              have hf_35 : f_30 (ad 44 0) = .inl (cs 0, 12, .inl (S_31 704 0)) := hT.get (hT.kf (k := 44) (by decide))
              obtain ⟨q_36, hq_36⟩ := pl_at (X := []) (f := f_30) (e := .inl (cs 0, 12, .inl (S_31 704 0))) (hT.kf (k := 44) (by decide)).1 hf_35
              refine va_iast hx hb hK hP hD hS q_36 0 hq_36 rfl (vp_in_nI (by omega) (by omega)) dX1_spreadFrom_90 (fun H locs hP9 hD9 hS => ?_)
              have hs_37 := pl_st (.inl (cs 0, 12, .inl (upd (S_31 704 0) (nI k).toNatClampNeg (nI u_11)))) hD (hT.kf (k := 44) (by decide)).1 hf_35 hq_36
              have hP9 : va_P (dC, dI) vwCl ((([] : va_W) ++ va_pl L f_30).set q_36 ((ad 44 0), .inl (cs 0, 12, .inl (upd (S_31 704 0) (nI k).toNatClampNeg (nI u_11))))) H := hP9
              have hD9 : va_D A ((([] : va_W) ++ va_pl L f_30).set q_36 ((ad 44 0), .inl (cs 0, 12, .inl (upd (S_31 704 0) (nI k).toNatClampNeg (nI u_11))))) := hD9
              rw [hs_37] at hP9 hD9
              have hT := hT.up (c := 704) (j := k) (v := (nI u_11)) (e := .inl (cs 0, 12, .inl (upd (S_31 704 0) (nI k).toNatClampNeg (nI u_11)))) (hT.kf (k := 44) (by decide)) rfl (hT.2.2.up (by decide) (by decide) (by decide)) (by simp only [EN]; rw [up3_a, (nI_clamp (by omega))])
              have hP := hP9
              have hD := hD9
              clear hP9 hD9 hs_37
              obtain ⟨S_39, eS_39⟩ : ∃ S9 : Nat → Nat → Nat → Int32, S9 = up3 S_31 704 0 k (nI u_11) := ⟨_, rfl⟩
              rw [← eS_39] at hT
              generalize va_up f_30 (ad 44 0) (.inl (cs 0, 12, .inl (upd (S_31 704 0) (nI k).toNatClampNeg (nI u_11)))) = f_38 at hP hD hT
              have hFr_40 : AG S S_39 := by rw [eS_39]; exact AG.up hFr_32 (by decide)
              refine lv_iconst (v := 1) hx hb dX1_spreadFrom_91 (by decide) ?_
              refine lv_istore_n (lv' := [(3, .int 1), (5, .int (tmG S8 (nI u_11) (nI k))), (0, .ref h0), (1, .int (nI u_11)), (2, .ref e1), (4, .int (nI k))]) hx hb dX1_spreadFrom_92 rfl hl (by decide) rfl (fun ls hl => ?_)
              refine lv_iinc (v := nI (k + 1)) (lv' := [(4, .int (nI (k + 1))), (3, .int 1), (5, .int (tmG S8 (nI u_11) (nI k))), (0, .ref h0), (1, .int (nI u_11)), (2, .ref e1)]) hx hb dX1_spreadFrom_93 hl (k := 5) rfl (by exact (nI_1 k)) (by decide) rfl (fun ls hl => ?_)
              refine lv_goto (tgt := 5) hx hb dX1_spreadFrom_96 (by decide) ?_
              exact ih (k + 1) 1 S_39 (by omega) (by omega) hFr_40 (Or.inr rfl) _ _ _ hT (hP.part (cx := _) [] rfl) (hD.part (cx := _) [] (by decide) rfl) hS ls (lv_sub hl [3, 4, 5, 1, 0] rfl)
  exact HL 13 0 0 S (by omega) (by omega) AG.rf (Or.inl rfl) _ _ _ hT (hP.part (cx := _) [] rfl) (hD.part (cx := _) [] (by decide) rfl) hS ls (lv_sub hl [2, 3, 4, 1, 0] rfl)

set_option maxHeartbeats 4000000 in
set_option maxRecDepth 100000 in
theorem e_X1_spread (l : Launch) (dC : Nat → ClassId) (dI : Nat → Nat → Nat) (cs : Nat → ClassId) (L : List Nat) (ka : Nat → Nat) (ix : Nat → Nat) (ad : Nat → Nat → Nat) (n0 : Nat) (n6 : Nat) (n2 : Nat) (S : Nat → Nat → Nat → Int32) (f : Nat → va_E) (h0 : Nat) (e1 : Nat) (sz : Nat) (hT : tB L ka ix ad cs n0 n6 n2 S f) (hk_h0 : tpx L ka ix 1 0 h0) (hk_e1 : tpx L ka ix 3 0 e1) : Met l yX1_spread wsX1_spread ({ frames := 3, cells := 0, slots := 0, locals := 68 }) (va_Pc [.ref h0, .ref e1] (cP dC dI ([] ++ va_pl L f) (tyC cs) sz)) (va_Qv (fun (_ : Unit) => True) (fun (_ : Unit) t9 => ∃ (S2 : Nat → Nat → Nat → Int32) (f2 : Nat → va_E), (tB L ka ix ad cs n0 n6 n2 S2 f2) ∧ (AG S S2) ∧ cQ dC dI ([] ++ va_pl L f2) [] (va_A ([] ++ va_pl L f) sz) t9) (va_A ([] ++ va_pl L f) sz)) 0 0 (va_A ([] ++ va_pl L f) sz) := by
  refine Met.ofW (cc := cX1_spread) (maxL := 5) (ret := none) (by decide) rfl ?_
  intro p e s m args below meth c s₁ B hml hv
  obtain ⟨rfl, hsz, hP, hK, hD0, hN⟩ := hv
  have hx := B.exec
  have hb := B.bytes
  have hr := B.returns
  have hts := atoms_spec (ws := wsX1_spread) B.pre
  have hown : s.vm.findClass RX1 = some m.cls := findClass_of_methodNamed B.named
  have hlocks := B.notSynchronized
  subst hsz
  have hin1 : ∀ w ∈ u_ws RX1 TX1 4, w ∈ wsX1_spread := by decide +kernel
  have hD := hD0.self (sz := s.heap.size)
  generalize hAe : va_A ([] ++ va_pl L f) s.heap.size = A at hD ⊢
  have hA : ∀ q : Nat, s.heap.size ≤ q → A q := fun q h => by rw [← hAe]; exact Or.inr h
  have hS : va_S A s.heap s.heap [] := va_S.rf
  have hP : va_P (dC, dI) vwCl ([] ++ va_pl L f) s.heap := hP
  have hl := lv_entry ([.ref h0, .ref e1]) (n := 5) (Nat.le_of_ble_eq_true rfl)
  rw [lg_entry_eq]
  generalize (lg_sl ([.ref h0, .ref e1]) ++ List.replicate (5 - (lg_sl ([.ref h0, .ref e1])).length) Slot.unset).toArray = ls at hl ⊢
  have hl : lv_has ls 5 [(0, .ref h0), (1, .ref e1)] := hl
  refine lv_iconst (v := 0) hx hb dX1_spread_0 (by decide) ?_
  refine lv_istore_n (lv' := [(2, .int 0), (0, .ref h0), (1, .ref e1)]) hx hb dX1_spread_1 rfl hl (by decide) rfl (fun ls hl => ?_)
  have HL : ∀ (n k : Nat) (S8 : Nat → Nat → Nat → Int32), k ≤ 12 → 12 + 1 ≤ k + n → (AG S S8) → ∀ (f_1 : Nat → va_E) (H : Heap) (locs : List Loc), tB L ka ix ad cs n0 n6 n2 S8 f_1 → va_P (dC, dI) vwCl ([] ++ va_pl L f_1) H → va_D A ([] ++ va_pl L f_1) → va_S A s.heap H locs → ∀ ls : Array Slot, lv_has ls 5 [(0, .ref h0), (1, .ref e1), (2, .int (nI k))] → W p l e (headSpec wsX1_spread ({ frames := 3, cells := 0, slots := 0, locals := 68 })).room s m ([.ref h0, .ref e1]).toArray below meth c H locs 0 0 (MQ below (va_Qv (fun (_ : Unit) => True) (fun (_ : Unit) t9 => ∃ (S2 : Nat → Nat → Nat → Int32) (f2 : Nat → va_E), (tB L ka ix ad cs n0 n6 n2 S2 f2) ∧ (AG S S2) ∧ cQ dC dI ([] ++ va_pl L f2) [] A t9) A) ([.ref h0, .ref e1]).toArray s 0 0 A) (F0 m 2 ls []) := by
    intro n
    induction n with
    | zero => intro k S8 h1 h2; exact absurd h2 (by omega)
    | succ n ih =>
      intro k S8 hk hn hFrS8 f_1 H locs hT hP hD hS ls hl
      refine lv_iload_n hx hb dX1_spread_2 rfl (lv_at hl 2 rfl) ?_
      refine lv_bipush (v := 12) hx hb dX1_spread_3 (by decide) ?_
      refine lv_icmp_ge (tgt := 42) hx hb dX1_spread_5 (by decide) (fun c_2 => ?_) (fun c_2 => ?_)
      · have hke : k = 12 := by
          rcases Nat.lt_or_ge k 12 with q | q
          · exact absurd c_2 (nI_ge q (by decide))
          · omega
        refine lv_iconst (v := 1) hx hb dX1_spread_42 (by decide) ?_
        refine lv_istore_n (lv' := [(2, .int 1), (0, .ref h0), (1, .ref e1)]) hx hb dX1_spread_43 rfl hl (by decide) rfl (fun ls hl => ?_)
        refine lv_iconst (v := 0) hx hb dX1_spread_44 (by decide) ?_
        refine lv_istore_n (lv' := [(3, .int 0), (2, .int 1), (0, .ref h0), (1, .ref e1)]) hx hb dX1_spread_45 rfl hl (by decide) rfl (fun ls hl => ?_)
        have HL_j : ∀ (n_j j : Nat) (x2 : Int32) (S7 : Nat → Nat → Nat → Int32), j ≤ 12 → 12 + 1 ≤ j + n_j → (AG S S7) → ∀ (f_3 : Nat → va_E) (H : Heap) (locs : List Loc), tB L ka ix ad cs n0 n6 n2 S7 f_3 → va_P (dC, dI) vwCl ([] ++ va_pl L f_3) H → va_D A ([] ++ va_pl L f_3) → va_S A s.heap H locs → ∀ ls : Array Slot, lv_has ls 5 [(0, .ref h0), (1, .ref e1), (2, .int x2), (3, .int (nI j))] → W p l e (headSpec wsX1_spread ({ frames := 3, cells := 0, slots := 0, locals := 68 })).room s m ([.ref h0, .ref e1]).toArray below meth c H locs 0 0 (MQ below (va_Qv (fun (_ : Unit) => True) (fun (_ : Unit) t9 => ∃ (S2 : Nat → Nat → Nat → Int32) (f2 : Nat → va_E), (tB L ka ix ad cs n0 n6 n2 S2 f2) ∧ (AG S S2) ∧ cQ dC dI ([] ++ va_pl L f2) [] A t9) A) ([.ref h0, .ref e1]).toArray s 0 0 A) (F0 m 46 ls []) := by
          intro n_j
          induction n_j with
          | zero => intro j x2 S7 h1 h2; exact absurd h2 (by omega)
          | succ n_j ih_j =>
            intro j x2 S7 hk_j hn_j hFrS7 f_3 H locs hT hP hD hS ls hl
            refine lv_iload_n hx hb dX1_spread_46 rfl (lv_at hl 3 rfl) ?_
            refine lv_bipush (v := 12) hx hb dX1_spread_47 (by decide) ?_
            refine lv_icmp_ge (tgt := 104) hx hb dX1_spread_49 (by decide) (fun c_4 => ?_) (fun c_4 => ?_)
            · have hke_j : j = 12 := by
                rcases Nat.lt_or_ge j 12 with q | q
                · exact absurd c_4 (nI_ge q (by decide))
                · omega
              have hP9 := hP.part (cx := []) [] rfl
              have hD9 := hD.part (cx := []) [] (by decide) rfl
              have hK9 := hK.sub (tys' := []) [] rfl
              refine W.widen (k := 0) (n := 0) (Nat.le_of_ble_eq_true rfl) (Nat.le_of_ble_eq_true rfl) ?_
              exact W.vret hx hb hr (fun t9 ht hW => ⟨⟨(), rfl, trivial, S7, f_3, hT, hFrS7, by rw [ht]; exact hP9, va_K.moved hW.alike hK9, hD9⟩, hS.F ht⟩) hS.2.2 dX1_spread_104
            · have hlt_j : j < 12 := by
                rcases Nat.lt_or_ge j 12 with q | q
                · exact q
                · exact absurd (show nI 12 ≤ nI j from nI_le q (by omega)) c_4
              refine lv_iload_n hx hb dX1_spread_52 rfl (lv_at hl 2 rfl) ?_
              refine lv_if_eq (tgt := 104) hx hb dX1_spread_53 (by decide) (fun c_5 => ?_) (fun c_5 => ?_)
              · have hP9 := hP.part (cx := []) [] rfl
                have hD9 := hD.part (cx := []) [] (by decide) rfl
                have hK9 := hK.sub (tys' := []) [] rfl
                refine W.widen (k := 0) (n := 0) (Nat.le_of_ble_eq_true rfl) (Nat.le_of_ble_eq_true rfl) ?_
                exact W.vret hx hb hr (fun t9 ht hW => ⟨⟨(), rfl, trivial, S7, f_3, hT, hFrS7, by rw [ht]; exact hP9, va_K.moved hW.alike hK9, hD9⟩, hS.F ht⟩) hS.2.2 dX1_spread_104
              · refine lv_iconst (v := 0) hx hb dX1_spread_56 (by decide) ?_
                refine lv_istore_n (lv' := [(2, .int 0), (0, .ref h0), (1, .ref e1), (3, .int (nI j))]) hx hb dX1_spread_57 rfl hl (by decide) rfl (fun ls hl => ?_)
                refine lv_iconst (v := 0) hx hb dX1_spread_58 (by decide) ?_
                refine lv_istore (lv' := [(4, .int 0), (2, .int 0), (0, .ref h0), (1, .ref e1), (3, .int (nI j))]) hx hb dX1_spread_59 hl (by decide) rfl (fun ls hl => ?_)
                have HL_i : ∀ (n_i i : Nat) (y2 : Int32) (S6 : Nat → Nat → Nat → Int32), i ≤ 12 → 12 + 1 ≤ i + n_i → (AG S S6) → ∀ (f_6 : Nat → va_E) (H : Heap) (locs : List Loc), tB L ka ix ad cs n0 n6 n2 S6 f_6 → va_P (dC, dI) vwCl ([] ++ va_pl L f_6) H → va_D A ([] ++ va_pl L f_6) → va_S A s.heap H locs → ∀ ls : Array Slot, lv_has ls 5 [(0, .ref h0), (1, .ref e1), (2, .int y2), (3, .int (nI j)), (4, .int (nI i))] → W p l e (headSpec wsX1_spread ({ frames := 3, cells := 0, slots := 0, locals := 68 })).room s m ([.ref h0, .ref e1]).toArray below meth c H locs 0 0 (MQ below (va_Qv (fun (_ : Unit) => True) (fun (_ : Unit) t9 => ∃ (S2 : Nat → Nat → Nat → Int32) (f2 : Nat → va_E), (tB L ka ix ad cs n0 n6 n2 S2 f2) ∧ (AG S S2) ∧ cQ dC dI ([] ++ va_pl L f2) [] A t9) A) ([.ref h0, .ref e1]).toArray s 0 0 A) (F0 m 61 ls []) := by
                  intro n_i
                  induction n_i with
                  | zero => intro i y2 S6 h1 h2; exact absurd h2 (by omega)
                  | succ n_i ih_i =>
                    intro i y2 S6 hk_i hn_i hFrS6 f_6 H locs hT hP hD hS ls hl
                    refine lv_iload hx hb dX1_spread_61 (lv_at hl 4 rfl) ?_
                    refine lv_bipush (v := 12) hx hb dX1_spread_63 (by decide) ?_
                    refine lv_icmp_ge (tgt := 98) hx hb dX1_spread_65 (by decide) (fun c_7 => ?_) (fun c_7 => ?_)
                    · have hke_i : i = 12 := by
                        rcases Nat.lt_or_ge i 12 with q | q
                        · exact absurd c_7 (nI_ge q (by decide))
                        · omega
                      refine lv_iinc (v := nI (j + 1)) (lv' := [(3, .int (nI (j + 1))), (0, .ref h0), (1, .ref e1), (2, .int y2), (4, .int (nI i))]) hx hb dX1_spread_98 hl (k := 3) rfl (by exact (nI_1 j)) (by decide) rfl (fun ls hl => ?_)
                      refine lv_goto (tgt := 46) hx hb dX1_spread_101 (by decide) ?_
                      exact ih_j (j + 1) y2 S6 (by omega) (by omega) hFrS6 _ _ _ hT (hP.part (cx := _) [] rfl) (hD.part (cx := _) [] (by decide) rfl) hS ls (lv_sub hl [1, 2, 3, 0] rfl)
                    · have hlt_i : i < 12 := by
                        rcases Nat.lt_or_ge i 12 with q | q
                        · exact q
                        · exact absurd (show nI 12 ≤ nI i from nI_le q (by omega)) c_7
                      refine lv_aload_n hx hb dX1_spread_68 rfl (lv_at hl 0 rfl) ?_
                      have hf_8 : f_6 h0 = .inr (1, [.ref (ad 41 0), .ref (ad 42 0), .ref (ad 43 0), .ref (ad 44 0)]) := hT.get hk_h0
                      obtain ⟨q_9, hq_9⟩ := pl_at (X := []) (f := f_6) (e := .inr (1, [.ref (ad 41 0), .ref (ad 42 0), .ref (ad 43 0), .ref (ad 44 0)])) hk_h0.1 hf_8
                      refine va_get (D := (dC, dI)) (ci := 1) (v := .ref (ad 43 0)) (C := RX1) (T := TX1) (N := 4) hx hb hts hin1 hown hK hP q_9 hq_9 rfl 2 (by decide) (hts (.fieldLink RX1 20 "YamRiders$Leader" "pains" "[I") (by decide +kernel)) (fun _ h9 => h9) rfl dX1_spread_69 ?_
                      refine lv_iload hx hb dX1_spread_72 (lv_at hl 4 rfl) ?_
                      have hf_10 : f_6 (ad 43 0) = .inl (cs 0, 12, .inl (S6 688 0)) := hT.get (hT.kf (k := 43) (by decide))
                      obtain ⟨q_11, hq_11⟩ := pl_at (X := []) (f := f_6) (e := .inl (cs 0, 12, .inl (S6 688 0))) (hT.kf (k := 43) (by decide)).1 hf_10
                      refine va_iald hx hb hK hP q_11 0 hq_11 rfl (vp_in_nI (by omega) (by omega)) dX1_spread_74 ?_
                      refine lv_topi (fun v_12 ev_12 => ?_)
                      obtain rfl : v_12 = S6 688 0 i := ev_12.trans (by rw [(nI_clamp (by omega))])
                      refine lv_ldc (v := 1000000) hx hb hown (hts (.constant RX1 56 (1000000)) (by decide +kernel)) dX1_spread_75 ?_
                      refine lv_icmp_ge (tgt := 92) hx hb dX1_spread_77 (by decide) (fun c_13 => ?_) (fun c_13 => ?_)
                      · refine lv_iinc (v := nI (i + 1)) (lv' := [(4, .int (nI (i + 1))), (0, .ref h0), (1, .ref e1), (2, .int y2), (3, .int (nI j))]) hx hb dX1_spread_92 hl (k := 4) rfl (by exact (nI_1 i)) (by decide) rfl (fun ls hl => ?_)
                        refine lv_goto (tgt := 61) hx hb dX1_spread_95 (by decide) ?_
                        exact ih_i (i + 1) y2 S6 (by omega) (by omega) hFrS6 _ _ _ hT (hP.part (cx := _) [] rfl) (hD.part (cx := _) [] (by decide) rfl) hS ls (lv_sub hl [1, 2, 3, 4, 0] rfl)
                      · refine lv_aload_n hx hb dX1_spread_80 rfl (lv_at hl 0 rfl) ?_
                        refine lv_iload hx hb dX1_spread_81 (lv_at hl 4 rfl) ?_
                        refine lv_aload_n hx hb dX1_spread_83 rfl (lv_at hl 1 rfl) ?_
                        have hPc := hP.part (cx := []) [] rfl
                        have hDc := hD.part (cx := []) [] (by decide) rfl
                        have hKc := hK
                        have hFc := va_freeP (cx := []) hD hS hA [] rfl
                        obtain ⟨q_14, hq_14⟩ := pl_at (X := []) (f := f_6) (e := .inr (1, [.ref (ad 41 0), .ref (ad 42 0), .ref (ad 43 0), .ref (ad 44 0)])) hk_h0.1 hf_8
                        refine va_calli (va_runV (As := [.int (nI i), .ref e1]) (rest := []) ⟨hx, hb, hml, hown, hts⟩ (e_X1_spreadFrom l dC dI cs L ka ix ad n0 n6 n2 S6 f_6 h0 (nI i) e1 H.size hT hk_h0 hk_e1) (cwV 2 hts gX1_spread_X1_spreadFrom rfl rfl rfl (by decide +kernel) ⟨Nat.le_of_ble_eq_true rfl, Nat.le_of_ble_eq_true rfl⟩) ⟨c_blind, va_recv hKc hPc (ci := 1) (q0 := q_14) rfl hq_14, c_pre hPc hKc hDc hN⟩ rfl rfl hl.1 rfl (lv_room (Nat.le_of_ble_eq_true rfl)) dX1_spread_84 ⟨Nat.le_of_ble_eq_true rfl, Nat.le_of_ble_eq_true rfl⟩) hS (fun q _ h => hFc q h) hFc (fun r_15 u9 t9 H1 locs ht hvm hw hB hz1 hk1 hS => ?_)
                        obtain ⟨S_16, f_17, hf_x_18, hf_x_19, hP1, hK1, hD1⟩ := hB
                        rw [ht] at hP1
                        have hK1 := va_K.moved hvm.symm hK1
                        obtain ⟨hP, hD⟩ := va_joinP (X := []) (cx := []) (wr := []) (rx := []) (pl := va_pl L f_6) (pl1 := va_pl L f_17) hP hD [] [] rfl rfl (by decide) (by decide) hk1 hFc hP1 hD1
                        have hT := hf_x_18
                        generalize H1 = H at hP hS ⊢
                        have hP : va_P (dC, dI) vwCl ([] ++ va_pl L f_17) H := hP
                        have hD : va_D A ([] ++ va_pl L f_17) := hD
                        have hFr_20 := AG.tr hFrS6 hf_x_19
                        refine W.widen (k := 0) (n := 0) (Nat.le_of_ble_eq_true rfl) (Nat.le_of_ble_eq_true rfl) ?_
                        have hw_21 := hw
                        refine lv_if_eq (tgt := 92) hx hb dX1_spread_87 (by decide) (fun c_22 => ?_) (fun c_22 => ?_)
                        · refine lv_iinc (v := nI (i + 1)) (lv' := [(4, .int (nI (i + 1))), (0, .ref h0), (1, .ref e1), (2, .int y2), (3, .int (nI j))]) hx hb dX1_spread_92 hl (k := 4) rfl (by exact (nI_1 i)) (by decide) rfl (fun ls hl => ?_)
                          refine lv_goto (tgt := 61) hx hb dX1_spread_95 (by decide) ?_
                          exact ih_i (i + 1) y2 S_16 (by omega) (by omega) hFr_20 _ _ _ hT (hP.part (cx := _) [] rfl) (hD.part (cx := _) [] (by decide) rfl) hS ls (lv_sub hl [1, 2, 3, 4, 0] rfl)
                        · refine lv_iconst (v := 1) hx hb dX1_spread_90 (by decide) ?_
                          refine lv_istore_n (lv' := [(2, .int 1), (0, .ref h0), (1, .ref e1), (3, .int (nI j)), (4, .int (nI i))]) hx hb dX1_spread_91 rfl hl (by decide) rfl (fun ls hl => ?_)
                          refine lv_iinc (v := nI (i + 1)) (lv' := [(4, .int (nI (i + 1))), (2, .int 1), (0, .ref h0), (1, .ref e1), (3, .int (nI j))]) hx hb dX1_spread_92 hl (k := 4) rfl (by exact (nI_1 i)) (by decide) rfl (fun ls hl => ?_)
                          refine lv_goto (tgt := 61) hx hb dX1_spread_95 (by decide) ?_
                          exact ih_i (i + 1) 1 S_16 (by omega) (by omega) hFr_20 _ _ _ hT (hP.part (cx := _) [] rfl) (hD.part (cx := _) [] (by decide) rfl) hS ls (lv_sub hl [2, 3, 1, 4, 0] rfl)
                exact HL_i 13 0 0 S7 (by omega) (by omega) hFrS7 _ _ _ hT (hP.part (cx := _) [] rfl) (hD.part (cx := _) [] (by decide) rfl) hS ls (lv_sub hl [2, 3, 1, 4, 0] rfl)
        exact HL_j 13 0 1 S8 (by omega) (by omega) hFrS8 _ _ _ hT (hP.part (cx := _) [] rfl) (hD.part (cx := _) [] (by decide) rfl) hS ls (lv_sub hl [2, 3, 1, 0] rfl)
      · have hlt : k < 12 := by
          rcases Nat.lt_or_ge k 12 with q | q
          · exact q
          · exact absurd (show nI 12 ≤ nI k from nI_le q (by omega)) c_2
        refine lv_aload_n hx hb dX1_spread_8 rfl (lv_at hl 0 rfl) ?_
        have hf_23 : f_1 h0 = .inr (1, [.ref (ad 41 0), .ref (ad 42 0), .ref (ad 43 0), .ref (ad 44 0)]) := hT.get hk_h0
        obtain ⟨q_24, hq_24⟩ := pl_at (X := []) (f := f_1) (e := .inr (1, [.ref (ad 41 0), .ref (ad 42 0), .ref (ad 43 0), .ref (ad 44 0)])) hk_h0.1 hf_23
        refine va_get (D := (dC, dI)) (ci := 1) (v := .ref (ad 43 0)) (C := RX1) (T := TX1) (N := 4) hx hb hts hin1 hown hK hP q_24 hq_24 rfl 2 (by decide) (hts (.fieldLink RX1 20 "YamRiders$Leader" "pains" "[I") (by decide +kernel)) (fun _ h9 => h9) rfl dX1_spread_9 ?_
        refine lv_iload_n hx hb dX1_spread_12 rfl (lv_at hl 2 rfl) ?_
        refine lv_aload_n hx hb dX1_spread_13 rfl (lv_at hl 0 rfl) ?_
        obtain ⟨q_25, hq_25⟩ := pl_at (X := []) (f := f_1) (e := .inr (1, [.ref (ad 41 0), .ref (ad 42 0), .ref (ad 43 0), .ref (ad 44 0)])) hk_h0.1 hf_23
        refine va_get (D := (dC, dI)) (ci := 1) (v := .ref (ad 41 0)) (C := RX1) (T := TX1) (N := 4) hx hb hts hin1 hown hK hP q_25 hq_25 rfl 0 (by decide) (hts (.fieldLink RX1 9 "YamRiders$Leader" "spare" "[I") (by decide +kernel)) (fun _ h9 => h9) rfl dX1_spread_14 ?_
        refine lv_iload_n hx hb dX1_spread_17 rfl (lv_at hl 2 rfl) ?_
        have hf_26 : f_1 (ad 41 0) = .inl (cs 0, 12, .inl (S8 656 0)) := hT.get (hT.kf (k := 41) (by decide))
        obtain ⟨q_27, hq_27⟩ := pl_at (X := []) (f := f_1) (e := .inl (cs 0, 12, .inl (S8 656 0))) (hT.kf (k := 41) (by decide)).1 hf_26
        refine va_iald hx hb hK hP q_27 0 hq_27 rfl (vp_in_nI (by omega) (by omega)) dX1_spread_18 ?_
        refine lv_topi (fun v_28 ev_28 => ?_)
        obtain rfl : v_28 = S8 656 0 k := ev_28.trans (by rw [(nI_clamp (by omega))])
        refine lv_if_le (tgt := 26) hx hb dX1_spread_19 (by decide) (fun c_29 => ?_) (fun c_29 => ?_)
        · refine lv_ldc (v := 1000000) hx hb hown (hts (.constant RX1 56 (1000000)) (by decide +kernel)) dX1_spread_26 ?_
          have hf_30 : f_1 (ad 43 0) = .inl (cs 0, 12, .inl (S8 688 0)) := hT.get (hT.kf (k := 43) (by decide))
          obtain ⟨q_31, hq_31⟩ := pl_at (X := []) (f := f_1) (e := .inl (cs 0, 12, .inl (S8 688 0))) (hT.kf (k := 43) (by decide)).1 hf_30
          refine va_iast hx hb hK hP hD hS q_31 0 hq_31 rfl (vp_in_nI (by omega) (by omega)) dX1_spread_28 (fun H locs hP9 hD9 hS => ?_)
          have hs_32 := pl_st (.inl (cs 0, 12, .inl (upd (S8 688 0) (nI k).toNatClampNeg 1000000))) hD (hT.kf (k := 43) (by decide)).1 hf_30 hq_31
          have hP9 : va_P (dC, dI) vwCl ((([] : va_W) ++ va_pl L f_1).set q_31 ((ad 43 0), .inl (cs 0, 12, .inl (upd (S8 688 0) (nI k).toNatClampNeg 1000000)))) H := hP9
          have hD9 : va_D A ((([] : va_W) ++ va_pl L f_1).set q_31 ((ad 43 0), .inl (cs 0, 12, .inl (upd (S8 688 0) (nI k).toNatClampNeg 1000000)))) := hD9
          rw [hs_32] at hP9 hD9
          have hT := hT.up (c := 688) (j := k) (v := 1000000) (e := .inl (cs 0, 12, .inl (upd (S8 688 0) (nI k).toNatClampNeg 1000000))) (hT.kf (k := 43) (by decide)) rfl (hT.2.2.up (by decide) (by decide) (by decide)) (by simp only [EN]; rw [up3_a, (nI_clamp (by omega))])
          have hP := hP9
          have hD := hD9
          clear hP9 hD9 hs_32
          obtain ⟨S_34, eS_34⟩ : ∃ S9 : Nat → Nat → Nat → Int32, S9 = up3 S8 688 0 k 1000000 := ⟨_, rfl⟩
          rw [← eS_34] at hT
          generalize va_up f_1 (ad 43 0) (.inl (cs 0, 12, .inl (upd (S8 688 0) (nI k).toNatClampNeg 1000000))) = f_33 at hP hD hT
          have hFr_35 : AG S S_34 := by rw [eS_34]; exact AG.up hFrS8 (by decide)
          refine lv_aload_n hx hb dX1_spread_29 rfl (lv_at hl 0 rfl) ?_
          have hf_36 : f_33 h0 = .inr (1, [.ref (ad 41 0), .ref (ad 42 0), .ref (ad 43 0), .ref (ad 44 0)]) := hT.get hk_h0
          obtain ⟨q_37, hq_37⟩ := pl_at (X := []) (f := f_33) (e := .inr (1, [.ref (ad 41 0), .ref (ad 42 0), .ref (ad 43 0), .ref (ad 44 0)])) hk_h0.1 hf_36
          refine va_get (D := (dC, dI)) (ci := 1) (v := .ref (ad 44 0)) (C := RX1) (T := TX1) (N := 4) hx hb hts hin1 hown hK hP q_37 hq_37 rfl 3 (by decide) (hts (.fieldLink RX1 23 "YamRiders$Leader" "from" "[I") (by decide +kernel)) (fun _ h9 => h9) rfl dX1_spread_30 ?_
          refine lv_iload_n hx hb dX1_spread_33 rfl (lv_at hl 2 rfl) ?_
          refine lv_iconst (v := (-1)) hx hb dX1_spread_34 (by decide) ?_
          have hf_38 : f_33 (ad 44 0) = .inl (cs 0, 12, .inl (S_34 704 0)) := hT.get (hT.kf (k := 44) (by decide))
          obtain ⟨q_39, hq_39⟩ := pl_at (X := []) (f := f_33) (e := .inl (cs 0, 12, .inl (S_34 704 0))) (hT.kf (k := 44) (by decide)).1 hf_38
          refine va_iast hx hb hK hP hD hS q_39 0 hq_39 rfl (vp_in_nI (by omega) (by omega)) dX1_spread_35 (fun H locs hP9 hD9 hS => ?_)
          have hs_40 := pl_st (.inl (cs 0, 12, .inl (upd (S_34 704 0) (nI k).toNatClampNeg (-1)))) hD (hT.kf (k := 44) (by decide)).1 hf_38 hq_39
          have hP9 : va_P (dC, dI) vwCl ((([] : va_W) ++ va_pl L f_33).set q_39 ((ad 44 0), .inl (cs 0, 12, .inl (upd (S_34 704 0) (nI k).toNatClampNeg (-1))))) H := hP9
          have hD9 : va_D A ((([] : va_W) ++ va_pl L f_33).set q_39 ((ad 44 0), .inl (cs 0, 12, .inl (upd (S_34 704 0) (nI k).toNatClampNeg (-1))))) := hD9
          rw [hs_40] at hP9 hD9
          have hT := hT.up (c := 704) (j := k) (v := (-1)) (e := .inl (cs 0, 12, .inl (upd (S_34 704 0) (nI k).toNatClampNeg (-1)))) (hT.kf (k := 44) (by decide)) rfl (hT.2.2.up (by decide) (by decide) (by decide)) (by simp only [EN]; rw [up3_a, (nI_clamp (by omega))])
          have hP := hP9
          have hD := hD9
          clear hP9 hD9 hs_40
          obtain ⟨S_42, eS_42⟩ : ∃ S9 : Nat → Nat → Nat → Int32, S9 = up3 S_34 704 0 k (-1) := ⟨_, rfl⟩
          rw [← eS_42] at hT
          generalize va_up f_33 (ad 44 0) (.inl (cs 0, 12, .inl (upd (S_34 704 0) (nI k).toNatClampNeg (-1)))) = f_41 at hP hD hT
          have hFr_43 : AG S S_42 := by rw [eS_42]; exact AG.up hFr_35 (by decide)
          refine lv_iinc (v := nI (k + 1)) (lv' := [(2, .int (nI (k + 1))), (0, .ref h0), (1, .ref e1)]) hx hb dX1_spread_36 hl (k := 2) rfl (by exact (nI_1 k)) (by decide) rfl (fun ls hl => ?_)
          refine lv_goto (tgt := 2) hx hb dX1_spread_39 (by decide) ?_
          exact ih (k + 1) S_42 (by omega) (by omega) hFr_43 _ _ _ hT (hP.part (cx := _) [] rfl) (hD.part (cx := _) [] (by decide) rfl) hS ls (lv_sub hl [1, 2, 0] rfl)
        · refine lv_iconst (v := 0) hx hb dX1_spread_22 (by decide) ?_
          refine lv_goto (tgt := 28) hx hb dX1_spread_23 (by decide) ?_
          have hf_44 : f_1 (ad 43 0) = .inl (cs 0, 12, .inl (S8 688 0)) := hT.get (hT.kf (k := 43) (by decide))
          obtain ⟨q_45, hq_45⟩ := pl_at (X := []) (f := f_1) (e := .inl (cs 0, 12, .inl (S8 688 0))) (hT.kf (k := 43) (by decide)).1 hf_44
          refine va_iast hx hb hK hP hD hS q_45 0 hq_45 rfl (vp_in_nI (by omega) (by omega)) dX1_spread_28 (fun H locs hP9 hD9 hS => ?_)
          have hs_46 := pl_st (.inl (cs 0, 12, .inl (upd (S8 688 0) (nI k).toNatClampNeg 0))) hD (hT.kf (k := 43) (by decide)).1 hf_44 hq_45
          have hP9 : va_P (dC, dI) vwCl ((([] : va_W) ++ va_pl L f_1).set q_45 ((ad 43 0), .inl (cs 0, 12, .inl (upd (S8 688 0) (nI k).toNatClampNeg 0)))) H := hP9
          have hD9 : va_D A ((([] : va_W) ++ va_pl L f_1).set q_45 ((ad 43 0), .inl (cs 0, 12, .inl (upd (S8 688 0) (nI k).toNatClampNeg 0)))) := hD9
          rw [hs_46] at hP9 hD9
          have hT := hT.up (c := 688) (j := k) (v := 0) (e := .inl (cs 0, 12, .inl (upd (S8 688 0) (nI k).toNatClampNeg 0))) (hT.kf (k := 43) (by decide)) rfl (hT.2.2.up (by decide) (by decide) (by decide)) (by simp only [EN]; rw [up3_a, (nI_clamp (by omega))])
          have hP := hP9
          have hD := hD9
          clear hP9 hD9 hs_46
          obtain ⟨S_48, eS_48⟩ : ∃ S9 : Nat → Nat → Nat → Int32, S9 = up3 S8 688 0 k 0 := ⟨_, rfl⟩
          rw [← eS_48] at hT
          generalize va_up f_1 (ad 43 0) (.inl (cs 0, 12, .inl (upd (S8 688 0) (nI k).toNatClampNeg 0))) = f_47 at hP hD hT
          have hFr_49 : AG S S_48 := by rw [eS_48]; exact AG.up hFrS8 (by decide)
          refine lv_aload_n hx hb dX1_spread_29 rfl (lv_at hl 0 rfl) ?_
          have hf_50 : f_47 h0 = .inr (1, [.ref (ad 41 0), .ref (ad 42 0), .ref (ad 43 0), .ref (ad 44 0)]) := hT.get hk_h0
          obtain ⟨q_51, hq_51⟩ := pl_at (X := []) (f := f_47) (e := .inr (1, [.ref (ad 41 0), .ref (ad 42 0), .ref (ad 43 0), .ref (ad 44 0)])) hk_h0.1 hf_50
          refine va_get (D := (dC, dI)) (ci := 1) (v := .ref (ad 44 0)) (C := RX1) (T := TX1) (N := 4) hx hb hts hin1 hown hK hP q_51 hq_51 rfl 3 (by decide) (hts (.fieldLink RX1 23 "YamRiders$Leader" "from" "[I") (by decide +kernel)) (fun _ h9 => h9) rfl dX1_spread_30 ?_
          refine lv_iload_n hx hb dX1_spread_33 rfl (lv_at hl 2 rfl) ?_
          refine lv_iconst (v := (-1)) hx hb dX1_spread_34 (by decide) ?_
          have hf_52 : f_47 (ad 44 0) = .inl (cs 0, 12, .inl (S_48 704 0)) := hT.get (hT.kf (k := 44) (by decide))
          obtain ⟨q_53, hq_53⟩ := pl_at (X := []) (f := f_47) (e := .inl (cs 0, 12, .inl (S_48 704 0))) (hT.kf (k := 44) (by decide)).1 hf_52
          refine va_iast hx hb hK hP hD hS q_53 0 hq_53 rfl (vp_in_nI (by omega) (by omega)) dX1_spread_35 (fun H locs hP9 hD9 hS => ?_)
          have hs_54 := pl_st (.inl (cs 0, 12, .inl (upd (S_48 704 0) (nI k).toNatClampNeg (-1)))) hD (hT.kf (k := 44) (by decide)).1 hf_52 hq_53
          have hP9 : va_P (dC, dI) vwCl ((([] : va_W) ++ va_pl L f_47).set q_53 ((ad 44 0), .inl (cs 0, 12, .inl (upd (S_48 704 0) (nI k).toNatClampNeg (-1))))) H := hP9
          have hD9 : va_D A ((([] : va_W) ++ va_pl L f_47).set q_53 ((ad 44 0), .inl (cs 0, 12, .inl (upd (S_48 704 0) (nI k).toNatClampNeg (-1))))) := hD9
          rw [hs_54] at hP9 hD9
          have hT := hT.up (c := 704) (j := k) (v := (-1)) (e := .inl (cs 0, 12, .inl (upd (S_48 704 0) (nI k).toNatClampNeg (-1)))) (hT.kf (k := 44) (by decide)) rfl (hT.2.2.up (by decide) (by decide) (by decide)) (by simp only [EN]; rw [up3_a, (nI_clamp (by omega))])
          have hP := hP9
          have hD := hD9
          clear hP9 hD9 hs_54
          obtain ⟨S_56, eS_56⟩ : ∃ S9 : Nat → Nat → Nat → Int32, S9 = up3 S_48 704 0 k (-1) := ⟨_, rfl⟩
          rw [← eS_56] at hT
          generalize va_up f_47 (ad 44 0) (.inl (cs 0, 12, .inl (upd (S_48 704 0) (nI k).toNatClampNeg (-1)))) = f_55 at hP hD hT
          have hFr_57 : AG S S_56 := by rw [eS_56]; exact AG.up hFr_49 (by decide)
          refine lv_iinc (v := nI (k + 1)) (lv' := [(2, .int (nI (k + 1))), (0, .ref h0), (1, .ref e1)]) hx hb dX1_spread_36 hl (k := 2) rfl (by exact (nI_1 k)) (by decide) rfl (fun ls hl => ?_)
          refine lv_goto (tgt := 2) hx hb dX1_spread_39 (by decide) ?_
          exact ih (k + 1) S_56 (by omega) (by omega) hFr_57 _ _ _ hT (hP.part (cx := _) [] rfl) (hD.part (cx := _) [] (by decide) rfl) hS ls (lv_sub hl [1, 2, 0] rfl)
  exact HL 13 0 S (by omega) (by omega) AG.rf _ _ _ hT (hP.part (cx := _) [] rfl) (hD.part (cx := _) [] (by decide) rfl) hS ls (lv_sub hl [1, 2, 0] rfl)

set_option maxHeartbeats 4000000 in
set_option maxRecDepth 100000 in
theorem e_X1_horsesAlong (l : Launch) (dC : Nat → ClassId) (dI : Nat → Nat → Nat) (cs : Nat → ClassId) (L : List Nat) (ka : Nat → Nat) (ix : Nat → Nat) (ad : Nat → Nat → Nat) (n0 : Nat) (n6 : Nat) (n2 : Nat) (S : Nat → Nat → Nat → Int32) (f : Nat → va_E) (h0 : Nat) (p0 : Int32) (sz : Nat) (hT : tB L ka ix ad cs n0 n6 n2 S f) (hk_h0 : tpx L ka ix 1 0 h0) : Met l yX1_horsesAlong wsX1_horsesAlong ({ frames := 1, cells := 0, slots := 0, locals := 24 }) (va_Pc [.ref h0, .int p0] (cP dC dI ([] ++ va_pl L f) (tyC cs) sz)) (vp_Si (fun _ => True)) 0 0 (fun _ => False) := by
  refine Met.ofW (cc := cX1_horsesAlong) (maxL := 6) (ret := (some .int)) (by decide) rfl ?_
  intro p e s m args below meth c s₁ B hml hv
  obtain ⟨rfl, hsz, hP, hK, hD0, hN⟩ := hv
  have hx := B.exec
  have hb := B.bytes
  have hr := B.returns
  have hts := atoms_spec (ws := wsX1_horsesAlong) B.pre
  have hown : s.vm.findClass RX1 = some m.cls := findClass_of_methodNamed B.named
  have hlocks := B.notSynchronized
  subst hsz
  have hin1 : ∀ w ∈ u_ws RX1 TX1 4, w ∈ wsX1_horsesAlong := by decide +kernel
  have hD := hD0
  have hP : va_P (dC, dI) vwCl ([] ++ va_pl L f) s.heap := hP
  have hl := lv_entry ([.ref h0, .int p0]) (n := 6) (Nat.le_of_ble_eq_true rfl)
  rw [lg_entry_eq]
  generalize (lg_sl ([.ref h0, .int p0]) ++ List.replicate (6 - (lg_sl ([.ref h0, .int p0])).length) Slot.unset).toArray = ls at hl ⊢
  have hl : lv_has ls 6 [(0, .ref h0), (1, .int p0)] := hl
  refine lv_iload_n hx hb dX1_horsesAlong_0 rfl (lv_at hl 1 rfl) ?_
  have hPc := hP.sub (ws' := []) [] rfl
  have hDc := hD.sub (ws' := []) [] (by decide) rfl
  have hKc := hK.sub (tys' := []) [] rfl
  refine cs_i (va_runSN (As := [.int p0]) (rest := []) ⟨hx, hb, hml, hown, hts⟩ (c_X8_isStation l dC dI p0 s.heap.size) ⟨va_cnB 1 hts ggX1_horsesAlong_X8_isStation rfl rfl rfl (hN.1 (.methodLinkNest RX1 26 yX8_isStation "YamRiders") (by decide +kernel)) (hts (.initialized RX8) (by decide +kernel)) (by decide +kernel) ⟨Nat.le_of_ble_eq_true rfl, Nat.le_of_ble_eq_true rfl⟩, hts (.static yX8_isStation) (by decide +kernel), trivial⟩ ⟨c_blind, c_pre hPc hKc hDc hN⟩ rfl rfl hl.1 rfl (lv_room (Nat.le_of_ble_eq_true rfl)) dX1_horsesAlong_1 ⟨Nat.le_of_ble_eq_true rfl, Nat.le_of_ble_eq_true rfl⟩) (fun r_1 hr_1 => ?_)
  subst hr_1
  refine lv_if_ne (tgt := 9) hx hb dX1_horsesAlong_4 (by decide) (fun c_2 => ?_) (fun c_2 => ?_)
  · refine lv_aload_n hx hb dX1_horsesAlong_9 rfl (lv_at hl 0 rfl) ?_
    have hf_3 : f h0 = .inr (1, [.ref (ad 41 0), .ref (ad 42 0), .ref (ad 43 0), .ref (ad 44 0)]) := hT.get hk_h0
    obtain ⟨q_4, hq_4⟩ := pl_at (X := []) (f := f) (e := .inr (1, [.ref (ad 41 0), .ref (ad 42 0), .ref (ad 43 0), .ref (ad 44 0)])) hk_h0.1 hf_3
    refine va_get (D := (dC, dI)) (ci := 1) (v := .ref (ad 41 0)) (C := RX1) (T := TX1) (N := 4) hx hb hts hin1 hown hK hP q_4 hq_4 rfl 0 (by decide) (hts (.fieldLink RX1 9 "YamRiders$Leader" "spare" "[I") (by decide +kernel)) (fun _ h9 => h9) rfl dX1_horsesAlong_10 ?_
    refine lv_iload_n hx hb dX1_horsesAlong_13 rfl (lv_at hl 1 rfl) ?_
    obtain ⟨u_5, hu_5, rfl⟩ := st_of c_2
    have hf_6 : f (ad 41 0) = .inl (cs 0, 12, .inl (S 656 0)) := hT.get (hT.kf (k := 41) (by decide))
    obtain ⟨q_7, hq_7⟩ := pl_at (X := []) (f := f) (e := .inl (cs 0, 12, .inl (S 656 0))) (hT.kf (k := 41) (by decide)).1 hf_6
    refine va_iald hx hb hK hP q_7 0 hq_7 rfl (vp_in_nI (by omega) (by omega)) dX1_horsesAlong_14 ?_
    refine lv_topi (fun v_8 ev_8 => ?_)
    obtain rfl : v_8 = S 656 0 u_5 := ev_8.trans (by rw [(nI_clamp (by omega))])
    refine lv_ineg hx hb dX1_horsesAlong_15 ?_
    refine lv_topi (fun v_9 ev_9 => ?_)
    refine lv_istore_n (lv' := [(2, .int v_9), (0, .ref h0), (1, .int (nI u_5))]) hx hb dX1_horsesAlong_16 rfl hl (by decide) rfl (fun ls hl => ?_)
    refine lv_iload_n hx hb dX1_horsesAlong_17 rfl (lv_at hl 2 rfl) ?_
    refine lv_istore_n (lv' := [(3, .int (nI u_5)), (2, .int v_9), (0, .ref h0), (1, .int (nI u_5))]) hx hb dX1_horsesAlong_18 rfl hl (by decide) rfl (fun ls hl => ?_)
    refine lv_iconst (v := 0) hx hb dX1_horsesAlong_19 (by decide) ?_
    refine lv_istore (lv' := [(4, .int 0), (3, .int (nI u_5)), (2, .int v_9), (0, .ref h0), (1, .int (nI u_5))]) hx hb dX1_horsesAlong_20 hl (by decide) rfl (fun ls hl => ?_)
    have HL : ∀ (n k : Nat) (x2 : Int32) (x3 : Int32), k ≤ 12 → 12 + 1 ≤ k + n → (¬ sp_st x3 = 0) → ∀ ls : Array Slot, lv_has ls 6 [(0, .ref h0), (1, .int (nI u_5)), (2, .int x2), (3, .int x3), (4, .int (nI k))] → W p l e (headSpec wsX1_horsesAlong ({ frames := 1, cells := 0, slots := 0, locals := 24 })).room s m ([.ref h0, .int (nI u_5)]).toArray below meth c s.heap [] 0 0 (MQ below (vp_Si (fun _ => True)) ([.ref h0, .int (nI u_5)]).toArray s 0 0 (fun _ => False)) (F0 m 22 ls []) := by
      intro n
      induction n with
      | zero => intro k x2 x3 h1 h2; exact absurd h2 (by omega)
      | succ n ih =>
        intro k x2 x3 hk hn hst ls hl
        refine lv_iload hx hb dX1_horsesAlong_22 (lv_at hl 4 rfl) ?_
        refine lv_bipush (v := 12) hx hb dX1_horsesAlong_24 (by decide) ?_
        refine lv_icmp_ge (tgt := 84) hx hb dX1_horsesAlong_26 (by decide) (fun c_10 => ?_) (fun c_10 => ?_)
        · have hke : k = 12 := by
            rcases Nat.lt_or_ge k 12 with q | q
            · exact absurd c_10 (nI_ge q (by decide))
            · omega
          refine lv_iload_n hx hb dX1_horsesAlong_84 rfl (lv_at hl 2 rfl) ?_
          refine lv_aload_n hx hb dX1_horsesAlong_85 rfl (lv_at hl 0 rfl) ?_
          have hf_11 : f h0 = .inr (1, [.ref (ad 41 0), .ref (ad 42 0), .ref (ad 43 0), .ref (ad 44 0)]) := hT.get hk_h0
          obtain ⟨q_12, hq_12⟩ := pl_at (X := []) (f := f) (e := .inr (1, [.ref (ad 41 0), .ref (ad 42 0), .ref (ad 43 0), .ref (ad 44 0)])) hk_h0.1 hf_11
          refine va_get (D := (dC, dI)) (ci := 1) (v := .ref (ad 41 0)) (C := RX1) (T := TX1) (N := 4) hx hb hts hin1 hown hK hP q_12 hq_12 rfl 0 (by decide) (hts (.fieldLink RX1 9 "YamRiders$Leader" "spare" "[I") (by decide +kernel)) (fun _ h9 => h9) rfl dX1_horsesAlong_86 ?_
          refine lv_iload_n hx hb dX1_horsesAlong_89 rfl (lv_at hl 3 rfl) ?_
          obtain ⟨u_13, hu_13, eu_13⟩ := st_of hst
          have hf_14 : f (ad 41 0) = .inl (cs 0, 12, .inl (S 656 0)) := hT.get (hT.kf (k := 41) (by decide))
          obtain ⟨q_15, hq_15⟩ := pl_at (X := []) (f := f) (e := .inl (cs 0, 12, .inl (S 656 0))) (hT.kf (k := 41) (by decide)).1 hf_14
          refine va_iald hx hb hK hP q_15 0 hq_15 rfl (by rw [eu_13]; exact vp_in_nI (by omega) (by omega)) dX1_horsesAlong_90 ?_
          refine lv_topi (fun v_16 ev_16 => ?_)
          obtain rfl : v_16 = S 656 0 u_13 := ev_16.trans (by rw [(show (x3).toNatClampNeg = u_13 from by rw [eu_13]; exact nI_clamp (by omega))])
          refine va_mmin (x := x2) (y := S 656 0 u_13) hx hb (by rw [hml]; exact hl.1.symm) hown (hts (.methodLink RX1 71 Lib.Math.min.name) (by decide +kernel)) (hts (.static Lib.Math.min.name) (by decide +kernel)) (hts (.initialized "java/lang/Math") (by decide +kernel)) (hts (.code Lib.Math.min.name Lib.Math.min.code 2 (some .int)) (by decide +kernel)) (Nat.le_of_ble_eq_true rfl) (Nat.le_of_ble_eq_true rfl) (Nat.le_of_ble_eq_true rfl) (Nat.le_of_ble_eq_true rfl) dX1_horsesAlong_91 ?_
          refine lv_topi (fun v_17 ev_17 => ?_)
          exact W.iret (v := v_17) hx hb hr (fun t9 ht hW => ⟨_, rfl, trivial, ht⟩) (fun q h => nomatch h) dX1_horsesAlong_94
        · have hlt : k < 12 := by
            rcases Nat.lt_or_ge k 12 with q | q
            · exact q
            · exact absurd (show nI 12 ≤ nI k from nI_le q (by omega)) c_10
          refine lv_aload_n hx hb dX1_horsesAlong_29 rfl (lv_at hl 0 rfl) ?_
          have hf_18 : f h0 = .inr (1, [.ref (ad 41 0), .ref (ad 42 0), .ref (ad 43 0), .ref (ad 44 0)]) := hT.get hk_h0
          obtain ⟨q_19, hq_19⟩ := pl_at (X := []) (f := f) (e := .inr (1, [.ref (ad 41 0), .ref (ad 42 0), .ref (ad 43 0), .ref (ad 44 0)])) hk_h0.1 hf_18
          refine va_get (D := (dC, dI)) (ci := 1) (v := .ref (ad 44 0)) (C := RX1) (T := TX1) (N := 4) hx hb hts hin1 hown hK hP q_19 hq_19 rfl 3 (by decide) (hts (.fieldLink RX1 23 "YamRiders$Leader" "from" "[I") (by decide +kernel)) (fun _ h9 => h9) rfl dX1_horsesAlong_30 ?_
          refine lv_iload_n hx hb dX1_horsesAlong_33 rfl (lv_at hl 3 rfl) ?_
          obtain ⟨u_20, hu_20, eu_20⟩ := st_of hst
          have hf_21 : f (ad 44 0) = .inl (cs 0, 12, .inl (S 704 0)) := hT.get (hT.kf (k := 44) (by decide))
          obtain ⟨q_22, hq_22⟩ := pl_at (X := []) (f := f) (e := .inl (cs 0, 12, .inl (S 704 0))) (hT.kf (k := 44) (by decide)).1 hf_21
          refine va_iald hx hb hK hP q_22 0 hq_22 rfl (by rw [eu_20]; exact vp_in_nI (by omega) (by omega)) dX1_horsesAlong_34 ?_
          refine lv_topi (fun v_23 ev_23 => ?_)
          obtain rfl : v_23 = S 704 0 u_20 := ev_23.trans (by rw [(show (x3).toNatClampNeg = u_20 from by rw [eu_20]; exact nI_clamp (by omega))])
          have hPc := hP.sub (ws' := []) [] rfl
          have hDc := hD.sub (ws' := []) [] (by decide) rfl
          have hKc := hK.sub (tys' := []) [] rfl
          refine cs_i (va_runSN (As := [.int (S 704 0 u_20)]) (rest := []) ⟨hx, hb, hml, hown, hts⟩ (c_X8_isStation l dC dI (S 704 0 u_20) s.heap.size) ⟨va_cnB 1 hts ggX1_horsesAlong_X8_isStation rfl rfl rfl (hN.1 (.methodLinkNest RX1 26 yX8_isStation "YamRiders") (by decide +kernel)) (hts (.initialized RX8) (by decide +kernel)) (by decide +kernel) ⟨Nat.le_of_ble_eq_true rfl, Nat.le_of_ble_eq_true rfl⟩, hts (.static yX8_isStation) (by decide +kernel), trivial⟩ ⟨c_blind, c_pre hPc hKc hDc hN⟩ rfl rfl hl.1 rfl (lv_room (Nat.le_of_ble_eq_true rfl)) dX1_horsesAlong_35 ⟨Nat.le_of_ble_eq_true rfl, Nat.le_of_ble_eq_true rfl⟩) (fun r_24 hr_24 => ?_)
          subst hr_24
          refine lv_if_eq (tgt := 84) hx hb dX1_horsesAlong_38 (by decide) (fun c_25 => ?_) (fun c_25 => ?_)
          · refine lv_iload_n hx hb dX1_horsesAlong_84 rfl (lv_at hl 2 rfl) ?_
            refine lv_aload_n hx hb dX1_horsesAlong_85 rfl (lv_at hl 0 rfl) ?_
            obtain ⟨q_26, hq_26⟩ := pl_at (X := []) (f := f) (e := .inr (1, [.ref (ad 41 0), .ref (ad 42 0), .ref (ad 43 0), .ref (ad 44 0)])) hk_h0.1 hf_18
            refine va_get (D := (dC, dI)) (ci := 1) (v := .ref (ad 41 0)) (C := RX1) (T := TX1) (N := 4) hx hb hts hin1 hown hK hP q_26 hq_26 rfl 0 (by decide) (hts (.fieldLink RX1 9 "YamRiders$Leader" "spare" "[I") (by decide +kernel)) (fun _ h9 => h9) rfl dX1_horsesAlong_86 ?_
            refine lv_iload_n hx hb dX1_horsesAlong_89 rfl (lv_at hl 3 rfl) ?_
            have hf_27 : f (ad 41 0) = .inl (cs 0, 12, .inl (S 656 0)) := hT.get (hT.kf (k := 41) (by decide))
            obtain ⟨q_28, hq_28⟩ := pl_at (X := []) (f := f) (e := .inl (cs 0, 12, .inl (S 656 0))) (hT.kf (k := 41) (by decide)).1 hf_27
            refine va_iald hx hb hK hP q_28 0 hq_28 rfl (by rw [eu_20]; exact vp_in_nI (by omega) (by omega)) dX1_horsesAlong_90 ?_
            refine lv_topi (fun v_29 ev_29 => ?_)
            obtain rfl : v_29 = S 656 0 u_20 := ev_29.trans (by rw [(show (x3).toNatClampNeg = u_20 from by rw [eu_20]; exact nI_clamp (by omega))])
            refine va_mmin (x := x2) (y := S 656 0 u_20) hx hb (by rw [hml]; exact hl.1.symm) hown (hts (.methodLink RX1 71 Lib.Math.min.name) (by decide +kernel)) (hts (.static Lib.Math.min.name) (by decide +kernel)) (hts (.initialized "java/lang/Math") (by decide +kernel)) (hts (.code Lib.Math.min.name Lib.Math.min.code 2 (some .int)) (by decide +kernel)) (Nat.le_of_ble_eq_true rfl) (Nat.le_of_ble_eq_true rfl) (Nat.le_of_ble_eq_true rfl) (Nat.le_of_ble_eq_true rfl) dX1_horsesAlong_91 ?_
            refine lv_topi (fun v_30 ev_30 => ?_)
            exact W.iret (v := v_30) hx hb hr (fun t9 ht hW => ⟨_, rfl, trivial, ht⟩) (fun q h => nomatch h) dX1_horsesAlong_94
          · refine lv_aload_n hx hb dX1_horsesAlong_41 rfl (lv_at hl 0 rfl) ?_
            obtain ⟨q_31, hq_31⟩ := pl_at (X := []) (f := f) (e := .inr (1, [.ref (ad 41 0), .ref (ad 42 0), .ref (ad 43 0), .ref (ad 44 0)])) hk_h0.1 hf_18
            refine va_get (D := (dC, dI)) (ci := 1) (v := .ref (ad 44 0)) (C := RX1) (T := TX1) (N := 4) hx hb hts hin1 hown hK hP q_31 hq_31 rfl 3 (by decide) (hts (.fieldLink RX1 23 "YamRiders$Leader" "from" "[I") (by decide +kernel)) (fun _ h9 => h9) rfl dX1_horsesAlong_42 ?_
            refine lv_iload_n hx hb dX1_horsesAlong_45 rfl (lv_at hl 3 rfl) ?_
            obtain ⟨q_32, hq_32⟩ := pl_at (X := []) (f := f) (e := .inl (cs 0, 12, .inl (S 704 0))) (hT.kf (k := 44) (by decide)).1 hf_21
            refine va_iald hx hb hK hP q_32 0 hq_32 rfl (by rw [eu_20]; exact vp_in_nI (by omega) (by omega)) dX1_horsesAlong_46 ?_
            refine lv_topi (fun v_33 ev_33 => ?_)
            obtain rfl : v_33 = S 704 0 u_20 := ev_33.trans (by rw [(show (x3).toNatClampNeg = u_20 from by rw [eu_20]; exact nI_clamp (by omega))])
            refine lv_istore (lv' := [(5, .int (S 704 0 u_20)), (0, .ref h0), (1, .int (nI u_5)), (2, .int x2), (3, .int x3), (4, .int (nI k))]) hx hb dX1_horsesAlong_47 hl (by decide) rfl (fun ls hl => ?_)
            refine lv_aload_n hx hb dX1_horsesAlong_49 rfl (lv_at hl 1 rfl) ?_
            obtain ⟨q_34, hq_34⟩ := pl_at (X := []) (f := f) (e := .inr (1, [.ref (ad 41 0), .ref (ad 42 0), .ref (ad 43 0), .ref (ad 44 0)])) hk_h0.1 hf_18
            refine va_get (D := (dC, dI)) (ci := 1) (v := .ref (ad 42 0)) (C := RX1) (T := TX1) (N := 4) hx hb hts hin1 hown hK hP q_34 hq_34 rfl 1 (by decide) (hts (.fieldLink RX1 17 "YamRiders$Leader" "led" "[[I") (by decide +kernel)) (fun _ h9 => h9) rfl dX1_horsesAlong_50 ?_
            refine lv_iload_n hx hb dX1_horsesAlong_53 rfl (lv_at hl 4 rfl) ?_
            have hf_35 : f (ad 42 0) = .inl (cs 2, 12, .inr (.inr (.inr (.inr (gl ad 45 12))))) := hT.get (hT.kf (k := 42) (by decide))
            obtain ⟨q_36, hq_36⟩ := pl_at (X := []) (f := f) (e := .inl (cs 2, 12, .inr (.inr (.inr (.inr (gl ad 45 12)))))) (hT.kf (k := 42) (by decide)).1 hf_35
            refine va_aldg hx hb hK hP q_36 2 hq_36 rfl (by rw [eu_20]; exact vp_in_nI (by omega) (by omega)) (show gl ad 45 12 x3.toNatClampNeg = some (ad 45 u_20) from by rw [(show (x3).toNatClampNeg = u_20 from by rw [eu_20]; exact nI_clamp (by omega))]; exact gl_p (by omega)) dX1_horsesAlong_54 ?_
            refine lv_iload hx hb dX1_horsesAlong_55 (lv_at hl 0 rfl) ?_
            obtain ⟨u_37, hu_37, eu_37⟩ := st_of c_25
            have hf_38 : f (ad 45 u_20) = .inl (cs 0, 12, .inl (S 720 u_20)) := hT.get (hT.k45 (i := u_20) (by omega))
            obtain ⟨q_39, hq_39⟩ := pl_at (X := []) (f := f) (e := .inl (cs 0, 12, .inl (S 720 u_20))) (hT.k45 (i := u_20) (by omega)).1 hf_38
            refine va_iald hx hb hK hP q_39 0 hq_39 rfl (by rw [eu_37]; exact vp_in_nI (by omega) (by omega)) dX1_horsesAlong_57 ?_
            refine lv_topi (fun v_40 ev_40 => ?_)
            obtain rfl : v_40 = S 720 u_20 u_37 := ev_40.trans (by rw [(show (S 704 0 u_20).toNatClampNeg = u_37 from by rw [eu_37]; exact nI_clamp (by omega))])
            refine lv_if_le (tgt := 75) hx hb dX1_horsesAlong_58 (by decide) (fun c_41 => ?_) (fun c_41 => ?_)
            · refine lv_iload hx hb dX1_horsesAlong_75 (lv_at hl 0 rfl) ?_
              refine lv_istore_n (lv' := [(3, .int (S 704 0 u_20)), (5, .int (S 704 0 u_20)), (0, .ref h0), (1, .int (nI u_5)), (2, .int x2), (4, .int (nI k))]) hx hb dX1_horsesAlong_77 rfl hl (by decide) rfl (fun ls hl => ?_)
              refine lv_iinc (v := nI (k + 1)) (lv' := [(4, .int (nI (k + 1))), (3, .int (S 704 0 u_20)), (5, .int (S 704 0 u_20)), (0, .ref h0), (1, .int (nI u_5)), (2, .int x2)]) hx hb dX1_horsesAlong_78 hl (k := 5) rfl (by exact (nI_1 k)) (by decide) rfl (fun ls hl => ?_)
              refine lv_goto (tgt := 22) hx hb dX1_horsesAlong_81 (by decide) ?_
              exact ih (k + 1) x2 (S 704 0 u_20) (by omega) (by omega) c_25 ls (lv_sub hl [3, 4, 5, 1, 0] rfl)
            · refine lv_iload_n hx hb dX1_horsesAlong_61 rfl (lv_at hl 3 rfl) ?_
              refine lv_aload_n hx hb dX1_horsesAlong_62 rfl (lv_at hl 1 rfl) ?_
              obtain ⟨q_42, hq_42⟩ := pl_at (X := []) (f := f) (e := .inr (1, [.ref (ad 41 0), .ref (ad 42 0), .ref (ad 43 0), .ref (ad 44 0)])) hk_h0.1 hf_18
              refine va_get (D := (dC, dI)) (ci := 1) (v := .ref (ad 42 0)) (C := RX1) (T := TX1) (N := 4) hx hb hts hin1 hown hK hP q_42 hq_42 rfl 1 (by decide) (hts (.fieldLink RX1 17 "YamRiders$Leader" "led" "[[I") (by decide +kernel)) (fun _ h9 => h9) rfl dX1_horsesAlong_63 ?_
              refine lv_iload_n hx hb dX1_horsesAlong_66 rfl (lv_at hl 4 rfl) ?_
              obtain ⟨q_43, hq_43⟩ := pl_at (X := []) (f := f) (e := .inl (cs 2, 12, .inr (.inr (.inr (.inr (gl ad 45 12)))))) (hT.kf (k := 42) (by decide)).1 hf_35
              refine va_aldg hx hb hK hP q_43 2 hq_43 rfl (by rw [eu_20]; exact vp_in_nI (by omega) (by omega)) (show gl ad 45 12 x3.toNatClampNeg = some (ad 45 u_20) from by rw [(show (x3).toNatClampNeg = u_20 from by rw [eu_20]; exact nI_clamp (by omega))]; exact gl_p (by omega)) dX1_horsesAlong_67 ?_
              refine lv_iload hx hb dX1_horsesAlong_68 (lv_at hl 0 rfl) ?_
              obtain ⟨q_44, hq_44⟩ := pl_at (X := []) (f := f) (e := .inl (cs 0, 12, .inl (S 720 u_20))) (hT.k45 (i := u_20) (by omega)).1 hf_38
              refine va_iald hx hb hK hP q_44 0 hq_44 rfl (by rw [eu_37]; exact vp_in_nI (by omega) (by omega)) dX1_horsesAlong_70 ?_
              refine lv_topi (fun v_45 ev_45 => ?_)
              obtain rfl : v_45 = S 720 u_20 u_37 := ev_45.trans (by rw [(show (S 704 0 u_20).toNatClampNeg = u_37 from by rw [eu_37]; exact nI_clamp (by omega))])
              refine va_mmin (x := x2) (y := S 720 u_20 u_37) hx hb (by rw [hml]; exact hl.1.symm) hown (hts (.methodLink RX1 71 Lib.Math.min.name) (by decide +kernel)) (hts (.static Lib.Math.min.name) (by decide +kernel)) (hts (.initialized "java/lang/Math") (by decide +kernel)) (hts (.code Lib.Math.min.name Lib.Math.min.code 2 (some .int)) (by decide +kernel)) (Nat.le_of_ble_eq_true rfl) (Nat.le_of_ble_eq_true rfl) (Nat.le_of_ble_eq_true rfl) (Nat.le_of_ble_eq_true rfl) dX1_horsesAlong_71 ?_
              refine lv_topi (fun v_46 ev_46 => ?_)
              refine lv_istore_n (lv' := [(2, .int v_46), (5, .int (S 704 0 u_20)), (0, .ref h0), (1, .int (nI u_5)), (3, .int x3), (4, .int (nI k))]) hx hb dX1_horsesAlong_74 rfl hl (by decide) rfl (fun ls hl => ?_)
              refine lv_iload hx hb dX1_horsesAlong_75 (lv_at hl 1 rfl) ?_
              refine lv_istore_n (lv' := [(3, .int (S 704 0 u_20)), (2, .int v_46), (5, .int (S 704 0 u_20)), (0, .ref h0), (1, .int (nI u_5)), (4, .int (nI k))]) hx hb dX1_horsesAlong_77 rfl hl (by decide) rfl (fun ls hl => ?_)
              refine lv_iinc (v := nI (k + 1)) (lv' := [(4, .int (nI (k + 1))), (3, .int (S 704 0 u_20)), (2, .int v_46), (5, .int (S 704 0 u_20)), (0, .ref h0), (1, .int (nI u_5))]) hx hb dX1_horsesAlong_78 hl (k := 5) rfl (by exact (nI_1 k)) (by decide) rfl (fun ls hl => ?_)
              refine lv_goto (tgt := 22) hx hb dX1_horsesAlong_81 (by decide) ?_
              exact ih (k + 1) v_46 (S 704 0 u_20) (by omega) (by omega) c_25 ls (lv_sub hl [4, 5, 2, 1, 0] rfl)
    exact HL 13 0 v_9 (nI u_5) (by omega) (by omega) c_2 ls (lv_sub hl [3, 4, 2, 1, 0] rfl)
  · refine lv_iconst (v := 0) hx hb dX1_horsesAlong_7 (by decide) ?_
    exact W.iret (v := 0) hx hb hr (fun t9 ht hW => ⟨_, rfl, trivial, ht⟩) (fun q h => nomatch h) dX1_horsesAlong_8

set_option maxHeartbeats 4000000 in
set_option maxRecDepth 100000 in
theorem e_X1_leadAlong (l : Launch) (dC : Nat → ClassId) (dI : Nat → Nat → Nat) (cs : Nat → ClassId) (L : List Nat) (ka : Nat → Nat) (ix : Nat → Nat) (ad : Nat → Nat → Nat) (n0 : Nat) (n6 : Nat) (n2 : Nat) (S : Nat → Nat → Nat → Int32) (f : Nat → va_E) (h0 : Nat) (p0 : Int32) (p1 : Int32) (sz : Nat) (hT : tB L ka ix ad cs n0 n6 n2 S f) (hk_h0 : tpx L ka ix 1 0 h0) : Met l yX1_leadAlong wsX1_leadAlong ({ frames := 1, cells := 0, slots := 0, locals := 20 }) (va_Pc [.ref h0, .int p0, .int p1] (cP dC dI ([] ++ va_pl L f) (tyC cs) sz)) (va_Qv (fun (_ : Unit) => True) (fun (_ : Unit) t9 => ∃ (S2 : Nat → Nat → Nat → Int32) (f2 : Nat → va_E), (tB L ka ix ad cs n0 n6 n2 S2 f2) ∧ (AG S S2) ∧ cQ dC dI ([] ++ va_pl L f2) [] (va_A ([] ++ va_pl L f) sz) t9) (va_A ([] ++ va_pl L f) sz)) 0 0 (va_A ([] ++ va_pl L f) sz) := by
  refine Met.ofW (cc := cX1_leadAlong) (maxL := 6) (ret := none) (by decide) rfl ?_
  intro p e s m args below meth c s₁ B hml hv
  obtain ⟨rfl, hsz, hP, hK, hD0, hN⟩ := hv
  have hx := B.exec
  have hb := B.bytes
  have hr := B.returns
  have hts := atoms_spec (ws := wsX1_leadAlong) B.pre
  have hown : s.vm.findClass RX1 = some m.cls := findClass_of_methodNamed B.named
  have hlocks := B.notSynchronized
  subst hsz
  have hin1 : ∀ w ∈ u_ws RX1 TX1 4, w ∈ wsX1_leadAlong := by decide +kernel
  have hD := hD0.self (sz := s.heap.size)
  generalize hAe : va_A ([] ++ va_pl L f) s.heap.size = A at hD ⊢
  have hA : ∀ q : Nat, s.heap.size ≤ q → A q := fun q h => by rw [← hAe]; exact Or.inr h
  have hS : va_S A s.heap s.heap [] := va_S.rf
  have hP : va_P (dC, dI) vwCl ([] ++ va_pl L f) s.heap := hP
  have hl := lv_entry ([.ref h0, .int p0, .int p1]) (n := 6) (Nat.le_of_ble_eq_true rfl)
  rw [lg_entry_eq]
  generalize (lg_sl ([.ref h0, .int p0, .int p1]) ++ List.replicate (6 - (lg_sl ([.ref h0, .int p0, .int p1])).length) Slot.unset).toArray = ls at hl ⊢
  have hl : lv_has ls 6 [(0, .ref h0), (1, .int p0), (2, .int p1)] := hl
  refine lv_iload_n hx hb dX1_leadAlong_0 rfl (lv_at hl 1 rfl) ?_
  have hPc := hP.sub (ws' := []) [] rfl
  have hDc := hD.sub (ws' := []) [] (by decide) rfl
  have hKc := hK.sub (tys' := []) [] rfl
  refine cs_i (va_runSN (As := [.int p0]) (rest := []) ⟨hx, hb, hml, hown, hts⟩ (c_X8_isStation l dC dI p0 s.heap.size) ⟨va_cnB 1 hts ggX1_leadAlong_X8_isStation rfl rfl rfl (hN.1 (.methodLinkNest RX1 26 yX8_isStation "YamRiders") (by decide +kernel)) (hts (.initialized RX8) (by decide +kernel)) (by decide +kernel) ⟨Nat.le_of_ble_eq_true rfl, Nat.le_of_ble_eq_true rfl⟩, hts (.static yX8_isStation) (by decide +kernel), trivial⟩ ⟨c_blind, c_pre hPc hKc hDc hN⟩ rfl rfl hl.1 rfl (lv_room (Nat.le_of_ble_eq_true rfl)) dX1_leadAlong_1 ⟨Nat.le_of_ble_eq_true rfl, Nat.le_of_ble_eq_true rfl⟩) (fun r_1 hr_1 => ?_)
  subst hr_1
  refine lv_if_ne (tgt := 8) hx hb dX1_leadAlong_4 (by decide) (fun c_2 => ?_) (fun c_2 => ?_)
  · refine lv_aload_n hx hb dX1_leadAlong_8 rfl (lv_at hl 0 rfl) ?_
    have hf_3 : f h0 = .inr (1, [.ref (ad 41 0), .ref (ad 42 0), .ref (ad 43 0), .ref (ad 44 0)]) := hT.get hk_h0
    obtain ⟨q_4, hq_4⟩ := pl_at (X := []) (f := f) (e := .inr (1, [.ref (ad 41 0), .ref (ad 42 0), .ref (ad 43 0), .ref (ad 44 0)])) hk_h0.1 hf_3
    refine va_get (D := (dC, dI)) (ci := 1) (v := .ref (ad 41 0)) (C := RX1) (T := TX1) (N := 4) hx hb hts hin1 hown hK hP q_4 hq_4 rfl 0 (by decide) (hts (.fieldLink RX1 9 "YamRiders$Leader" "spare" "[I") (by decide +kernel)) (fun _ h9 => h9) rfl dX1_leadAlong_9 ?_
    refine lv_iload_n hx hb dX1_leadAlong_12 rfl (lv_at hl 1 rfl) ?_
    refine lv_dup2_11 hx hb dX1_leadAlong_13 rfl rfl ?_
    obtain ⟨u_5, hu_5, rfl⟩ := st_of c_2
    have hf_6 : f (ad 41 0) = .inl (cs 0, 12, .inl (S 656 0)) := hT.get (hT.kf (k := 41) (by decide))
    obtain ⟨q_7, hq_7⟩ := pl_at (X := []) (f := f) (e := .inl (cs 0, 12, .inl (S 656 0))) (hT.kf (k := 41) (by decide)).1 hf_6
    refine va_iald hx hb hK hP q_7 0 hq_7 rfl (vp_in_nI (by omega) (by omega)) dX1_leadAlong_14 ?_
    refine lv_topi (fun v_8 ev_8 => ?_)
    obtain rfl : v_8 = S 656 0 u_5 := ev_8.trans (by rw [(nI_clamp (by omega))])
    refine lv_iload_n hx hb dX1_leadAlong_15 rfl (lv_at hl 2 rfl) ?_
    refine lv_iadd hx hb dX1_leadAlong_16 ?_
    obtain ⟨q_9, hq_9⟩ := pl_at (X := []) (f := f) (e := .inl (cs 0, 12, .inl (S 656 0))) (hT.kf (k := 41) (by decide)).1 hf_6
    refine va_iast hx hb hK hP hD hS q_9 0 hq_9 rfl (vp_in_nI (by omega) (by omega)) dX1_leadAlong_17 (fun H locs hP9 hD9 hS => ?_)
    have hs_10 := pl_st (.inl (cs 0, 12, .inl (upd (S 656 0) (nI u_5).toNatClampNeg ((S 656 0 u_5) + p1)))) hD (hT.kf (k := 41) (by decide)).1 hf_6 hq_9
    have hP9 : va_P (dC, dI) vwCl ((([] : va_W) ++ va_pl L f).set q_9 ((ad 41 0), .inl (cs 0, 12, .inl (upd (S 656 0) (nI u_5).toNatClampNeg ((S 656 0 u_5) + p1))))) H := hP9
    have hD9 : va_D A ((([] : va_W) ++ va_pl L f).set q_9 ((ad 41 0), .inl (cs 0, 12, .inl (upd (S 656 0) (nI u_5).toNatClampNeg ((S 656 0 u_5) + p1))))) := hD9
    rw [hs_10] at hP9 hD9
    have hT := hT.up (c := 656) (j := u_5) (v := ((S 656 0 u_5) + p1)) (e := .inl (cs 0, 12, .inl (upd (S 656 0) (nI u_5).toNatClampNeg ((S 656 0 u_5) + p1)))) (hT.kf (k := 41) (by decide)) rfl (hT.2.2.up (by decide) (by decide) (by decide)) (by simp only [EN]; rw [up3_a, (nI_clamp (by omega))])
    have hP := hP9
    have hD := hD9
    clear hP9 hD9 hs_10
    obtain ⟨S_12, eS_12⟩ : ∃ S9 : Nat → Nat → Nat → Int32, S9 = up3 S 656 0 u_5 ((S 656 0 u_5) + p1) := ⟨_, rfl⟩
    rw [← eS_12] at hT
    generalize va_up f (ad 41 0) (.inl (cs 0, 12, .inl (upd (S 656 0) (nI u_5).toNatClampNeg ((S 656 0 u_5) + p1)))) = f_11 at hP hD hT
    have hFr_13 : AG S S_12 := by rw [eS_12]; exact AG.up AG.rf (by decide)
    refine lv_iload_n hx hb dX1_leadAlong_18 rfl (lv_at hl 1 rfl) ?_
    refine lv_istore_n (lv' := [(3, .int (nI u_5)), (0, .ref h0), (1, .int (nI u_5)), (2, .int p1)]) hx hb dX1_leadAlong_19 rfl hl (by decide) rfl (fun ls hl => ?_)
    refine lv_iconst (v := 0) hx hb dX1_leadAlong_20 (by decide) ?_
    refine lv_istore (lv' := [(4, .int 0), (3, .int (nI u_5)), (0, .ref h0), (1, .int (nI u_5)), (2, .int p1)]) hx hb dX1_leadAlong_21 hl (by decide) rfl (fun ls hl => ?_)
    have HL : ∀ (n k : Nat) (x3 : Int32) (S8 : Nat → Nat → Nat → Int32), k ≤ 12 → 12 + 1 ≤ k + n → (AG S S8) → (¬ sp_st x3 = 0) → ∀ (f_14 : Nat → va_E) (H : Heap) (locs : List Loc), tB L ka ix ad cs n0 n6 n2 S8 f_14 → va_P (dC, dI) vwCl ([] ++ va_pl L f_14) H → va_D A ([] ++ va_pl L f_14) → va_S A s.heap H locs → ∀ ls : Array Slot, lv_has ls 6 [(0, .ref h0), (1, .int (nI u_5)), (2, .int p1), (3, .int x3), (4, .int (nI k))] → W p l e (headSpec wsX1_leadAlong ({ frames := 1, cells := 0, slots := 0, locals := 20 })).room s m ([.ref h0, .int (nI u_5), .int p1]).toArray below meth c H locs 0 0 (MQ below (va_Qv (fun (_ : Unit) => True) (fun (_ : Unit) t9 => ∃ (S2 : Nat → Nat → Nat → Int32) (f2 : Nat → va_E), (tB L ka ix ad cs n0 n6 n2 S2 f2) ∧ (AG S S2) ∧ cQ dC dI ([] ++ va_pl L f2) [] A t9) A) ([.ref h0, .int (nI u_5), .int p1]).toArray s 0 0 A) (F0 m 23 ls []) := by
      intro n
      induction n with
      | zero => intro k x3 S8 h1 h2; exact absurd h2 (by omega)
      | succ n ih =>
        intro k x3 S8 hk hn hFrS8 hst f_14 H locs hT hP hD hS ls hl
        refine lv_iload hx hb dX1_leadAlong_23 (lv_at hl 4 rfl) ?_
        refine lv_bipush (v := 12) hx hb dX1_leadAlong_25 (by decide) ?_
        refine lv_icmp_ge (tgt := 100) hx hb dX1_leadAlong_27 (by decide) (fun c_15 => ?_) (fun c_15 => ?_)
        · have hke : k = 12 := by
            rcases Nat.lt_or_ge k 12 with q | q
            · exact absurd c_15 (nI_ge q (by decide))
            · omega
          refine lv_aload_n hx hb dX1_leadAlong_100 rfl (lv_at hl 0 rfl) ?_
          have hf_16 : f_14 h0 = .inr (1, [.ref (ad 41 0), .ref (ad 42 0), .ref (ad 43 0), .ref (ad 44 0)]) := hT.get hk_h0
          obtain ⟨q_17, hq_17⟩ := pl_at (X := []) (f := f_14) (e := .inr (1, [.ref (ad 41 0), .ref (ad 42 0), .ref (ad 43 0), .ref (ad 44 0)])) hk_h0.1 hf_16
          refine va_get (D := (dC, dI)) (ci := 1) (v := .ref (ad 41 0)) (C := RX1) (T := TX1) (N := 4) hx hb hts hin1 hown hK hP q_17 hq_17 rfl 0 (by decide) (hts (.fieldLink RX1 9 "YamRiders$Leader" "spare" "[I") (by decide +kernel)) (fun _ h9 => h9) rfl dX1_leadAlong_101 ?_
          refine lv_iload_n hx hb dX1_leadAlong_104 rfl (lv_at hl 3 rfl) ?_
          refine lv_dup2_11 hx hb dX1_leadAlong_105 rfl rfl ?_
          obtain ⟨u_18, hu_18, eu_18⟩ := st_of hst
          have hf_19 : f_14 (ad 41 0) = .inl (cs 0, 12, .inl (S8 656 0)) := hT.get (hT.kf (k := 41) (by decide))
          obtain ⟨q_20, hq_20⟩ := pl_at (X := []) (f := f_14) (e := .inl (cs 0, 12, .inl (S8 656 0))) (hT.kf (k := 41) (by decide)).1 hf_19
          refine va_iald hx hb hK hP q_20 0 hq_20 rfl (by rw [eu_18]; exact vp_in_nI (by omega) (by omega)) dX1_leadAlong_106 ?_
          refine lv_topi (fun v_21 ev_21 => ?_)
          obtain rfl : v_21 = S8 656 0 u_18 := ev_21.trans (by rw [(show (x3).toNatClampNeg = u_18 from by rw [eu_18]; exact nI_clamp (by omega))])
          refine lv_iload_n hx hb dX1_leadAlong_107 rfl (lv_at hl 2 rfl) ?_
          refine lv_isub hx hb dX1_leadAlong_108 ?_
          obtain ⟨q_22, hq_22⟩ := pl_at (X := []) (f := f_14) (e := .inl (cs 0, 12, .inl (S8 656 0))) (hT.kf (k := 41) (by decide)).1 hf_19
          refine va_iast hx hb hK hP hD hS q_22 0 hq_22 rfl (by rw [eu_18]; exact vp_in_nI (by omega) (by omega)) dX1_leadAlong_109 (fun H locs hP9 hD9 hS => ?_)
          have hs_23 := pl_st (.inl (cs 0, 12, .inl (upd (S8 656 0) x3.toNatClampNeg ((S8 656 0 u_18) - p1)))) hD (hT.kf (k := 41) (by decide)).1 hf_19 hq_22
          have hP9 : va_P (dC, dI) vwCl ((([] : va_W) ++ va_pl L f_14).set q_22 ((ad 41 0), .inl (cs 0, 12, .inl (upd (S8 656 0) x3.toNatClampNeg ((S8 656 0 u_18) - p1))))) H := hP9
          have hD9 : va_D A ((([] : va_W) ++ va_pl L f_14).set q_22 ((ad 41 0), .inl (cs 0, 12, .inl (upd (S8 656 0) x3.toNatClampNeg ((S8 656 0 u_18) - p1))))) := hD9
          rw [hs_23] at hP9 hD9
          have hT := hT.up (c := 656) (j := u_18) (v := ((S8 656 0 u_18) - p1)) (e := .inl (cs 0, 12, .inl (upd (S8 656 0) x3.toNatClampNeg ((S8 656 0 u_18) - p1)))) (hT.kf (k := 41) (by decide)) rfl (hT.2.2.up (by decide) (by decide) (by decide)) (by simp only [EN]; rw [up3_a, (show (x3).toNatClampNeg = u_18 from by rw [eu_18]; exact nI_clamp (by omega))])
          have hP := hP9
          have hD := hD9
          clear hP9 hD9 hs_23
          obtain ⟨S_25, eS_25⟩ : ∃ S9 : Nat → Nat → Nat → Int32, S9 = up3 S8 656 0 u_18 ((S8 656 0 u_18) - p1) := ⟨_, rfl⟩
          rw [← eS_25] at hT
          generalize va_up f_14 (ad 41 0) (.inl (cs 0, 12, .inl (upd (S8 656 0) x3.toNatClampNeg ((S8 656 0 u_18) - p1)))) = f_24 at hP hD hT
          have hFr_26 : AG S S_25 := by rw [eS_25]; exact AG.up hFrS8 (by decide)
          have hP9 := hP.part (cx := []) [] rfl
          have hD9 := hD.part (cx := []) [] (by decide) rfl
          have hK9 := hK.sub (tys' := []) [] rfl
          refine W.widen (k := 0) (n := 0) (Nat.le_of_ble_eq_true rfl) (Nat.le_of_ble_eq_true rfl) ?_
          exact W.vret hx hb hr (fun t9 ht hW => ⟨⟨(), rfl, trivial, S_25, f_24, hT, hFr_26, by rw [ht]; exact hP9, va_K.moved hW.alike hK9, hD9⟩, hS.F ht⟩) hS.2.2 dX1_leadAlong_110
        · have hlt : k < 12 := by
            rcases Nat.lt_or_ge k 12 with q | q
            · exact q
            · exact absurd (show nI 12 ≤ nI k from nI_le q (by omega)) c_15
          refine lv_aload_n hx hb dX1_leadAlong_30 rfl (lv_at hl 0 rfl) ?_
          have hf_27 : f_14 h0 = .inr (1, [.ref (ad 41 0), .ref (ad 42 0), .ref (ad 43 0), .ref (ad 44 0)]) := hT.get hk_h0
          obtain ⟨q_28, hq_28⟩ := pl_at (X := []) (f := f_14) (e := .inr (1, [.ref (ad 41 0), .ref (ad 42 0), .ref (ad 43 0), .ref (ad 44 0)])) hk_h0.1 hf_27
          refine va_get (D := (dC, dI)) (ci := 1) (v := .ref (ad 44 0)) (C := RX1) (T := TX1) (N := 4) hx hb hts hin1 hown hK hP q_28 hq_28 rfl 3 (by decide) (hts (.fieldLink RX1 23 "YamRiders$Leader" "from" "[I") (by decide +kernel)) (fun _ h9 => h9) rfl dX1_leadAlong_31 ?_
          refine lv_iload_n hx hb dX1_leadAlong_34 rfl (lv_at hl 3 rfl) ?_
          obtain ⟨u_29, hu_29, eu_29⟩ := st_of hst
          have hf_30 : f_14 (ad 44 0) = .inl (cs 0, 12, .inl (S8 704 0)) := hT.get (hT.kf (k := 44) (by decide))
          obtain ⟨q_31, hq_31⟩ := pl_at (X := []) (f := f_14) (e := .inl (cs 0, 12, .inl (S8 704 0))) (hT.kf (k := 44) (by decide)).1 hf_30
          refine va_iald hx hb hK hP q_31 0 hq_31 rfl (by rw [eu_29]; exact vp_in_nI (by omega) (by omega)) dX1_leadAlong_35 ?_
          refine lv_topi (fun v_32 ev_32 => ?_)
          obtain rfl : v_32 = S8 704 0 u_29 := ev_32.trans (by rw [(show (x3).toNatClampNeg = u_29 from by rw [eu_29]; exact nI_clamp (by omega))])
          have hPc := hP.sub (ws' := []) [] rfl
          have hDc := hD.sub (ws' := []) [] (by decide) rfl
          have hKc := hK.sub (tys' := []) [] rfl
          refine cs_i (va_runSN (As := [.int (S8 704 0 u_29)]) (rest := []) ⟨hx, hb, hml, hown, hts⟩ (c_X8_isStation l dC dI (S8 704 0 u_29) H.size) ⟨va_cnB 1 hts ggX1_leadAlong_X8_isStation rfl rfl rfl (hN.1 (.methodLinkNest RX1 26 yX8_isStation "YamRiders") (by decide +kernel)) (hts (.initialized RX8) (by decide +kernel)) (by decide +kernel) ⟨Nat.le_of_ble_eq_true rfl, Nat.le_of_ble_eq_true rfl⟩, hts (.static yX8_isStation) (by decide +kernel), trivial⟩ ⟨c_blind, c_pre hPc hKc hDc hN⟩ rfl rfl hl.1 rfl (lv_room (Nat.le_of_ble_eq_true rfl)) dX1_leadAlong_36 ⟨Nat.le_of_ble_eq_true rfl, Nat.le_of_ble_eq_true rfl⟩) (fun r_33 hr_33 => ?_)
          subst hr_33
          refine lv_if_eq (tgt := 100) hx hb dX1_leadAlong_39 (by decide) (fun c_34 => ?_) (fun c_34 => ?_)
          · refine lv_aload_n hx hb dX1_leadAlong_100 rfl (lv_at hl 0 rfl) ?_
            obtain ⟨q_35, hq_35⟩ := pl_at (X := []) (f := f_14) (e := .inr (1, [.ref (ad 41 0), .ref (ad 42 0), .ref (ad 43 0), .ref (ad 44 0)])) hk_h0.1 hf_27
            refine va_get (D := (dC, dI)) (ci := 1) (v := .ref (ad 41 0)) (C := RX1) (T := TX1) (N := 4) hx hb hts hin1 hown hK hP q_35 hq_35 rfl 0 (by decide) (hts (.fieldLink RX1 9 "YamRiders$Leader" "spare" "[I") (by decide +kernel)) (fun _ h9 => h9) rfl dX1_leadAlong_101 ?_
            refine lv_iload_n hx hb dX1_leadAlong_104 rfl (lv_at hl 3 rfl) ?_
            refine lv_dup2_11 hx hb dX1_leadAlong_105 rfl rfl ?_
            have hf_36 : f_14 (ad 41 0) = .inl (cs 0, 12, .inl (S8 656 0)) := hT.get (hT.kf (k := 41) (by decide))
            obtain ⟨q_37, hq_37⟩ := pl_at (X := []) (f := f_14) (e := .inl (cs 0, 12, .inl (S8 656 0))) (hT.kf (k := 41) (by decide)).1 hf_36
            refine va_iald hx hb hK hP q_37 0 hq_37 rfl (by rw [eu_29]; exact vp_in_nI (by omega) (by omega)) dX1_leadAlong_106 ?_
            refine lv_topi (fun v_38 ev_38 => ?_)
            obtain rfl : v_38 = S8 656 0 u_29 := ev_38.trans (by rw [(show (x3).toNatClampNeg = u_29 from by rw [eu_29]; exact nI_clamp (by omega))])
            refine lv_iload_n hx hb dX1_leadAlong_107 rfl (lv_at hl 2 rfl) ?_
            refine lv_isub hx hb dX1_leadAlong_108 ?_
            obtain ⟨q_39, hq_39⟩ := pl_at (X := []) (f := f_14) (e := .inl (cs 0, 12, .inl (S8 656 0))) (hT.kf (k := 41) (by decide)).1 hf_36
            refine va_iast hx hb hK hP hD hS q_39 0 hq_39 rfl (by rw [eu_29]; exact vp_in_nI (by omega) (by omega)) dX1_leadAlong_109 (fun H locs hP9 hD9 hS => ?_)
            have hs_40 := pl_st (.inl (cs 0, 12, .inl (upd (S8 656 0) x3.toNatClampNeg ((S8 656 0 u_29) - p1)))) hD (hT.kf (k := 41) (by decide)).1 hf_36 hq_39
            have hP9 : va_P (dC, dI) vwCl ((([] : va_W) ++ va_pl L f_14).set q_39 ((ad 41 0), .inl (cs 0, 12, .inl (upd (S8 656 0) x3.toNatClampNeg ((S8 656 0 u_29) - p1))))) H := hP9
            have hD9 : va_D A ((([] : va_W) ++ va_pl L f_14).set q_39 ((ad 41 0), .inl (cs 0, 12, .inl (upd (S8 656 0) x3.toNatClampNeg ((S8 656 0 u_29) - p1))))) := hD9
            rw [hs_40] at hP9 hD9
            have hT := hT.up (c := 656) (j := u_29) (v := ((S8 656 0 u_29) - p1)) (e := .inl (cs 0, 12, .inl (upd (S8 656 0) x3.toNatClampNeg ((S8 656 0 u_29) - p1)))) (hT.kf (k := 41) (by decide)) rfl (hT.2.2.up (by decide) (by decide) (by decide)) (by simp only [EN]; rw [up3_a, (show (x3).toNatClampNeg = u_29 from by rw [eu_29]; exact nI_clamp (by omega))])
            have hP := hP9
            have hD := hD9
            clear hP9 hD9 hs_40
            obtain ⟨S_42, eS_42⟩ : ∃ S9 : Nat → Nat → Nat → Int32, S9 = up3 S8 656 0 u_29 ((S8 656 0 u_29) - p1) := ⟨_, rfl⟩
            rw [← eS_42] at hT
            generalize va_up f_14 (ad 41 0) (.inl (cs 0, 12, .inl (upd (S8 656 0) x3.toNatClampNeg ((S8 656 0 u_29) - p1)))) = f_41 at hP hD hT
            have hFr_43 : AG S S_42 := by rw [eS_42]; exact AG.up hFrS8 (by decide)
            have hP9 := hP.part (cx := []) [] rfl
            have hD9 := hD.part (cx := []) [] (by decide) rfl
            have hK9 := hK.sub (tys' := []) [] rfl
            refine W.widen (k := 0) (n := 0) (Nat.le_of_ble_eq_true rfl) (Nat.le_of_ble_eq_true rfl) ?_
            exact W.vret hx hb hr (fun t9 ht hW => ⟨⟨(), rfl, trivial, S_42, f_41, hT, hFr_43, by rw [ht]; exact hP9, va_K.moved hW.alike hK9, hD9⟩, hS.F ht⟩) hS.2.2 dX1_leadAlong_110
          · refine lv_aload_n hx hb dX1_leadAlong_42 rfl (lv_at hl 0 rfl) ?_
            obtain ⟨q_44, hq_44⟩ := pl_at (X := []) (f := f_14) (e := .inr (1, [.ref (ad 41 0), .ref (ad 42 0), .ref (ad 43 0), .ref (ad 44 0)])) hk_h0.1 hf_27
            refine va_get (D := (dC, dI)) (ci := 1) (v := .ref (ad 44 0)) (C := RX1) (T := TX1) (N := 4) hx hb hts hin1 hown hK hP q_44 hq_44 rfl 3 (by decide) (hts (.fieldLink RX1 23 "YamRiders$Leader" "from" "[I") (by decide +kernel)) (fun _ h9 => h9) rfl dX1_leadAlong_43 ?_
            refine lv_iload_n hx hb dX1_leadAlong_46 rfl (lv_at hl 3 rfl) ?_
            obtain ⟨q_45, hq_45⟩ := pl_at (X := []) (f := f_14) (e := .inl (cs 0, 12, .inl (S8 704 0))) (hT.kf (k := 44) (by decide)).1 hf_30
            refine va_iald hx hb hK hP q_45 0 hq_45 rfl (by rw [eu_29]; exact vp_in_nI (by omega) (by omega)) dX1_leadAlong_47 ?_
            refine lv_topi (fun v_46 ev_46 => ?_)
            obtain rfl : v_46 = S8 704 0 u_29 := ev_46.trans (by rw [(show (x3).toNatClampNeg = u_29 from by rw [eu_29]; exact nI_clamp (by omega))])
            refine lv_istore (lv' := [(5, .int (S8 704 0 u_29)), (0, .ref h0), (1, .int (nI u_5)), (2, .int p1), (3, .int x3), (4, .int (nI k))]) hx hb dX1_leadAlong_48 hl (by decide) rfl (fun ls hl => ?_)
            refine lv_aload_n hx hb dX1_leadAlong_50 rfl (lv_at hl 1 rfl) ?_
            obtain ⟨q_47, hq_47⟩ := pl_at (X := []) (f := f_14) (e := .inr (1, [.ref (ad 41 0), .ref (ad 42 0), .ref (ad 43 0), .ref (ad 44 0)])) hk_h0.1 hf_27
            refine va_get (D := (dC, dI)) (ci := 1) (v := .ref (ad 42 0)) (C := RX1) (T := TX1) (N := 4) hx hb hts hin1 hown hK hP q_47 hq_47 rfl 1 (by decide) (hts (.fieldLink RX1 17 "YamRiders$Leader" "led" "[[I") (by decide +kernel)) (fun _ h9 => h9) rfl dX1_leadAlong_51 ?_
            refine lv_iload_n hx hb dX1_leadAlong_54 rfl (lv_at hl 4 rfl) ?_
            have hf_48 : f_14 (ad 42 0) = .inl (cs 2, 12, .inr (.inr (.inr (.inr (gl ad 45 12))))) := hT.get (hT.kf (k := 42) (by decide))
            obtain ⟨q_49, hq_49⟩ := pl_at (X := []) (f := f_14) (e := .inl (cs 2, 12, .inr (.inr (.inr (.inr (gl ad 45 12)))))) (hT.kf (k := 42) (by decide)).1 hf_48
            refine va_aldg hx hb hK hP q_49 2 hq_49 rfl (by rw [eu_29]; exact vp_in_nI (by omega) (by omega)) (show gl ad 45 12 x3.toNatClampNeg = some (ad 45 u_29) from by rw [(show (x3).toNatClampNeg = u_29 from by rw [eu_29]; exact nI_clamp (by omega))]; exact gl_p (by omega)) dX1_leadAlong_55 ?_
            refine lv_iload hx hb dX1_leadAlong_56 (lv_at hl 0 rfl) ?_
            obtain ⟨u_50, hu_50, eu_50⟩ := st_of c_34
            have hf_51 : f_14 (ad 45 u_29) = .inl (cs 0, 12, .inl (S8 720 u_29)) := hT.get (hT.k45 (i := u_29) (by omega))
            obtain ⟨q_52, hq_52⟩ := pl_at (X := []) (f := f_14) (e := .inl (cs 0, 12, .inl (S8 720 u_29))) (hT.k45 (i := u_29) (by omega)).1 hf_51
            refine va_iald hx hb hK hP q_52 0 hq_52 rfl (by rw [eu_50]; exact vp_in_nI (by omega) (by omega)) dX1_leadAlong_58 ?_
            refine lv_topi (fun v_53 ev_53 => ?_)
            obtain rfl : v_53 = S8 720 u_29 u_50 := ev_53.trans (by rw [(show (S8 704 0 u_29).toNatClampNeg = u_50 from by rw [eu_50]; exact nI_clamp (by omega))])
            refine lv_if_le (tgt := 78) hx hb dX1_leadAlong_59 (by decide) (fun c_54 => ?_) (fun c_54 => ?_)
            · refine lv_aload_n hx hb dX1_leadAlong_78 rfl (lv_at hl 1 rfl) ?_
              obtain ⟨q_55, hq_55⟩ := pl_at (X := []) (f := f_14) (e := .inr (1, [.ref (ad 41 0), .ref (ad 42 0), .ref (ad 43 0), .ref (ad 44 0)])) hk_h0.1 hf_27
              refine va_get (D := (dC, dI)) (ci := 1) (v := .ref (ad 42 0)) (C := RX1) (T := TX1) (N := 4) hx hb hts hin1 hown hK hP q_55 hq_55 rfl 1 (by decide) (hts (.fieldLink RX1 17 "YamRiders$Leader" "led" "[[I") (by decide +kernel)) (fun _ h9 => h9) rfl dX1_leadAlong_79 ?_
              refine lv_iload hx hb dX1_leadAlong_82 (lv_at hl 0 rfl) ?_
              obtain ⟨q_56, hq_56⟩ := pl_at (X := []) (f := f_14) (e := .inl (cs 2, 12, .inr (.inr (.inr (.inr (gl ad 45 12)))))) (hT.kf (k := 42) (by decide)).1 hf_48
              refine va_aldg hx hb hK hP q_56 2 hq_56 rfl (by rw [eu_50]; exact vp_in_nI (by omega) (by omega)) (show gl ad 45 12 (S8 704 0 u_29).toNatClampNeg = some (ad 45 u_50) from by rw [(show (S8 704 0 u_29).toNatClampNeg = u_50 from by rw [eu_50]; exact nI_clamp (by omega))]; exact gl_p (by omega)) dX1_leadAlong_84 ?_
              refine lv_iload_n hx hb dX1_leadAlong_85 rfl (lv_at hl 4 rfl) ?_
              refine lv_dup2_11 hx hb dX1_leadAlong_86 rfl rfl ?_
              have hf_57 : f_14 (ad 45 u_50) = .inl (cs 0, 12, .inl (S8 720 u_50)) := hT.get (hT.k45 (i := u_50) (by omega))
              obtain ⟨q_58, hq_58⟩ := pl_at (X := []) (f := f_14) (e := .inl (cs 0, 12, .inl (S8 720 u_50))) (hT.k45 (i := u_50) (by omega)).1 hf_57
              refine va_iald hx hb hK hP q_58 0 hq_58 rfl (by rw [eu_29]; exact vp_in_nI (by omega) (by omega)) dX1_leadAlong_87 ?_
              refine lv_topi (fun v_59 ev_59 => ?_)
              obtain rfl : v_59 = S8 720 u_50 u_29 := ev_59.trans (by rw [(show (x3).toNatClampNeg = u_29 from by rw [eu_29]; exact nI_clamp (by omega))])
              refine lv_iload_n hx hb dX1_leadAlong_88 rfl (lv_at hl 3 rfl) ?_
              refine lv_iadd hx hb dX1_leadAlong_89 ?_
              obtain ⟨q_60, hq_60⟩ := pl_at (X := []) (f := f_14) (e := .inl (cs 0, 12, .inl (S8 720 u_50))) (hT.k45 (i := u_50) (by omega)).1 hf_57
              refine va_iast hx hb hK hP hD hS q_60 0 hq_60 rfl (by rw [eu_29]; exact vp_in_nI (by omega) (by omega)) dX1_leadAlong_90 (fun H locs hP9 hD9 hS => ?_)
              have hs_61 := pl_st (.inl (cs 0, 12, .inl (upd (S8 720 u_50) x3.toNatClampNeg ((S8 720 u_50 u_29) + p1)))) hD (hT.k45 (i := u_50) (by omega)).1 hf_57 hq_60
              have hP9 : va_P (dC, dI) vwCl ((([] : va_W) ++ va_pl L f_14).set q_60 ((ad 45 u_50), .inl (cs 0, 12, .inl (upd (S8 720 u_50) x3.toNatClampNeg ((S8 720 u_50 u_29) + p1))))) H := hP9
              have hD9 : va_D A ((([] : va_W) ++ va_pl L f_14).set q_60 ((ad 45 u_50), .inl (cs 0, 12, .inl (upd (S8 720 u_50) x3.toNatClampNeg ((S8 720 u_50 u_29) + p1))))) := hD9
              rw [hs_61] at hP9 hD9
              have hT := hT.up (c := 720) (j := u_29) (v := ((S8 720 u_50 u_29) + p1)) (e := .inl (cs 0, 12, .inl (upd (S8 720 u_50) x3.toNatClampNeg ((S8 720 u_50 u_29) + p1)))) (hT.k45 (i := u_50) (by omega)) rfl (hT.2.2.up (by decide) (by decide) (by decide)) (by simp only [EN]; rw [up3_a, (show (x3).toNatClampNeg = u_29 from by rw [eu_29]; exact nI_clamp (by omega))])
              have hP := hP9
              have hD := hD9
              clear hP9 hD9 hs_61
              obtain ⟨S_63, eS_63⟩ : ∃ S9 : Nat → Nat → Nat → Int32, S9 = up3 S8 720 u_50 u_29 ((S8 720 u_50 u_29) + p1) := ⟨_, rfl⟩
              rw [← eS_63] at hT
              generalize va_up f_14 (ad 45 u_50) (.inl (cs 0, 12, .inl (upd (S8 720 u_50) x3.toNatClampNeg ((S8 720 u_50 u_29) + p1)))) = f_62 at hP hD hT
              have hFr_64 : AG S S_63 := by rw [eS_63]; exact AG.up hFrS8 (by decide)
              refine lv_iload hx hb dX1_leadAlong_91 (lv_at hl 0 rfl) ?_
              refine lv_istore_n (lv' := [(3, .int (S8 704 0 u_29)), (5, .int (S8 704 0 u_29)), (0, .ref h0), (1, .int (nI u_5)), (2, .int p1), (4, .int (nI k))]) hx hb dX1_leadAlong_93 rfl hl (by decide) rfl (fun ls hl => ?_)
              refine lv_iinc (v := nI (k + 1)) (lv' := [(4, .int (nI (k + 1))), (3, .int (S8 704 0 u_29)), (5, .int (S8 704 0 u_29)), (0, .ref h0), (1, .int (nI u_5)), (2, .int p1)]) hx hb dX1_leadAlong_94 hl (k := 5) rfl (by exact (nI_1 k)) (by decide) rfl (fun ls hl => ?_)
              refine lv_goto (tgt := 23) hx hb dX1_leadAlong_97 (by decide) ?_
              exact ih (k + 1) (S8 704 0 u_29) S_63 (by omega) (by omega) hFr_64 c_34 _ _ _ hT (hP.part (cx := _) [] rfl) (hD.part (cx := _) [] (by decide) rfl) hS ls (lv_sub hl [3, 4, 5, 1, 0] rfl)
            · refine lv_aload_n hx hb dX1_leadAlong_62 rfl (lv_at hl 1 rfl) ?_
              obtain ⟨q_65, hq_65⟩ := pl_at (X := []) (f := f_14) (e := .inr (1, [.ref (ad 41 0), .ref (ad 42 0), .ref (ad 43 0), .ref (ad 44 0)])) hk_h0.1 hf_27
              refine va_get (D := (dC, dI)) (ci := 1) (v := .ref (ad 42 0)) (C := RX1) (T := TX1) (N := 4) hx hb hts hin1 hown hK hP q_65 hq_65 rfl 1 (by decide) (hts (.fieldLink RX1 17 "YamRiders$Leader" "led" "[[I") (by decide +kernel)) (fun _ h9 => h9) rfl dX1_leadAlong_63 ?_
              refine lv_iload_n hx hb dX1_leadAlong_66 rfl (lv_at hl 4 rfl) ?_
              obtain ⟨q_66, hq_66⟩ := pl_at (X := []) (f := f_14) (e := .inl (cs 2, 12, .inr (.inr (.inr (.inr (gl ad 45 12)))))) (hT.kf (k := 42) (by decide)).1 hf_48
              refine va_aldg hx hb hK hP q_66 2 hq_66 rfl (by rw [eu_29]; exact vp_in_nI (by omega) (by omega)) (show gl ad 45 12 x3.toNatClampNeg = some (ad 45 u_29) from by rw [(show (x3).toNatClampNeg = u_29 from by rw [eu_29]; exact nI_clamp (by omega))]; exact gl_p (by omega)) dX1_leadAlong_67 ?_
              refine lv_iload hx hb dX1_leadAlong_68 (lv_at hl 0 rfl) ?_
              refine lv_dup2_11 hx hb dX1_leadAlong_70 rfl rfl ?_
              obtain ⟨q_67, hq_67⟩ := pl_at (X := []) (f := f_14) (e := .inl (cs 0, 12, .inl (S8 720 u_29))) (hT.k45 (i := u_29) (by omega)).1 hf_51
              refine va_iald hx hb hK hP q_67 0 hq_67 rfl (by rw [eu_50]; exact vp_in_nI (by omega) (by omega)) dX1_leadAlong_71 ?_
              refine lv_topi (fun v_68 ev_68 => ?_)
              obtain rfl : v_68 = S8 720 u_29 u_50 := ev_68.trans (by rw [(show (S8 704 0 u_29).toNatClampNeg = u_50 from by rw [eu_50]; exact nI_clamp (by omega))])
              refine lv_iload_n hx hb dX1_leadAlong_72 rfl (lv_at hl 3 rfl) ?_
              refine lv_isub hx hb dX1_leadAlong_73 ?_
              obtain ⟨q_69, hq_69⟩ := pl_at (X := []) (f := f_14) (e := .inl (cs 0, 12, .inl (S8 720 u_29))) (hT.k45 (i := u_29) (by omega)).1 hf_51
              refine va_iast hx hb hK hP hD hS q_69 0 hq_69 rfl (by rw [eu_50]; exact vp_in_nI (by omega) (by omega)) dX1_leadAlong_74 (fun H locs hP9 hD9 hS => ?_)
              have hs_70 := pl_st (.inl (cs 0, 12, .inl (upd (S8 720 u_29) (S8 704 0 u_29).toNatClampNeg ((S8 720 u_29 u_50) - p1)))) hD (hT.k45 (i := u_29) (by omega)).1 hf_51 hq_69
              have hP9 : va_P (dC, dI) vwCl ((([] : va_W) ++ va_pl L f_14).set q_69 ((ad 45 u_29), .inl (cs 0, 12, .inl (upd (S8 720 u_29) (S8 704 0 u_29).toNatClampNeg ((S8 720 u_29 u_50) - p1))))) H := hP9
              have hD9 : va_D A ((([] : va_W) ++ va_pl L f_14).set q_69 ((ad 45 u_29), .inl (cs 0, 12, .inl (upd (S8 720 u_29) (S8 704 0 u_29).toNatClampNeg ((S8 720 u_29 u_50) - p1))))) := hD9
              rw [hs_70] at hP9 hD9
              have hT := hT.up (c := 720) (j := u_50) (v := ((S8 720 u_29 u_50) - p1)) (e := .inl (cs 0, 12, .inl (upd (S8 720 u_29) (S8 704 0 u_29).toNatClampNeg ((S8 720 u_29 u_50) - p1)))) (hT.k45 (i := u_29) (by omega)) rfl (hT.2.2.up (by decide) (by decide) (by decide)) (by simp only [EN]; rw [up3_a, (show (S8 704 0 u_29).toNatClampNeg = u_50 from by rw [eu_50]; exact nI_clamp (by omega))])
              have hP := hP9
              have hD := hD9
              clear hP9 hD9 hs_70
              obtain ⟨S_72, eS_72⟩ : ∃ S9 : Nat → Nat → Nat → Int32, S9 = up3 S8 720 u_29 u_50 ((S8 720 u_29 u_50) - p1) := ⟨_, rfl⟩
              rw [← eS_72] at hT
              generalize va_up f_14 (ad 45 u_29) (.inl (cs 0, 12, .inl (upd (S8 720 u_29) (S8 704 0 u_29).toNatClampNeg ((S8 720 u_29 u_50) - p1)))) = f_71 at hP hD hT
              have hFr_73 : AG S S_72 := by rw [eS_72]; exact AG.up hFrS8 (by decide)
              refine lv_goto (tgt := 91) hx hb dX1_leadAlong_75 (by decide) ?_
              refine lv_iload hx hb dX1_leadAlong_91 (lv_at hl 0 rfl) ?_
              refine lv_istore_n (lv' := [(3, .int (S8 704 0 u_29)), (5, .int (S8 704 0 u_29)), (0, .ref h0), (1, .int (nI u_5)), (2, .int p1), (4, .int (nI k))]) hx hb dX1_leadAlong_93 rfl hl (by decide) rfl (fun ls hl => ?_)
              refine lv_iinc (v := nI (k + 1)) (lv' := [(4, .int (nI (k + 1))), (3, .int (S8 704 0 u_29)), (5, .int (S8 704 0 u_29)), (0, .ref h0), (1, .int (nI u_5)), (2, .int p1)]) hx hb dX1_leadAlong_94 hl (k := 5) rfl (by exact (nI_1 k)) (by decide) rfl (fun ls hl => ?_)
              refine lv_goto (tgt := 23) hx hb dX1_leadAlong_97 (by decide) ?_
              exact ih (k + 1) (S8 704 0 u_29) S_72 (by omega) (by omega) hFr_73 c_34 _ _ _ hT (hP.part (cx := _) [] rfl) (hD.part (cx := _) [] (by decide) rfl) hS ls (lv_sub hl [3, 4, 5, 1, 0] rfl)
    exact HL 13 0 (nI u_5) S_12 (by omega) (by omega) hFr_13 c_2 _ _ _ hT (hP.part (cx := _) [] rfl) (hD.part (cx := _) [] (by decide) rfl) hS ls (lv_sub hl [2, 3, 4, 1, 0] rfl)
  · have hP9 := hP.part (cx := []) [] rfl
    have hD9 := hD.part (cx := []) [] (by decide) rfl
    have hK9 := hK.sub (tys' := []) [] rfl
    refine W.widen (k := 0) (n := 0) (Nat.le_of_ble_eq_true rfl) (Nat.le_of_ble_eq_true rfl) ?_
    exact W.vret hx hb hr (fun t9 ht hW => ⟨⟨(), rfl, trivial, S, f, hT, AG.rf, by rw [ht]; exact hP9, va_K.moved hW.alike hK9, hD9⟩, hS.F ht⟩) hS.2.2 dX1_leadAlong_7

set_option maxHeartbeats 4000000 in
set_option maxRecDepth 100000 in
theorem e_X1_leastPains (l : Launch) (dC : Nat → ClassId) (dI : Nat → Nat → Nat) (cs : Nat → ClassId) (L : List Nat) (ka : Nat → Nat) (ix : Nat → Nat) (ad : Nat → Nat → Nat) (n0 : Nat) (n6 : Nat) (n2 : Nat) (S : Nat → Nat → Nat → Int32) (f : Nat → va_E) (h0 : Nat) (e1 : Nat) (sz : Nat) (hT : tB L ka ix ad cs n0 n6 n2 S f) (hk_h0 : tpx L ka ix 1 0 h0) (hk_e1 : tpx L ka ix 3 0 e1) : Met l yX1_leastPains wsX1_leastPains ({ frames := 4, cells := 0, slots := 0, locals := 92 }) (va_Pc [.ref h0, .ref e1] (cP dC dI ([] ++ va_pl L f) (tyC cs) sz)) (va_Qi (fun (r : Int32) (_ : Unit) => True) (fun (_ : Unit) t9 => ∃ (S2 : Nat → Nat → Nat → Int32) (f2 : Nat → va_E), (tB L ka ix ad cs n0 n6 n2 S2 f2) ∧ (AG S S2) ∧ cQ dC dI ([] ++ va_pl L f2) [] (va_A ([] ++ va_pl L f) sz) t9) (va_A ([] ++ va_pl L f) sz)) 0 0 (va_A ([] ++ va_pl L f) sz) := by
  refine Met.ofW (cc := cX1_leastPains) (maxL := 6) (ret := (some .int)) (by decide) rfl ?_
  intro p e s m args below meth c s₁ B hml hv
  obtain ⟨rfl, hsz, hP, hK, hD0, hN⟩ := hv
  have hx := B.exec
  have hb := B.bytes
  have hr := B.returns
  have hts := atoms_spec (ws := wsX1_leastPains) B.pre
  have hown : s.vm.findClass RX1 = some m.cls := findClass_of_methodNamed B.named
  have hlocks := B.notSynchronized
  subst hsz
  have hin1 : ∀ w ∈ u_ws RX1 TX1 4, w ∈ wsX1_leastPains := by decide +kernel
  have hD := hD0.self (sz := s.heap.size)
  generalize hAe : va_A ([] ++ va_pl L f) s.heap.size = A at hD ⊢
  have hA : ∀ q : Nat, s.heap.size ≤ q → A q := fun q h => by rw [← hAe]; exact Or.inr h
  have hS : va_S A s.heap s.heap [] := va_S.rf
  have hP : va_P (dC, dI) vwCl ([] ++ va_pl L f) s.heap := hP
  have hl := lv_entry ([.ref h0, .ref e1]) (n := 6) (Nat.le_of_ble_eq_true rfl)
  rw [lg_entry_eq]
  generalize (lg_sl ([.ref h0, .ref e1]) ++ List.replicate (6 - (lg_sl ([.ref h0, .ref e1])).length) Slot.unset).toArray = ls at hl ⊢
  have hl : lv_has ls 6 [(0, .ref h0), (1, .ref e1)] := hl
  refine lv_iconst (v := 0) hx hb dX1_leastPains_0 (by decide) ?_
  refine lv_istore_n (lv' := [(2, .int 0), (0, .ref h0), (1, .ref e1)]) hx hb dX1_leastPains_1 rfl hl (by decide) rfl (fun ls hl => ?_)
  have HL : ∀ (n k : Nat) (S8 : Nat → Nat → Nat → Int32), k ≤ 12 → 12 + 1 ≤ k + n → (AG S S8) → ∀ (f_1 : Nat → va_E) (H : Heap) (locs : List Loc), tB L ka ix ad cs n0 n6 n2 S8 f_1 → va_P (dC, dI) vwCl ([] ++ va_pl L f_1) H → va_D A ([] ++ va_pl L f_1) → va_S A s.heap H locs → ∀ ls : Array Slot, lv_has ls 6 [(0, .ref h0), (1, .ref e1), (2, .int (nI k))] → W p l e (headSpec wsX1_leastPains ({ frames := 4, cells := 0, slots := 0, locals := 92 })).room s m ([.ref h0, .ref e1]).toArray below meth c H locs 0 0 (MQ below (va_Qi (fun (r : Int32) (_ : Unit) => True) (fun (_ : Unit) t9 => ∃ (S2 : Nat → Nat → Nat → Int32) (f2 : Nat → va_E), (tB L ka ix ad cs n0 n6 n2 S2 f2) ∧ (AG S S2) ∧ cQ dC dI ([] ++ va_pl L f2) [] A t9) A) ([.ref h0, .ref e1]).toArray s 0 0 A) (F0 m 2 ls []) := by
    intro n
    induction n with
    | zero => intro k S8 h1 h2; exact absurd h2 (by omega)
    | succ n ih =>
      intro k S8 hk hn hFrS8 f_1 H locs hT hP hD hS ls hl
      refine lv_iload_n hx hb dX1_leastPains_2 rfl (lv_at hl 2 rfl) ?_
      refine lv_bipush (v := 12) hx hb dX1_leastPains_3 (by decide) ?_
      refine lv_icmp_ge (tgt := 24) hx hb dX1_leastPains_5 (by decide) (fun c_2 => ?_) (fun c_2 => ?_)
      · have hke : k = 12 := by
          rcases Nat.lt_or_ge k 12 with q | q
          · exact absurd c_2 (nI_ge q (by decide))
          · omega
        refine lv_iconst (v := 0) hx hb dX1_leastPains_24 (by decide) ?_
        refine lv_istore_n (lv' := [(2, .int 0), (0, .ref h0), (1, .ref e1)]) hx hb dX1_leastPains_25 rfl hl (by decide) rfl (fun ls hl => ?_)
        refine lv_iconst (v := 0) hx hb dX1_leastPains_26 (by decide) ?_
        refine lv_istore_n (lv' := [(3, .int 0), (2, .int 0), (0, .ref h0), (1, .ref e1)]) hx hb dX1_leastPains_27 rfl hl (by decide) rfl (fun ls hl => ?_)
        have HL_j : ∀ (n_j j : Nat) (x2 : Int32) (S7 : Nat → Nat → Nat → Int32), j ≤ 61 → 61 + 1 ≤ j + n_j → (AG S S7) → ∀ (f_3 : Nat → va_E) (H : Heap) (locs : List Loc), tB L ka ix ad cs n0 n6 n2 S7 f_3 → va_P (dC, dI) vwCl ([] ++ va_pl L f_3) H → va_D A ([] ++ va_pl L f_3) → va_S A s.heap H locs → ∀ ls : Array Slot, lv_has ls 6 [(0, .ref h0), (1, .ref e1), (2, .int x2), (3, .int (nI j))] → W p l e (headSpec wsX1_leastPains ({ frames := 4, cells := 0, slots := 0, locals := 92 })).room s m ([.ref h0, .ref e1]).toArray below meth c H locs 0 0 (MQ below (va_Qi (fun (r : Int32) (_ : Unit) => True) (fun (_ : Unit) t9 => ∃ (S2 : Nat → Nat → Nat → Int32) (f2 : Nat → va_E), (tB L ka ix ad cs n0 n6 n2 S2 f2) ∧ (AG S S2) ∧ cQ dC dI ([] ++ va_pl L f2) [] A t9) A) ([.ref h0, .ref e1]).toArray s 0 0 A) (F0 m 28 ls []) := by
          intro n_j
          induction n_j with
          | zero => intro j x2 S7 h1 h2; exact absurd h2 (by omega)
          | succ n_j ih_j =>
            intro j x2 S7 hk_j hn_j hFrS7 f_3 H locs hT hP hD hS ls hl
            refine lv_iload_n hx hb dX1_leastPains_28 rfl (lv_at hl 3 rfl) ?_
            refine lv_bipush (v := 60) hx hb dX1_leastPains_29 (by decide) ?_
            refine lv_icmp_gt (tgt := 98) hx hb dX1_leastPains_31 (by decide) (fun c_4 => ?_) (fun c_4 => ?_)
            · refine lv_iload_n hx hb dX1_leastPains_98 rfl (lv_at hl 2 rfl) ?_
              have hP9 := hP.part (cx := []) [] rfl
              have hD9 := hD.part (cx := []) [] (by decide) rfl
              have hK9 := hK.sub (tys' := []) [] rfl
              refine W.widen (k := 0) (n := 0) (Nat.le_of_ble_eq_true rfl) (Nat.le_of_ble_eq_true rfl) ?_
              exact W.iret (v := x2) hx hb hr (fun t9 ht hW => ⟨⟨_, (), rfl, trivial, S7, f_3, hT, hFrS7, by rw [ht]; exact hP9, va_K.moved hW.alike hK9, hD9⟩, hS.F ht⟩) hS.2.2 dX1_leastPains_99
            · refine lv_aload_n hx hb dX1_leastPains_34 rfl (lv_at hl 0 rfl) ?_
              have hPc := hP.part (cx := []) [] rfl
              have hDc := hD.part (cx := []) [] (by decide) rfl
              have hKc := hK
              have hf_5 : f_3 h0 = .inr (1, [.ref (ad 41 0), .ref (ad 42 0), .ref (ad 43 0), .ref (ad 44 0)]) := hT.get hk_h0
              obtain ⟨q_6, hq_6⟩ := pl_at (X := []) (f := f_3) (e := .inr (1, [.ref (ad 41 0), .ref (ad 42 0), .ref (ad 43 0), .ref (ad 44 0)])) hk_h0.1 hf_5
              refine cs_i (va_runV (As := []) (rest := []) ⟨hx, hb, hml, hown, hts⟩ (e_X1_isAnyShort l dC dI cs L ka ix ad n0 n6 n2 S7 f_3 h0 H.size hT hk_h0) (cwV 0 hts gX1_leastPains_X1_isAnyShort rfl rfl rfl (by decide +kernel) ⟨Nat.le_of_ble_eq_true rfl, Nat.le_of_ble_eq_true rfl⟩) ⟨c_blind, va_recv hKc hPc (ci := 1) (q0 := q_6) rfl hq_6, c_pre hPc hKc hDc hN⟩ rfl rfl hl.1 rfl (lv_room (Nat.le_of_ble_eq_true rfl)) dX1_leastPains_35 ⟨Nat.le_of_ble_eq_true rfl, Nat.le_of_ble_eq_true rfl⟩) (fun r_7 hr_7 => ?_)
              refine lv_if_eq (tgt := 98) hx hb dX1_leastPains_38 (by decide) (fun c_8 => ?_) (fun c_8 => ?_)
              · refine lv_iload_n hx hb dX1_leastPains_98 rfl (lv_at hl 2 rfl) ?_
                have hP9 := hP.part (cx := []) [] rfl
                have hD9 := hD.part (cx := []) [] (by decide) rfl
                have hK9 := hK.sub (tys' := []) [] rfl
                refine W.widen (k := 0) (n := 0) (Nat.le_of_ble_eq_true rfl) (Nat.le_of_ble_eq_true rfl) ?_
                exact W.iret (v := x2) hx hb hr (fun t9 ht hW => ⟨⟨_, (), rfl, trivial, S7, f_3, hT, hFrS7, by rw [ht]; exact hP9, va_K.moved hW.alike hK9, hD9⟩, hS.F ht⟩) hS.2.2 dX1_leastPains_99
              · refine lv_aload_n hx hb dX1_leastPains_41 rfl (lv_at hl 0 rfl) ?_
                refine lv_aload_n hx hb dX1_leastPains_42 rfl (lv_at hl 1 rfl) ?_
                have hPc := hP.part (cx := []) [] rfl
                have hDc := hD.part (cx := []) [] (by decide) rfl
                have hKc := hK
                have hFc := va_freeP (cx := []) hD hS hA [] rfl
                obtain ⟨q_9, hq_9⟩ := pl_at (X := []) (f := f_3) (e := .inr (1, [.ref (ad 41 0), .ref (ad 42 0), .ref (ad 43 0), .ref (ad 44 0)])) hk_h0.1 hf_5
                refine va_callv (va_runV (As := [.ref e1]) (rest := []) ⟨hx, hb, hml, hown, hts⟩ (e_X1_spread l dC dI cs L ka ix ad n0 n6 n2 S7 f_3 h0 e1 H.size hT hk_h0 hk_e1) (cwV 1 hts gX1_leastPains_X1_spread rfl rfl rfl (by decide +kernel) ⟨Nat.le_of_ble_eq_true rfl, Nat.le_of_ble_eq_true rfl⟩) ⟨c_blind, va_recv hKc hPc (ci := 1) (q0 := q_9) rfl hq_9, c_pre hPc hKc hDc hN⟩ rfl rfl hl.1 rfl (lv_room (Nat.le_of_ble_eq_true rfl)) dX1_leastPains_43 ⟨Nat.le_of_ble_eq_true rfl, Nat.le_of_ble_eq_true rfl⟩) hS (fun q _ h => hFc q h) hFc (fun u9 t9 H1 locs ht hvm hw hB hz1 hk1 hS => ?_)
                obtain ⟨S_11, f_12, hf_x_13, hf_x_14, hP1, hK1, hD1⟩ := hB
                rw [ht] at hP1
                have hK1 := va_K.moved hvm.symm hK1
                obtain ⟨hP, hD⟩ := va_joinP (X := []) (cx := []) (wr := []) (rx := []) (pl := va_pl L f_3) (pl1 := va_pl L f_12) hP hD [] [] rfl rfl (by decide) (by decide) hk1 hFc hP1 hD1
                have hT := hf_x_13
                generalize H1 = H at hP hS ⊢
                have hP : va_P (dC, dI) vwCl ([] ++ va_pl L f_12) H := hP
                have hD : va_D A ([] ++ va_pl L f_12) := hD
                have hFr_15 := AG.tr hFrS7 hf_x_14
                refine W.widen (k := 0) (n := 0) (Nat.le_of_ble_eq_true rfl) (Nat.le_of_ble_eq_true rfl) ?_
                refine lv_aload_n hx hb dX1_leastPains_46 rfl (lv_at hl 0 rfl) ?_
                have hPc := hP.part (cx := []) [] rfl
                have hDc := hD.part (cx := []) [] (by decide) rfl
                have hKc := hK
                have hf_16 : f_12 h0 = .inr (1, [.ref (ad 41 0), .ref (ad 42 0), .ref (ad 43 0), .ref (ad 44 0)]) := hT.get hk_h0
                obtain ⟨q_17, hq_17⟩ := pl_at (X := []) (f := f_12) (e := .inr (1, [.ref (ad 41 0), .ref (ad 42 0), .ref (ad 43 0), .ref (ad 44 0)])) hk_h0.1 hf_16
                refine cs_i (va_runV (As := []) (rest := []) ⟨hx, hb, hml, hown, hts⟩ (e_X1_nearestShort l dC dI cs L ka ix ad n0 n6 n2 S_11 f_12 h0 H.size hT hk_h0) (cwV 0 hts gX1_leastPains_X1_nearestShort rfl rfl rfl (by decide +kernel) ⟨Nat.le_of_ble_eq_true rfl, Nat.le_of_ble_eq_true rfl⟩) ⟨c_blind, va_recv hKc hPc (ci := 1) (q0 := q_17) rfl hq_17, c_pre hPc hKc hDc hN⟩ rfl rfl hl.1 rfl (lv_room (Nat.le_of_ble_eq_true rfl)) dX1_leastPains_47 ⟨Nat.le_of_ble_eq_true rfl, Nat.le_of_ble_eq_true rfl⟩) (fun r_18 hr_18 => ?_)
                refine lv_istore (lv' := [(4, .int r_18), (0, .ref h0), (1, .ref e1), (2, .int x2), (3, .int (nI j))]) hx hb dX1_leastPains_50 hl (by decide) rfl (fun ls hl => ?_)
                refine lv_iload hx hb dX1_leastPains_52 (lv_at hl 0 rfl) ?_
                have hPc := hP.sub (ws' := []) [] rfl
                have hDc := hD.sub (ws' := []) [] (by decide) rfl
                have hKc := hK.sub (tys' := []) [] rfl
                refine cs_i (va_runSN (As := [.int r_18]) (rest := []) ⟨hx, hb, hml, hown, hts⟩ (c_X8_isStation l dC dI r_18 H.size) ⟨va_cnB 1 hts ggX1_leastPains_X8_isStation rfl rfl rfl (hN.1 (.methodLinkNest RX1 26 yX8_isStation "YamRiders") (by decide +kernel)) (hts (.initialized RX8) (by decide +kernel)) (by decide +kernel) ⟨Nat.le_of_ble_eq_true rfl, Nat.le_of_ble_eq_true rfl⟩, hts (.static yX8_isStation) (by decide +kernel), trivial⟩ ⟨c_blind, c_pre hPc hKc hDc hN⟩ rfl rfl hl.1 rfl (lv_room (Nat.le_of_ble_eq_true rfl)) dX1_leastPains_54 ⟨Nat.le_of_ble_eq_true rfl, Nat.le_of_ble_eq_true rfl⟩) (fun r_19 hr_19 => ?_)
                subst hr_19
                refine lv_if_ne (tgt := 63) hx hb dX1_leastPains_57 (by decide) (fun c_20 => ?_) (fun c_20 => ?_)
                · refine lv_aload_n hx hb dX1_leastPains_63 rfl (lv_at hl 1 rfl) ?_
                  refine lv_iload hx hb dX1_leastPains_64 (lv_at hl 0 rfl) ?_
                  have hPc := hP.part (cx := []) [] rfl
                  have hDc := hD.part (cx := []) [] (by decide) rfl
                  have hKc := hK
                  obtain ⟨q_21, hq_21⟩ := pl_at (X := []) (f := f_12) (e := .inr (1, [.ref (ad 41 0), .ref (ad 42 0), .ref (ad 43 0), .ref (ad 44 0)])) hk_h0.1 hf_16
                  refine cs_i (va_runV (As := [.int r_18]) (rest := []) ⟨hx, hb, hml, hown, hts⟩ (e_X1_horsesAlong l dC dI cs L ka ix ad n0 n6 n2 S_11 f_12 h0 r_18 H.size hT hk_h0) (cwV 1 hts gX1_leastPains_X1_horsesAlong rfl rfl rfl (by decide +kernel) ⟨Nat.le_of_ble_eq_true rfl, Nat.le_of_ble_eq_true rfl⟩) ⟨c_blind, va_recv hKc hPc (ci := 1) (q0 := q_21) rfl hq_21, c_pre hPc hKc hDc hN⟩ rfl rfl hl.1 rfl (lv_room (Nat.le_of_ble_eq_true rfl)) dX1_leastPains_66 ⟨Nat.le_of_ble_eq_true rfl, Nat.le_of_ble_eq_true rfl⟩) (fun r_22 hr_22 => ?_)
                  refine lv_istore (lv' := [(5, .int r_22), (4, .int r_18), (0, .ref h0), (1, .ref e1), (2, .int x2), (3, .int (nI j))]) hx hb dX1_leastPains_69 hl (by decide) rfl (fun ls hl => ?_)
                  refine lv_iload_n hx hb dX1_leastPains_71 rfl (lv_at hl 4 rfl) ?_
                  refine lv_iload hx hb dX1_leastPains_72 (lv_at hl 0 rfl) ?_
                  refine lv_aload_n hx hb dX1_leastPains_74 rfl (lv_at hl 2 rfl) ?_
                  obtain ⟨q_23, hq_23⟩ := pl_at (X := []) (f := f_12) (e := .inr (1, [.ref (ad 41 0), .ref (ad 42 0), .ref (ad 43 0), .ref (ad 44 0)])) hk_h0.1 hf_16
                  refine va_get (D := (dC, dI)) (ci := 1) (v := .ref (ad 43 0)) (C := RX1) (T := TX1) (N := 4) hx hb hts hin1 hown hK hP q_23 hq_23 rfl 2 (by decide) (hts (.fieldLink RX1 20 "YamRiders$Leader" "pains" "[I") (by decide +kernel)) (fun _ h9 => h9) rfl dX1_leastPains_75 ?_
                  refine lv_iload hx hb dX1_leastPains_78 (lv_at hl 1 rfl) ?_
                  obtain ⟨u_24, hu_24, eu_24⟩ := st_of c_20
                  have hf_25 : f_12 (ad 43 0) = .inl (cs 0, 12, .inl (S_11 688 0)) := hT.get (hT.kf (k := 43) (by decide))
                  obtain ⟨q_26, hq_26⟩ := pl_at (X := []) (f := f_12) (e := .inl (cs 0, 12, .inl (S_11 688 0))) (hT.kf (k := 43) (by decide)).1 hf_25
                  refine va_iald hx hb hK hP q_26 0 hq_26 rfl (by rw [eu_24]; exact vp_in_nI (by omega) (by omega)) dX1_leastPains_80 ?_
                  refine lv_topi (fun v_27 ev_27 => ?_)
                  obtain rfl : v_27 = S_11 688 0 u_24 := ev_27.trans (by rw [(show (r_18).toNatClampNeg = u_24 from by rw [eu_24]; exact nI_clamp (by omega))])
                  refine lv_imul hx hb dX1_leastPains_81 ?_
                  refine lv_iadd hx hb dX1_leastPains_82 ?_
                  refine lv_istore_n (lv' := [(2, .int (x2 + (r_22 * (S_11 688 0 u_24)))), (5, .int r_22), (4, .int r_18), (0, .ref h0), (1, .ref e1), (3, .int (nI j))]) hx hb dX1_leastPains_83 rfl hl (by decide) rfl (fun ls hl => ?_)
                  refine lv_aload_n hx hb dX1_leastPains_84 rfl (lv_at hl 3 rfl) ?_
                  refine lv_iload hx hb dX1_leastPains_85 (lv_at hl 2 rfl) ?_
                  refine lv_iload hx hb dX1_leastPains_87 (lv_at hl 1 rfl) ?_
                  have hPc := hP.part (cx := []) [] rfl
                  have hDc := hD.part (cx := []) [] (by decide) rfl
                  have hKc := hK
                  have hFc := va_freeP (cx := []) hD hS hA [] rfl
                  obtain ⟨q_28, hq_28⟩ := pl_at (X := []) (f := f_12) (e := .inr (1, [.ref (ad 41 0), .ref (ad 42 0), .ref (ad 43 0), .ref (ad 44 0)])) hk_h0.1 hf_16
                  refine va_callv (va_runV (As := [.int r_18, .int r_22]) (rest := []) ⟨hx, hb, hml, hown, hts⟩ (e_X1_leadAlong l dC dI cs L ka ix ad n0 n6 n2 S_11 f_12 h0 r_18 r_22 H.size hT hk_h0) (cwV 2 hts gX1_leastPains_X1_leadAlong rfl rfl rfl (by decide +kernel) ⟨Nat.le_of_ble_eq_true rfl, Nat.le_of_ble_eq_true rfl⟩) ⟨c_blind, va_recv hKc hPc (ci := 1) (q0 := q_28) rfl hq_28, c_pre hPc hKc hDc hN⟩ rfl rfl hl.1 rfl (lv_room (Nat.le_of_ble_eq_true rfl)) dX1_leastPains_89 ⟨Nat.le_of_ble_eq_true rfl, Nat.le_of_ble_eq_true rfl⟩) hS (fun q _ h => hFc q h) hFc (fun u9 t9 H1 locs ht hvm hw hB hz1 hk1 hS => ?_)
                  obtain ⟨S_30, f_31, hf_x_32, hf_x_33, hP1, hK1, hD1⟩ := hB
                  rw [ht] at hP1
                  have hK1 := va_K.moved hvm.symm hK1
                  obtain ⟨hP, hD⟩ := va_joinP (X := []) (cx := []) (wr := []) (rx := []) (pl := va_pl L f_12) (pl1 := va_pl L f_31) hP hD [] [] rfl rfl (by decide) (by decide) hk1 hFc hP1 hD1
                  have hT := hf_x_32
                  generalize H1 = H at hP hS ⊢
                  have hP : va_P (dC, dI) vwCl ([] ++ va_pl L f_31) H := hP
                  have hD : va_D A ([] ++ va_pl L f_31) := hD
                  have hFr_34 := AG.tr hFr_15 hf_x_33
                  refine W.widen (k := 0) (n := 0) (Nat.le_of_ble_eq_true rfl) (Nat.le_of_ble_eq_true rfl) ?_
                  refine lv_iinc (v := nI (j + 1)) (lv' := [(3, .int (nI (j + 1))), (2, .int (x2 + (r_22 * (S_11 688 0 u_24)))), (5, .int r_22), (4, .int r_18), (0, .ref h0), (1, .ref e1)]) hx hb dX1_leastPains_92 hl (k := 5) rfl (by exact (nI_1 j)) (by decide) rfl (fun ls hl => ?_)
                  refine lv_goto (tgt := 28) hx hb dX1_leastPains_95 (by decide) ?_
                  have hj9 : j ≤ 60 := gt_n (n := 60) c_4 (by decide) (by omega)
                  exact ih_j (j + 1) (x2 + (r_22 * (S_11 688 0 u_24))) S_30 (by omega) (by omega) hFr_34 _ _ _ hT (hP.part (cx := _) [] rfl) (hD.part (cx := _) [] (by decide) rfl) hS ls (lv_sub hl [4, 5, 1, 0] rfl)
                · refine lv_bipush (v := (-2)) hx hb dX1_leastPains_60 (by decide) ?_
                  have hP9 := hP.part (cx := []) [] rfl
                  have hD9 := hD.part (cx := []) [] (by decide) rfl
                  have hK9 := hK.sub (tys' := []) [] rfl
                  refine W.widen (k := 0) (n := 0) (Nat.le_of_ble_eq_true rfl) (Nat.le_of_ble_eq_true rfl) ?_
                  exact W.iret (v := (-2)) hx hb hr (fun t9 ht hW => ⟨⟨_, (), rfl, trivial, S_11, f_12, hT, hFr_15, by rw [ht]; exact hP9, va_K.moved hW.alike hK9, hD9⟩, hS.F ht⟩) hS.2.2 dX1_leastPains_62
        exact HL_j 62 0 0 S8 (by omega) (by omega) hFrS8 _ _ _ hT (hP.part (cx := _) [] rfl) (hD.part (cx := _) [] (by decide) rfl) hS ls (lv_sub hl [2, 3, 1, 0] rfl)
      · have hlt : k < 12 := by
          rcases Nat.lt_or_ge k 12 with q | q
          · exact q
          · exact absurd (show nI 12 ≤ nI k from nI_le q (by omega)) c_2
        refine lv_aload_n hx hb dX1_leastPains_8 rfl (lv_at hl 0 rfl) ?_
        have hf_35 : f_1 h0 = .inr (1, [.ref (ad 41 0), .ref (ad 42 0), .ref (ad 43 0), .ref (ad 44 0)]) := hT.get hk_h0
        obtain ⟨q_36, hq_36⟩ := pl_at (X := []) (f := f_1) (e := .inr (1, [.ref (ad 41 0), .ref (ad 42 0), .ref (ad 43 0), .ref (ad 44 0)])) hk_h0.1 hf_35
        refine va_get (D := (dC, dI)) (ci := 1) (v := .ref (ad 42 0)) (C := RX1) (T := TX1) (N := 4) hx hb hts hin1 hown hK hP q_36 hq_36 rfl 1 (by decide) (hts (.fieldLink RX1 17 "YamRiders$Leader" "led" "[[I") (by decide +kernel)) (fun _ h9 => h9) rfl dX1_leastPains_9 ?_
        refine lv_iload_n hx hb dX1_leastPains_12 rfl (lv_at hl 2 rfl) ?_
        have hf_37 : f_1 (ad 42 0) = .inl (cs 2, 12, .inr (.inr (.inr (.inr (gl ad 45 12))))) := hT.get (hT.kf (k := 42) (by decide))
        obtain ⟨q_38, hq_38⟩ := pl_at (X := []) (f := f_1) (e := .inl (cs 2, 12, .inr (.inr (.inr (.inr (gl ad 45 12)))))) (hT.kf (k := 42) (by decide)).1 hf_37
        refine va_aldg hx hb hK hP q_38 2 hq_38 rfl (vp_in_nI (by omega) (by omega)) (show gl ad 45 12 (nI k).toNatClampNeg = some (ad 45 k) from by rw [(nI_clamp (by omega))]; exact gl_p (by omega)) dX1_leastPains_13 ?_
        refine lv_iconst (v := 0) hx hb dX1_leastPains_14 (by decide) ?_
        have hPc := hP.part (cx := []) [] rfl
        have hDc := hD.part (cx := []) [] (by decide) rfl
        have hKc := hK
        have hFc := va_freeP (cx := []) hD hS hA [] rfl
        refine va_callv (va_runS (As := [.ref (ad 45 k), .int 0]) (rest := []) ⟨hx, hb, hml, hown, hts⟩ (e_J7_fill l dC dI cs L ka ix ad n0 n6 n2 S8 f_1 k (ad 45 k) 0 H.size hT (hT.k45 (i := k) (by omega)) (by omega)) (va_cwS 2 hts gX1_leastPains_J7_fill_53178 rfl rfl rfl (by decide +kernel) ⟨Nat.le_of_ble_eq_true rfl, Nat.le_of_ble_eq_true rfl⟩) ⟨c_blind, c_pre hPc hKc hDc hN⟩ rfl rfl hl.1 rfl (lv_room (Nat.le_of_ble_eq_true rfl)) dX1_leastPains_15 ⟨Nat.le_of_ble_eq_true rfl, Nat.le_of_ble_eq_true rfl⟩) hS (fun q _ h => hFc q h) hFc (fun u9 t9 H1 locs ht hvm hw hB hz1 hk1 hS => ?_)
        obtain ⟨S_40, f_41, hf_x_42, hf_x_43, hP1, hK1, hD1⟩ := hB
        rw [ht] at hP1
        have hK1 := va_K.moved hvm.symm hK1
        obtain ⟨hP, hD⟩ := va_joinP (X := []) (cx := []) (wr := []) (rx := []) (pl := va_pl L f_1) (pl1 := va_pl L f_41) hP hD [] [] rfl rfl (by decide) (by decide) hk1 hFc hP1 hD1
        have hT := hf_x_42
        generalize H1 = H at hP hS ⊢
        have hP : va_P (dC, dI) vwCl ([] ++ va_pl L f_41) H := hP
        have hD : va_D A ([] ++ va_pl L f_41) := hD
        have hFr_44 := AG.tr hFrS8 hf_x_43
        refine W.widen (k := 0) (n := 0) (Nat.le_of_ble_eq_true rfl) (Nat.le_of_ble_eq_true rfl) ?_
        refine lv_iinc (v := nI (k + 1)) (lv' := [(2, .int (nI (k + 1))), (0, .ref h0), (1, .ref e1)]) hx hb dX1_leastPains_18 hl (k := 2) rfl (by exact (nI_1 k)) (by decide) rfl (fun ls hl => ?_)
        refine lv_goto (tgt := 2) hx hb dX1_leastPains_21 (by decide) ?_
        exact ih (k + 1) S_40 (by omega) (by omega) hFr_44 _ _ _ hT (hP.part (cx := _) [] rfl) (hD.part (cx := _) [] (by decide) rfl) hS ls (lv_sub hl [1, 2, 0] rfl)
  exact HL 13 0 S (by omega) (by omega) AG.rf _ _ _ hT (hP.part (cx := _) [] rfl) (hD.part (cx := _) [] (by decide) rfl) hS ls (lv_sub hl [1, 2, 0] rfl)
