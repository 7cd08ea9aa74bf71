theorem fit_int {cA : ClassId} {n : Nat} {g : Nat → Int32} : ∀ (i : Nat) (v : Value), (vp_cell cA (n, .inl g)).slots[i]? = some v → fits .int v = true := fun i v h => by
  have h : (arrV cA n (fun j => .int (g j))).slots[i]? = some v := h
  by_cases hi : i < n
  · rw [arrV_read _ _ hi] at h
    cases h; rfl
  · have hs : (arrV cA n (fun j => .int (g j))).slots.size ≤ i := by rw [arrV_size]; omega
    rw [Array.getElem?_eq_none hs] at h
    cases h
theorem nI_ne12 {n : Nat} (hn : n ≤ 12) (c : ¬ nI n = 12) : n < 12 := by
  rcases Nat.lt_or_ge n 12 with q | q
  · exact q
  · exact absurd (show nI n = nI 12 by rw [show n = 12 by omega]) c

set_option maxHeartbeats 4000000 in
set_option maxRecDepth 100000 in
theorem t_J7_copyOf (l : Launch) (dC : Nat → ClassId) (dI : Nat → Nat → Nat) (cs : Nat → ClassId) (L : List Nat) (ka : Nat → Nat) (f : Nat → va_E) (b1 : Nat) (n9 : Nat) (sz : Nat) (hT : tO L ka cs f) (hk_b1 : tp L ka 10 b1) (hn9 : n9 ≤ 12) : Met l yJ7_copyOf_59c91 wsJ7_copyOf_59c91 ({ frames := 1, cells := 1, slots := 12, locals := 60 }) (va_Pc [.ref b1, .int (nI n9)] (cP dC dI ([] ++ va_pl L f) (tyC cs) sz)) (va_Qq (fun (r u9 : Option Nat) => r = u9) (fun (u9 : Option Nat) t9 => ∃ (L2 : List Nat) (ka2 : Nat → Nat) (f2 : Nat → va_E), (tX L ka L2 ka2) ∧ (tO L2 ka2 cs f2) ∧ (tq L2 ka2 11 u9) ∧ cQ dC dI ([] ++ va_pl L2 f2) [] (va_A ([] ++ va_pl L f) sz) t9) (va_A ([] ++ va_pl L f) sz)) 1 12 (va_A ([] ++ va_pl L f) sz) := by
  refine Met.ofW (cc := cJ7_copyOf_59c91) (maxL := 3) (ret := (some (.array .int))) (by decide) rfl ?_
  intro p e s m args below meth c s₁ B hml hv
  obtain ⟨rfl, hsz, hP, hK, hD0, hN⟩ := hv
  have hx := B.exec
  have hb := B.bytes
  have hr := B.returns
  have hts := atoms_spec (ws := wsJ7_copyOf_59c91) B.pre
  have hown : s.vm.findClass RJ7 = some m.cls := findClass_of_methodNamed B.named
  have hlocks := B.notSynchronized
  subst hsz
  have hD := hD0.self (sz := s.heap.size)
  generalize hAe : va_A ([] ++ va_pl L f) s.heap.size = A at hD ⊢
  have hA : ∀ q : Nat, s.heap.size ≤ q → A q := fun q h => by rw [← hAe]; exact Or.inr h
  have hS : va_S A s.heap s.heap [] := va_S.rf
  have hP : va_P (dC, dI) vwCl ([] ++ va_pl L f) s.heap := hP
  have hl := lv_entry ([.ref b1, .int (nI n9)]) (n := 3) (Nat.le_of_ble_eq_true rfl)
  rw [lg_entry_eq]
  generalize (lg_sl ([.ref b1, .int (nI n9)]) ++ List.replicate (3 - (lg_sl ([.ref b1, .int (nI n9)])).length) Slot.unset).toArray = ls at hl ⊢
  have hl : lv_has ls 3 [(0, .ref b1), (1, .int (nI n9))] := hl
  refine lv_iload_n hx hb dJ7_copyOf_59c91_0 rfl (lv_at hl 1 rfl) ?_
  refine lv_aload_n hx hb dJ7_copyOf_59c91_1 rfl (lv_at hl 0 rfl) ?_
  obtain ⟨g_2, hf_1⟩ := hT.get hk_b1
  obtain ⟨q_3, hq_3⟩ := pl_at (X := []) (f := f) (e := .inl (cs 0, 12, .inl g_2)) hk_b1.1 hf_1
  refine va_alen (v := 12) hx hb hK hP q_3 0 hq_3 rfl rfl dJ7_copyOf_59c91_2 ?_
  refine lv_icmp_ne (tgt := 14) hx hb dJ7_copyOf_59c91_3 (by decide) (fun c_4 => ?_) (fun c_4 => ?_)
  · refine lv_iload_n hx hb dJ7_copyOf_59c91_14 rfl (lv_at hl 1 rfl) ?_
    have hn12 : n9 < 12 := nI_ne12 hn9 c_4
    refine va_newa (atype := .int) (ty := .int) (a0 := (n9, .inl (fun _ => 0))) (N' := n9) hx hb (hts (.arrayClass .int) (by decide +kernel)) rfl hK hP hD hS hA (fun _ => rfl) (nI_pos (by omega)) (nI_clamp (by omega)) (by show n9 * 4 ≤ _; omega) (Nat.le_of_ble_eq_true rfl) (Nat.le_trans (show 0 + n9 ≤ 12 by omega) (Nat.le_of_ble_eq_true rfl)) dJ7_copyOf_59c91_15 (fun q_5 k_6 H hK hP hD hS => ?_)
    refine W.widen (k := 1) (n := 12) (Nat.le_of_ble_eq_true rfl) (by omega) ?_
    have hP := va_P.swap (a := []) hP
    have hD := va_D.swap (a := []) hD
    have hP : va_P (dC, dI) vwCl ([(q_5, .inl (k_6, n9, .inl (fun _ => 0)))] ++ va_pl L f) H := hP
    have hD : va_D A ([(q_5, .inl (k_6, n9, .inl (fun _ => 0)))] ++ va_pl L f) := hD
    have hK : va_K (dC, dI) vwCl [(cs 0, .int), (cs 1, .boolean), (cs 2, .array .int), (cs 3, .object "YamRiders$Horse"), (cs 4, .object "YamRiders$Tablet"), (cs 5, .object "YamRiders$Rider"), (k_6, .int)] s := hK
    obtain rfl : k_6 = cs 0 := ka_eq hK 0 6 rfl rfl
    have hK := hK.sub (tys' := tyC cs) [0, 1, 2, 3, 4, 5] rfl
    have hP : va_P (dC, dI) vwCl ([(q_5, .inl (cs 0, n9, .inl (fun _ => 0)))] ++ va_pl L f) H := hP
    have hD : va_D A ([(q_5, .inl (cs 0, n9, .inl (fun _ => 0)))] ++ va_pl L f) := hD
    refine lv_astore_n (lv' := [(2, .ref q_5), (0, .ref b1), (1, .int (nI n9))]) hx hb dJ7_copyOf_59c91_17 rfl hl (by decide) rfl (fun ls hl => ?_)
    refine lv_aload_n hx hb dJ7_copyOf_59c91_18 rfl (lv_at hl 1 rfl) ?_
    refine lv_iconst (v := 0) hx hb dJ7_copyOf_59c91_19 (by decide) ?_
    refine lv_aload_n hx hb dJ7_copyOf_59c91_20 rfl (lv_at hl 0 rfl) ?_
    refine lv_iconst (v := 0) hx hb dJ7_copyOf_59c91_21 (by decide) ?_
    refine lv_aload_n hx hb dJ7_copyOf_59c91_22 rfl (lv_at hl 1 rfl) ?_
    obtain ⟨q_7, hq_7⟩ := pl_at (X := [(q_5, .inl (cs 0, n9, .inl (fun _ => 0)))]) (f := f) (e := .inl (cs 0, 12, .inl g_2)) hk_b1.1 hf_1
    refine va_alen (v := 12) hx hb hK hP q_7 0 hq_7 rfl rfl dJ7_copyOf_59c91_23 ?_
    refine lv_iload_n hx hb dJ7_copyOf_59c91_24 rfl (lv_at hl 2 rfl) ?_
    refine va_mmin (x := 12) (y := nI n9) hx hb (by rw [hml]; exact hl.1.symm) hown (hts (.methodLink RJ7 304 Lib.Math.min.name) (by decide +kernel)) (hts (.static Lib.Math.min.name) (by decide +kernel)) (hts (.initialized "java/lang/Math") (by decide +kernel)) (hts (.code Lib.Math.min.name Lib.Math.min.code 2 (some .int)) (by decide +kernel)) (Nat.le_of_ble_eq_true rfl) (Nat.le_of_ble_eq_true rfl) (Nat.le_of_ble_eq_true rfl) (Nat.le_of_ble_eq_true rfl) dJ7_copyOf_59c91_25 ?_
    refine lv_topi (fun v_8 ev_8 => ?_)
    obtain rfl : v_8 = nI n9 := ev_8.trans (if_pos (show nI n9 < nI 12 from nI_lt hn12 (by decide)))
    obtain ⟨q_9, hq_9⟩ := pl_at (X := [(q_5, .inl (cs 0, n9, .inl (fun _ => 0)))]) (f := f) (e := .inl (cs 0, 12, .inl g_2)) hk_b1.1 hf_1
    refine va_copyi hx hb (by rw [hml]; exact hl.1.symm) hown (hts (.methodLink RJ7 150 arraycopyName) (by decide +kernel)) (hts (.native arraycopyName) (by decide +kernel)) (hts (.static arraycopyName) (by decide +kernel)) (hts (.initialized "java/lang/System") (by decide +kernel)) hK hP hD hS q_9 0 0 0 hq_9 rfl rfl rfl rfl (by decide) (by decide) (nI_pos (by omega)) (by rw [nI_clamp (by omega)]; show 0 + n9 ≤ 12; omega) (by rw [nI_clamp (by omega)]; show 0 + n9 ≤ n9; omega) (fun i _ => rfl) (Nat.le_of_ble_eq_true rfl) (Nat.le_of_ble_eq_true rfl) dJ7_copyOf_59c91_28 (fun H locs hP hD hS => ?_)
    have hP : va_P (dC, dI) vwCl ([(q_5, .inl (cs 0, n9, .inl (va_cpy g_2 (fun _ => 0) (0 : Int32).toNatClampNeg (0 : Int32).toNatClampNeg (nI n9).toNatClampNeg)))] ++ va_pl L f) H := hP
    have hD : va_D A ([(q_5, .inl (cs 0, n9, .inl (va_cpy g_2 (fun _ => 0) (0 : Int32).toNatClampNeg (0 : Int32).toNatClampNeg (nI n9).toNatClampNeg)))] ++ va_pl L f) := hD
    generalize va_cpy g_2 (fun _ => 0) (0 : Int32).toNatClampNeg (0 : Int32).toNatClampNeg (nI n9).toNatClampNeg = g_10 at hP hD
    refine lv_aload_n hx hb dJ7_copyOf_59c91_31 rfl (lv_at hl 0 rfl) ?_
    have hP := hP.part (cx := [] ++ [(q_5, .inl (cs 0, n9, .inl g_10))]) [0] rfl
    have hD := hD.part (cx := [] ++ [(q_5, .inl (cs 0, n9, .inl g_10))]) [0] (by decide) rfl
    obtain ⟨L_11, ka_12, f_13, hX_14, hT, hk_u_15, hP, hD⟩ := t_push (X := []) (q := q_5) 11 hT hP hD (fun _ _ h8 => ⟨_, _, (Nat.le_of_lt hn12), rfl⟩)
    have hl_16 := hX_14.tp hk_b1
    have hP : va_P (dC, dI) vwCl ([] ++ va_pl L_11 f_13) H := hP
    have hD : va_D A ([] ++ va_pl L_11 f_13) := hD
    have hP9 := hP.part (cx := []) [] rfl
    have hD9 := hD.part (cx := []) [] (by decide) rfl
    have hK9 := hK.sub (tys' := []) [] rfl
    refine W.widen (k := 1) (n := 12) (Nat.le_of_ble_eq_true rfl) (Nat.le_of_ble_eq_true rfl) ?_
    exact W.aret (v := .ref q_5) hx hb hr (by first | exact Or.inl ⟨_, rfl⟩ | exact Or.inr ⟨_, rfl⟩) (Or.inr ⟨_, rfl⟩) (fun t9 ht hW => ⟨⟨(some q_5), (some q_5), rfl, rfl, L_11, ka_12, f_13, hX_14, hT, (fun _ h9 => Option.some.inj h9 ▸ hk_u_15), by rw [ht]; exact hP9, va_K.moved hW.alike hK9, hD9⟩, hS.F ht⟩) hS.2.2 dJ7_copyOf_59c91_32
  · refine lv_aload_n hx hb dJ7_copyOf_59c91_6 rfl (lv_at hl 0 rfl) ?_
    obtain ⟨q_17, hq_17⟩ := pl_at (X := []) (f := f) (e := .inl (cs 0, 12, .inl g_2)) hk_b1.1 hf_1
    refine va_clone hx hb (by rw [hml]; exact hl.1.symm) hown (hts (.methodLink RJ7 316 ⟨"[I", "clone", "()Ljava/lang/Object;"⟩) (by decide +kernel)) (hts (.sameMethod "[I" "java/lang/Object" "clone" "()Ljava/lang/Object;") (by decide +kernel)) (hts (.native ⟨"java/lang/Object", "clone", "()Ljava/lang/Object;"⟩) (by decide +kernel)) (hts (.instanceMethod ⟨"java/lang/Object", "clone", "()Ljava/lang/Object;"⟩) (by decide +kernel)) (hts (.selects "[I" ⟨"[I", "clone", "()Ljava/lang/Object;"⟩ ⟨"java/lang/Object", "clone", "()Ljava/lang/Object;"⟩) (by decide +kernel)) (hN.1 (.castable "[I" "java/lang/Cloneable") (by decide +kernel)) hK hP hD hS hA q_17 0 hq_17 rfl (show s.vm.findClass "[I" = some (cs 0) from (hK.2 0 _ rfl).2) fit_int (Nat.le_of_ble_eq_true rfl) (Nat.le_of_ble_eq_true rfl) (Nat.le_of_ble_eq_true rfl) (Nat.le_of_ble_eq_true rfl) dJ7_copyOf_59c91_7 (fun q_18 H hK hP hD hS => ?_)
    refine W.widen (k := 1) (n := 12) (Nat.le_of_ble_eq_true rfl) (Nat.le_of_ble_eq_true rfl) ?_
    have hP := va_P.swap (a := []) hP
    have hD := va_D.swap (a := []) hD
    have hK := hK.sub (tys' := tyC cs) [0, 1, 2, 3, 4, 5] rfl
    have hP : va_P (dC, dI) vwCl ([(q_18, .inl (cs 0, 12, .inl g_2))] ++ va_pl L f) H := hP
    have hD : va_D A ([(q_18, .inl (cs 0, 12, .inl g_2))] ++ va_pl L f) := hD
    refine va_castA hx hb hown (hts (.classLink RJ7 317 "[I") (by decide +kernel)) hP 0 rfl (show s.vm.findClass "[I" = some (cs 0) from (hK.2 0 _ rfl).2) dJ7_copyOf_59c91_10 ?_
    have hP := hP.part (cx := [] ++ [(q_18, .inl (cs 0, 12, .inl g_2))]) [0] rfl
    have hD := hD.part (cx := [] ++ [(q_18, .inl (cs 0, 12, .inl g_2))]) [0] (by decide) rfl
    obtain ⟨L_19, ka_20, f_21, hX_22, hT, hk_u_23, hP, hD⟩ := t_push (X := []) (q := q_18) 11 hT hP hD (fun _ _ h8 => ⟨_, _, (by omega), rfl⟩)
    have hl_24 := hX_22.tp hk_b1
    have hP : va_P (dC, dI) vwCl ([] ++ va_pl L_19 f_21) H := hP
    have hD : va_D A ([] ++ va_pl L_19 f_21) := hD
    have hP9 := hP.part (cx := []) [] rfl
    have hD9 := hD.part (cx := []) [] (by decide) rfl
    have hK9 := hK.sub (tys' := []) [] rfl
    refine W.widen (k := 1) (n := 12) (Nat.le_of_ble_eq_true rfl) (Nat.le_of_ble_eq_true rfl) ?_
    exact W.aret (v := .ref q_18) hx hb hr (by first | exact Or.inl ⟨_, rfl⟩ | exact Or.inr ⟨_, rfl⟩) (Or.inr ⟨_, rfl⟩) (fun t9 ht hW => ⟨⟨(some q_18), (some q_18), rfl, rfl, L_19, ka_20, f_21, hX_22, hT, (fun _ h9 => Option.some.inj h9 ▸ hk_u_23), by rw [ht]; exact hP9, va_K.moved hW.alike hK9, hD9⟩, hS.F ht⟩) hS.2.2 dJ7_copyOf_59c91_13

set_option maxHeartbeats 4000000 in
set_option maxRecDepth 100000 in
theorem t_X3_findWay (l : Launch) (dC : Nat → ClassId) (dI : Nat → Nat → Nat) (cs : Nat → ClassId) (L : List Nat) (ka : Nat → Nat) (f : Nat → va_E) (h0 : Nat) (p0 : Int32) (p1 : Int32) (sz : Nat) (hT : tO L ka cs f) (hk_h0 : tp L ka 3 h0) : Met l yX3_findWay wsX3_findWay ({ frames := 5, cells := 1, slots := 12, locals := 110 }) (va_Pc [.ref h0, .int p0, .int p1] (cP dC dI ([] ++ va_pl L f) (tyC cs) sz)) (va_Qq (fun (r u9 : Option Nat) => r = u9) (fun (u9 : Option Nat) t9 => ∃ (L2 : List Nat) (ka2 : Nat → Nat) (f2 : Nat → va_E), (tX L ka L2 ka2) ∧ (tO L2 ka2 cs f2) ∧ (tq L2 ka2 11 u9) ∧ cQ dC dI ([] ++ va_pl L2 f2) [] (va_A ([] ++ va_pl L f) sz) t9) (va_A ([] ++ va_pl L f) sz)) 1 12 (va_A ([] ++ va_pl L f) sz) := by
  refine Met.ofW (cc := cX3_findWay) (maxL := 5) (ret := (some (.array .int))) (by decide) rfl ?_
  intro p e s m args below meth c s₁ B hml hv
  obtain ⟨rfl, hsz, hP, hK, hD0, hN⟩ := hv
  have hx := B.exec
  have hb := B.bytes
  have hr := B.returns
  have hts := atoms_spec (ws := wsX3_findWay) B.pre
  have hown : s.vm.findClass RX3 = some m.cls := findClass_of_methodNamed B.named
  have hlocks := B.notSynchronized
  subst hsz
  have hin3 : ∀ w ∈ u_ws RX3 TX3 5, w ∈ wsX3_findWay := by decide +kernel
  have hD := hD0.self (sz := s.heap.size)
  generalize hAe : va_A ([] ++ va_pl L f) s.heap.size = A at hD ⊢
  have hA : ∀ q : Nat, s.heap.size ≤ q → A q := fun q h => by rw [← hAe]; exact Or.inr h
  have hS : va_S A s.heap s.heap [] := va_S.rf
  have hP : va_P (dC, dI) vwCl ([] ++ va_pl L f) s.heap := hP
  have hl := lv_entry ([.ref h0, .int p0, .int p1]) (n := 5) (Nat.le_of_ble_eq_true rfl)
  rw [lg_entry_eq]
  generalize (lg_sl ([.ref h0, .int p0, .int p1]) ++ List.replicate (5 - (lg_sl ([.ref h0, .int p0, .int p1])).length) Slot.unset).toArray = ls at hl ⊢
  have hl : lv_has ls 5 [(0, .ref h0), (1, .int p0), (2, .int p1)] := hl
  refine lv_aload_n hx hb dX3_findWay_0 rfl (lv_at hl 0 rfl) ?_
  refine lv_iload_n hx hb dX3_findWay_1 rfl (lv_at hl 1 rfl) ?_
  refine lv_iload_n hx hb dX3_findWay_2 rfl (lv_at hl 2 rfl) ?_
  have hPc := hP.part (cx := []) [] rfl
  have hDc := hD.part (cx := []) [] (by decide) rfl
  have hKc := hK
  have hFc := va_freeP (cx := []) hD hS hA [] rfl
  obtain ⟨o_2, o_3, o_4, o_5, o_6, hf_1, hk_o_2, hk_o_3, hk_o_4, hk_o_5, hk_o_6⟩ := hT.get hk_h0
  obtain ⟨q_7, hq_7⟩ := pl_at (X := []) (f := f) (e := .inr (3, [.ref o_2, .ref o_3, .ref o_4, .ref o_5, .ref o_6])) hk_h0.1 hf_1
  refine va_calli (va_runV (As := [.int p0, .int p1]) (rest := []) ⟨hx, hb, hml, hown, hts⟩ (t_X3_leastTime l dC dI cs L ka f h0 p0 p1 s.heap.size hT hk_h0) (cwV 2 hts gX3_findWay_X3_leastTime rfl rfl rfl (by decide +kernel) ⟨Nat.le_of_ble_eq_true rfl, Nat.le_of_ble_eq_true rfl⟩) ⟨c_blind, va_recv hKc hPc (ci := 3) (q0 := q_7) rfl hq_7, c_pre hPc hKc hDc hN⟩ rfl rfl hl.1 rfl (lv_room (Nat.le_of_ble_eq_true rfl)) dX3_findWay_3 ⟨Nat.le_of_ble_eq_true rfl, Nat.le_of_ble_eq_true rfl⟩) hS (fun q _ h => hFc q h) hFc (fun r_8 u9 t9 H1 locs ht hvm hw hB hz1 hk1 hS => ?_)
  obtain ⟨f_9, hf_x_10, hP1, hK1, hD1⟩ := hB
  rw [ht] at hP1
  have hK1 := va_K.moved hvm.symm hK1
  obtain ⟨hP, hD⟩ := va_joinP (X := []) (cx := []) (wr := []) (rx := []) (pl := va_pl L f) (pl1 := va_pl L f_9) hP hD [] [] rfl rfl (by decide) (by decide) hk1 hFc hP1 hD1
  have hT := hf_x_10
  generalize H1 = H at hP hS ⊢
  have hP : va_P (dC, dI) vwCl ([] ++ va_pl L f_9) H := hP
  have hD : va_D A ([] ++ va_pl L f_9) := hD
  refine W.widen (k := 0) (n := 0) (Nat.le_of_ble_eq_true rfl) (Nat.le_of_ble_eq_true rfl) ?_
  refine lv_iconst (v := (-1)) hx hb dX3_findWay_6 (by decide) ?_
  refine lv_icmp_ne (tgt := 12) hx hb dX3_findWay_7 (by decide) (fun c_11 => ?_) (fun c_11 => ?_)
  · refine lv_iconst (v := 0) hx hb dX3_findWay_12 (by decide) ?_
    refine lv_istore_n (lv' := [(3, .int 0), (0, .ref h0), (1, .int p0), (2, .int p1)]) hx hb dX3_findWay_13 rfl hl (by decide) rfl (fun ls hl => ?_)
    refine lv_iload_n hx hb dX3_findWay_14 rfl (lv_at hl 2 rfl) ?_
    refine lv_istore (lv' := [(4, .int p0), (3, .int 0), (0, .ref h0), (1, .int p0), (2, .int p1)]) hx hb dX3_findWay_15 hl (by decide) rfl (fun ls hl => ?_)
    have HL : ∀ (n k : Nat) (x4 : Int32), k ≤ 11 → 11 + 1 ≤ k + n → ∀ (f_12 : Nat → va_E) (H : Heap) (locs : List Loc), tO L ka cs f_12 → va_P (dC, dI) vwCl ([] ++ va_pl L f_12) H → va_D A ([] ++ va_pl L f_12) → va_S A s.heap H locs → ∀ ls : Array Slot, lv_has ls 5 [(0, .ref h0), (1, .int p0), (2, .int p1), (3, .int (nI k)), (4, .int x4)] → W p l e (headSpec wsX3_findWay ({ frames := 5, cells := 1, slots := 12, locals := 110 })).room s m ([.ref h0, .int p0, .int p1]).toArray below meth c H locs 0 0 (MQ below (va_Qq (fun (r u9 : Option Nat) => r = u9) (fun (u9 : Option Nat) t9 => ∃ (L2 : List Nat) (ka2 : Nat → Nat) (f2 : Nat → va_E), (tX L ka L2 ka2) ∧ (tO L2 ka2 cs f2) ∧ (tq L2 ka2 11 u9) ∧ cQ dC dI ([] ++ va_pl L2 f2) [] A t9) A) ([.ref h0, .int p0, .int p1]).toArray s 1 12 A) (F0 m 17 ls []) := by
      intro n
      induction n with
      | zero => intro k x4 h1 h2; exact absurd h2 (by omega)
      | succ n ih =>
        intro k x4 hk hn f_12 H locs hT hP hD hS ls hl
        refine lv_iload_n hx hb dX3_findWay_17 rfl (lv_at hl 3 rfl) ?_
        refine lv_bipush (v := 11) hx hb dX3_findWay_18 (by decide) ?_
        refine lv_icmp_ge (tgt := 51) hx hb dX3_findWay_20 (by decide) (fun c_13 => ?_) (fun c_13 => ?_)
        · have hke : k = 11 := by
            rcases Nat.lt_or_ge k 11 with q | q
            · exact absurd c_13 (nI_ge q (by decide))
            · omega
          refine lv_aload_n hx hb dX3_findWay_51 rfl (lv_at hl 0 rfl) ?_
          obtain ⟨o_15, o_16, o_17, o_18, o_19, hf_14, hk_o_15, hk_o_16, hk_o_17, hk_o_18, hk_o_19⟩ := hT.get hk_h0
          obtain ⟨q_20, hq_20⟩ := pl_at (X := []) (f := f_12) (e := .inr (3, [.ref o_15, .ref o_16, .ref o_17, .ref o_18, .ref o_19])) hk_h0.1 hf_14
          refine va_get (D := (dC, dI)) (ci := 3) (v := .ref o_19) (C := RX3) (T := TX3) (N := 5) hx hb hts hin3 hown hK hP q_20 hq_20 rfl 4 (by decide) (hts (.fieldLink RX3 27 "YamRiders$Roads" "row" "[I") (by decide +kernel)) (fun _ h9 => h9) rfl dX3_findWay_52 ?_
          refine lv_iload_n hx hb dX3_findWay_55 rfl (lv_at hl 3 rfl) ?_
          refine lv_iload hx hb dX3_findWay_56 (lv_at hl 4 rfl) ?_
          obtain ⟨g_22, hf_21⟩ := hT.get hk_o_19
          obtain ⟨q_23, hq_23⟩ := pl_at (X := []) (f := f_12) (e := .inl (cs 0, 12, .inl g_22)) hk_o_19.1 hf_21
          refine va_iast hx hb hK hP hD hS q_23 0 hq_23 rfl (vp_in_nI (by omega) (by decide)) dX3_findWay_58 (fun H locs hP9 hD9 hS => ?_)
          have hs_24 := pl_st (.inl (cs 0, 12, .inl (upd g_22 (nI k).toNatClampNeg x4))) hD hk_o_19.1 hf_21 hq_23
          have hP9 : va_P (dC, dI) vwCl ((([] : va_W) ++ va_pl L f_12).set q_23 (o_19, .inl (cs 0, 12, .inl (upd g_22 (nI k).toNatClampNeg x4)))) H := hP9
          have hD9 : va_D A ((([] : va_W) ++ va_pl L f_12).set q_23 (o_19, .inl (cs 0, 12, .inl (upd g_22 (nI k).toNatClampNeg x4)))) := hD9
          rw [hs_24] at hP9 hD9
          have hT := hT.put (e := .inl (cs 0, 12, .inl (upd g_22 (nI k).toNatClampNeg x4))) hk_o_19 ⟨_, rfl⟩
          have hf_25 : va_up f_12 o_19 (.inl (cs 0, 12, .inl (upd g_22 (nI k).toNatClampNeg x4))) o_19 = .inl (cs 0, 12, .inl (upd g_22 (nI k).toNatClampNeg x4)) := va_up_self _ _ _
          have hP := hP9
          have hD := hD9
          clear hP9 hD9 hs_24
          generalize va_up f_12 o_19 (.inl (cs 0, 12, .inl (upd g_22 (nI k).toNatClampNeg x4))) = f_26 at hP hD hT hf_25
          generalize upd g_22 (nI k).toNatClampNeg x4 = g_27 at hf_25
          refine lv_aload_n hx hb dX3_findWay_59 rfl (lv_at hl 0 rfl) ?_
          obtain ⟨o_29, o_30, o_31, o_32, o_33, hf_28, hk_o_29, hk_o_30, hk_o_31, hk_o_32, hk_o_33⟩ := hT.get hk_h0
          obtain ⟨q_34, hq_34⟩ := pl_at (X := []) (f := f_26) (e := .inr (3, [.ref o_29, .ref o_30, .ref o_31, .ref o_32, .ref o_33])) hk_h0.1 hf_28
          refine va_get (D := (dC, dI)) (ci := 3) (v := .ref o_33) (C := RX3) (T := TX3) (N := 5) hx hb hts hin3 hown hK hP q_34 hq_34 rfl 4 (by decide) (hts (.fieldLink RX3 27 "YamRiders$Roads" "row" "[I") (by decide +kernel)) (fun _ h9 => h9) rfl dX3_findWay_60 ?_
          refine lv_iload_n hx hb dX3_findWay_63 rfl (lv_at hl 3 rfl) ?_
          refine lv_iconst (v := 1) hx hb dX3_findWay_64 (by decide) ?_
          refine lv_iadd hx hb dX3_findWay_65 ?_
          refine lv_topi (fun v_35 ev_35 => ?_)
          obtain rfl : v_35 = nI (k + 1) := ev_35.trans (nI_1 k)
          have hPc := hP.part (cx := []) [] rfl
          have hDc := hD.part (cx := []) [] (by decide) rfl
          have hKc := hK
          have hFc := va_freeP (cx := []) hD hS hA [] rfl
          refine va_callq (va_runS (As := [.ref o_33, .int (nI (k + 1))]) (rest := []) ⟨hx, hb, hml, hown, hts⟩ (t_J7_copyOf l dC dI cs L ka f_26 o_33 (k + 1) H.size hT hk_o_33 (by omega)) (va_cwS 2 hts gX3_findWay_J7_copyOf_59c91 rfl rfl rfl (by decide +kernel) ⟨Nat.le_of_ble_eq_true rfl, Nat.le_of_ble_eq_true rfl⟩) ⟨c_blind, c_pre hPc hKc hDc hN⟩ rfl rfl hl.1 rfl (lv_room (Nat.le_of_ble_eq_true rfl)) dX3_findWay_66 ⟨Nat.le_of_ble_eq_true rfl, Nat.le_of_ble_eq_true rfl⟩) hS (fun q _ h => hFc q h) hFc (fun r_36 u9 t9 H1 locs ht hvm hw hB hz1 hk1 hS => ?_)
          try dsimp only at hw
          subst hw
          obtain ⟨L_37, ka_38, f_39, hf_x_40, hf_x_41, hf_x_42, hP1, hK1, hD1⟩ := hB
          rw [ht] at hP1
          have hK1 := va_K.moved hvm.symm hK1
          obtain ⟨hP, hD⟩ := va_joinP (X := []) (cx := []) (wr := []) (rx := []) (pl := va_pl L f_26) (pl1 := va_pl L_37 f_39) hP hD [] [] rfl rfl (by decide) (by decide) hk1 hFc hP1 hD1
          have hT := hf_x_41
          have hl_43 := hf_x_40.tp hk_h0
          have hl_44 := hf_x_40.tp hk_o_2
          have hl_45 := hf_x_40.tp hk_o_3
          have hl_46 := hf_x_40.tp hk_o_4
          have hl_47 := hf_x_40.tp hk_o_5
          have hl_48 := hf_x_40.tp hk_o_6
          have hl_49 := hf_x_40.tp hk_o_15
          have hl_50 := hf_x_40.tp hk_o_16
          have hl_51 := hf_x_40.tp hk_o_17
          have hl_52 := hf_x_40.tp hk_o_18
          have hl_53 := hf_x_40.tp hk_o_19
          have hl_54 := hf_x_40.tp hk_o_29
          have hl_55 := hf_x_40.tp hk_o_30
          have hl_56 := hf_x_40.tp hk_o_31
          have hl_57 := hf_x_40.tp hk_o_32
          have hl_58 := hf_x_40.tp hk_o_33
          generalize H1 = H at hP hS ⊢
          have hP : va_P (dC, dI) vwCl ([] ++ va_pl L_37 f_39) H := hP
          have hD : va_D A ([] ++ va_pl L_37 f_39) := hD
          refine W.widen (k := 1) (n := 12) (Nat.le_of_ble_eq_true rfl) (Nat.le_of_ble_eq_true rfl) ?_
          rcases r_36 with _ | o_59
          · refine W.eq (g2 := F0 m 69 ls [.null]) rfl ?_
            have hP9 := hP.part (cx := []) [] rfl
            have hD9 := hD.part (cx := []) [] (by decide) rfl
            have hK9 := hK.sub (tys' := []) [] rfl
            refine W.widen (k := 1) (n := 12) (Nat.le_of_ble_eq_true rfl) (Nat.le_of_ble_eq_true rfl) ?_
            exact W.aret (v := .null) hx hb hr (by first | exact Or.inl ⟨_, rfl⟩ | exact Or.inr ⟨_, rfl⟩) (Or.inl rfl) (fun t9 ht hW => ⟨⟨none, none, rfl, rfl, L_37, ka_38, f_39, hf_x_40, hT, (fun _ h9 => nomatch h9), by rw [ht]; exact hP9, va_K.moved hW.alike hK9, hD9⟩, hS.F ht⟩) hS.2.2 dX3_findWay_69
          · have hk_o_59 := hf_x_42 _ rfl
            refine W.eq (g2 := F0 m 69 ls [.ref o_59]) rfl ?_
            have hP9 := hP.part (cx := []) [] rfl
            have hD9 := hD.part (cx := []) [] (by decide) rfl
            have hK9 := hK.sub (tys' := []) [] rfl
            refine W.widen (k := 1) (n := 12) (Nat.le_of_ble_eq_true rfl) (Nat.le_of_ble_eq_true rfl) ?_
            exact W.aret (v := .ref o_59) hx hb hr (by first | exact Or.inl ⟨_, rfl⟩ | exact Or.inr ⟨_, rfl⟩) (Or.inr ⟨_, rfl⟩) (fun t9 ht hW => ⟨⟨(some o_59), (some o_59), rfl, rfl, L_37, ka_38, f_39, hf_x_40, hT, (fun _ h9 => Option.some.inj h9 ▸ hk_o_59), by rw [ht]; exact hP9, va_K.moved hW.alike hK9, hD9⟩, hS.F ht⟩) hS.2.2 dX3_findWay_69
        · have hlt : k < 11 := by
            rcases Nat.lt_or_ge k 11 with q | q
            · exact q
            · exact absurd (show nI 11 ≤ nI k from nI_le q (by omega)) c_13
          refine lv_iload hx hb dX3_findWay_23 (lv_at hl 4 rfl) ?_
          refine lv_iload_n hx hb dX3_findWay_25 rfl (lv_at hl 2 rfl) ?_
          refine lv_icmp_eq (tgt := 51) hx hb dX3_findWay_26 (by decide) (fun c_60 => ?_) (fun c_60 => ?_)
          · refine lv_aload_n hx hb dX3_findWay_51 rfl (lv_at hl 0 rfl) ?_
            obtain ⟨o_62, o_63, o_64, o_65, o_66, hf_61, hk_o_62, hk_o_63, hk_o_64, hk_o_65, hk_o_66⟩ := hT.get hk_h0
            obtain ⟨q_67, hq_67⟩ := pl_at (X := []) (f := f_12) (e := .inr (3, [.ref o_62, .ref o_63, .ref o_64, .ref o_65, .ref o_66])) hk_h0.1 hf_61
            refine va_get (D := (dC, dI)) (ci := 3) (v := .ref o_66) (C := RX3) (T := TX3) (N := 5) hx hb hts hin3 hown hK hP q_67 hq_67 rfl 4 (by decide) (hts (.fieldLink RX3 27 "YamRiders$Roads" "row" "[I") (by decide +kernel)) (fun _ h9 => h9) rfl dX3_findWay_52 ?_
            refine lv_iload_n hx hb dX3_findWay_55 rfl (lv_at hl 3 rfl) ?_
            refine lv_iload hx hb dX3_findWay_56 (lv_at hl 4 rfl) ?_
            obtain ⟨g_69, hf_68⟩ := hT.get hk_o_66
            obtain ⟨q_70, hq_70⟩ := pl_at (X := []) (f := f_12) (e := .inl (cs 0, 12, .inl g_69)) hk_o_66.1 hf_68
            refine va_iast hx hb hK hP hD hS q_70 0 hq_70 rfl (vp_in_nI (by omega) (by decide)) dX3_findWay_58 (fun H locs hP9 hD9 hS => ?_)
            have hs_71 := pl_st (.inl (cs 0, 12, .inl (upd g_69 (nI k).toNatClampNeg x4))) hD hk_o_66.1 hf_68 hq_70
            have hP9 : va_P (dC, dI) vwCl ((([] : va_W) ++ va_pl L f_12).set q_70 (o_66, .inl (cs 0, 12, .inl (upd g_69 (nI k).toNatClampNeg x4)))) H := hP9
            have hD9 : va_D A ((([] : va_W) ++ va_pl L f_12).set q_70 (o_66, .inl (cs 0, 12, .inl (upd g_69 (nI k).toNatClampNeg x4)))) := hD9
            rw [hs_71] at hP9 hD9
            have hT := hT.put (e := .inl (cs 0, 12, .inl (upd g_69 (nI k).toNatClampNeg x4))) hk_o_66 ⟨_, rfl⟩
            have hf_72 : va_up f_12 o_66 (.inl (cs 0, 12, .inl (upd g_69 (nI k).toNatClampNeg x4))) o_66 = .inl (cs 0, 12, .inl (upd g_69 (nI k).toNatClampNeg x4)) := va_up_self _ _ _
            have hP := hP9
            have hD := hD9
            clear hP9 hD9 hs_71
            generalize va_up f_12 o_66 (.inl (cs 0, 12, .inl (upd g_69 (nI k).toNatClampNeg x4))) = f_73 at hP hD hT hf_72
            generalize upd g_69 (nI k).toNatClampNeg x4 = g_74 at hf_72
            refine lv_aload_n hx hb dX3_findWay_59 rfl (lv_at hl 0 rfl) ?_
            obtain ⟨o_76, o_77, o_78, o_79, o_80, hf_75, hk_o_76, hk_o_77, hk_o_78, hk_o_79, hk_o_80⟩ := hT.get hk_h0
            obtain ⟨q_81, hq_81⟩ := pl_at (X := []) (f := f_73) (e := .inr (3, [.ref o_76, .ref o_77, .ref o_78, .ref o_79, .ref o_80])) hk_h0.1 hf_75
            refine va_get (D := (dC, dI)) (ci := 3) (v := .ref o_80) (C := RX3) (T := TX3) (N := 5) hx hb hts hin3 hown hK hP q_81 hq_81 rfl 4 (by decide) (hts (.fieldLink RX3 27 "YamRiders$Roads" "row" "[I") (by decide +kernel)) (fun _ h9 => h9) rfl dX3_findWay_60 ?_
            refine lv_iload_n hx hb dX3_findWay_63 rfl (lv_at hl 3 rfl) ?_
            refine lv_iconst (v := 1) hx hb dX3_findWay_64 (by decide) ?_
            refine lv_iadd hx hb dX3_findWay_65 ?_
            refine lv_topi (fun v_82 ev_82 => ?_)
            obtain rfl : v_82 = nI (k + 1) := ev_82.trans (nI_1 k)
            have hPc := hP.part (cx := []) [] rfl
            have hDc := hD.part (cx := []) [] (by decide) rfl
            have hKc := hK
            have hFc := va_freeP (cx := []) hD hS hA [] rfl
            refine va_callq (va_runS (As := [.ref o_80, .int (nI (k + 1))]) (rest := []) ⟨hx, hb, hml, hown, hts⟩ (t_J7_copyOf l dC dI cs L ka f_73 o_80 (k + 1) H.size hT hk_o_80 (by omega)) (va_cwS 2 hts gX3_findWay_J7_copyOf_59c91 rfl rfl rfl (by decide +kernel) ⟨Nat.le_of_ble_eq_true rfl, Nat.le_of_ble_eq_true rfl⟩) ⟨c_blind, c_pre hPc hKc hDc hN⟩ rfl rfl hl.1 rfl (lv_room (Nat.le_of_ble_eq_true rfl)) dX3_findWay_66 ⟨Nat.le_of_ble_eq_true rfl, Nat.le_of_ble_eq_true rfl⟩) hS (fun q _ h => hFc q h) hFc (fun r_83 u9 t9 H1 locs ht hvm hw hB hz1 hk1 hS => ?_)
            try dsimp only at hw
            subst hw
            obtain ⟨L_84, ka_85, f_86, hf_x_87, hf_x_88, hf_x_89, hP1, hK1, hD1⟩ := hB
            rw [ht] at hP1
            have hK1 := va_K.moved hvm.symm hK1
            obtain ⟨hP, hD⟩ := va_joinP (X := []) (cx := []) (wr := []) (rx := []) (pl := va_pl L f_73) (pl1 := va_pl L_84 f_86) hP hD [] [] rfl rfl (by decide) (by decide) hk1 hFc hP1 hD1
            have hT := hf_x_88
            have hl_90 := hf_x_87.tp hk_h0
            have hl_91 := hf_x_87.tp hk_o_2
            have hl_92 := hf_x_87.tp hk_o_3
            have hl_93 := hf_x_87.tp hk_o_4
            have hl_94 := hf_x_87.tp hk_o_5
            have hl_95 := hf_x_87.tp hk_o_6
            have hl_96 := hf_x_87.tp hk_o_62
            have hl_97 := hf_x_87.tp hk_o_63
            have hl_98 := hf_x_87.tp hk_o_64
            have hl_99 := hf_x_87.tp hk_o_65
            have hl_100 := hf_x_87.tp hk_o_66
            have hl_101 := hf_x_87.tp hk_o_76
            have hl_102 := hf_x_87.tp hk_o_77
            have hl_103 := hf_x_87.tp hk_o_78
            have hl_104 := hf_x_87.tp hk_o_79
            have hl_105 := hf_x_87.tp hk_o_80
            generalize H1 = H at hP hS ⊢
            have hP : va_P (dC, dI) vwCl ([] ++ va_pl L_84 f_86) H := hP
            have hD : va_D A ([] ++ va_pl L_84 f_86) := hD
            refine W.widen (k := 1) (n := 12) (Nat.le_of_ble_eq_true rfl) (Nat.le_of_ble_eq_true rfl) ?_
            rcases r_83 with _ | o_106
            · refine W.eq (g2 := F0 m 69 ls [.null]) rfl ?_
              have hP9 := hP.part (cx := []) [] rfl
              have hD9 := hD.part (cx := []) [] (by decide) rfl
              have hK9 := hK.sub (tys' := []) [] rfl
              refine W.widen (k := 1) (n := 12) (Nat.le_of_ble_eq_true rfl) (Nat.le_of_ble_eq_true rfl) ?_
              exact W.aret (v := .null) hx hb hr (by first | exact Or.inl ⟨_, rfl⟩ | exact Or.inr ⟨_, rfl⟩) (Or.inl rfl) (fun t9 ht hW => ⟨⟨none, none, rfl, rfl, L_84, ka_85, f_86, hf_x_87, hT, (fun _ h9 => nomatch h9), by rw [ht]; exact hP9, va_K.moved hW.alike hK9, hD9⟩, hS.F ht⟩) hS.2.2 dX3_findWay_69
            · have hk_o_106 := hf_x_89 _ rfl
              refine W.eq (g2 := F0 m 69 ls [.ref o_106]) rfl ?_
              have hP9 := hP.part (cx := []) [] rfl
              have hD9 := hD.part (cx := []) [] (by decide) rfl
              have hK9 := hK.sub (tys' := []) [] rfl
              refine W.widen (k := 1) (n := 12) (Nat.le_of_ble_eq_true rfl) (Nat.le_of_ble_eq_true rfl) ?_
              exact W.aret (v := .ref o_106) hx hb hr (by first | exact Or.inl ⟨_, rfl⟩ | exact Or.inr ⟨_, rfl⟩) (Or.inr ⟨_, rfl⟩) (fun t9 ht hW => ⟨⟨(some o_106), (some o_106), rfl, rfl, L_84, ka_85, f_86, hf_x_87, hT, (fun _ h9 => Option.some.inj h9 ▸ hk_o_106), by rw [ht]; exact hP9, va_K.moved hW.alike hK9, hD9⟩, hS.F ht⟩) hS.2.2 dX3_findWay_69
          · refine lv_aload_n hx hb dX3_findWay_29 rfl (lv_at hl 0 rfl) ?_
            obtain ⟨o_108, o_109, o_110, o_111, o_112, hf_107, hk_o_108, hk_o_109, hk_o_110, hk_o_111, hk_o_112⟩ := hT.get hk_h0
            obtain ⟨q_113, hq_113⟩ := pl_at (X := []) (f := f_12) (e := .inr (3, [.ref o_108, .ref o_109, .ref o_110, .ref o_111, .ref o_112])) hk_h0.1 hf_107
            refine va_get (D := (dC, dI)) (ci := 3) (v := .ref o_112) (C := RX3) (T := TX3) (N := 5) hx hb hts hin3 hown hK hP q_113 hq_113 rfl 4 (by decide) (hts (.fieldLink RX3 27 "YamRiders$Roads" "row" "[I") (by decide +kernel)) (fun _ h9 => h9) rfl dX3_findWay_30 ?_
            refine lv_iload_n hx hb dX3_findWay_33 rfl (lv_at hl 3 rfl) ?_
            refine lv_iload hx hb dX3_findWay_34 (lv_at hl 4 rfl) ?_
            obtain ⟨g_115, hf_114⟩ := hT.get hk_o_112
            obtain ⟨q_116, hq_116⟩ := pl_at (X := []) (f := f_12) (e := .inl (cs 0, 12, .inl g_115)) hk_o_112.1 hf_114
            refine va_iast hx hb hK hP hD hS q_116 0 hq_116 rfl (vp_in_nI (by omega) (by decide)) dX3_findWay_36 (fun H locs hP9 hD9 hS => ?_)
            have hs_117 := pl_st (.inl (cs 0, 12, .inl (upd g_115 (nI k).toNatClampNeg x4))) hD hk_o_112.1 hf_114 hq_116
            have hP9 : va_P (dC, dI) vwCl ((([] : va_W) ++ va_pl L f_12).set q_116 (o_112, .inl (cs 0, 12, .inl (upd g_115 (nI k).toNatClampNeg x4)))) H := hP9
            have hD9 : va_D A ((([] : va_W) ++ va_pl L f_12).set q_116 (o_112, .inl (cs 0, 12, .inl (upd g_115 (nI k).toNatClampNeg x4)))) := hD9
            rw [hs_117] at hP9 hD9
            have hT := hT.put (e := .inl (cs 0, 12, .inl (upd g_115 (nI k).toNatClampNeg x4))) hk_o_112 ⟨_, rfl⟩
            have hf_118 : va_up f_12 o_112 (.inl (cs 0, 12, .inl (upd g_115 (nI k).toNatClampNeg x4))) o_112 = .inl (cs 0, 12, .inl (upd g_115 (nI k).toNatClampNeg x4)) := va_up_self _ _ _
            have hP := hP9
            have hD := hD9
            clear hP9 hD9 hs_117
            generalize va_up f_12 o_112 (.inl (cs 0, 12, .inl (upd g_115 (nI k).toNatClampNeg x4))) = f_119 at hP hD hT hf_118
            generalize upd g_115 (nI k).toNatClampNeg x4 = g_120 at hf_118
            refine lv_iinc (v := nI (k + 1)) (lv' := [(3, .int (nI (k + 1))), (0, .ref h0), (1, .int p0), (2, .int p1), (4, .int x4)]) hx hb dX3_findWay_37 hl (k := 3) rfl (by exact (nI_1 k)) (by decide) rfl (fun ls hl => ?_)
            refine lv_aload_n hx hb dX3_findWay_40 rfl (lv_at hl 1 rfl) ?_
            refine lv_iload hx hb dX3_findWay_41 (lv_at hl 4 rfl) ?_
            have hPc := hP.part (cx := []) [] rfl
            have hDc := hD.part (cx := []) [] (by decide) rfl
            have hKc := hK
            obtain ⟨o_122, o_123, o_124, o_125, o_126, hf_121, hk_o_122, hk_o_123, hk_o_124, hk_o_125, hk_o_126⟩ := hT.get hk_h0
            obtain ⟨q_127, hq_127⟩ := pl_at (X := []) (f := f_119) (e := .inr (3, [.ref o_122, .ref o_123, .ref o_124, .ref o_125, .ref o_126])) hk_h0.1 hf_121
            refine cs_i (va_runV (As := [.int x4]) (rest := []) ⟨hx, hb, hml, hown, hts⟩ (t_X3_stepFrom l dC dI cs L ka f_119 h0 x4 H.size hT hk_h0) (cwV 1 hts gX3_findWay_X3_stepFrom rfl rfl rfl (by decide +kernel) ⟨Nat.le_of_ble_eq_true rfl, Nat.le_of_ble_eq_true rfl⟩) ⟨c_blind, va_recv hKc hPc (ci := 3) (q0 := q_127) rfl hq_127, c_pre hPc hKc hDc hN⟩ rfl rfl hl.1 rfl (lv_room (Nat.le_of_ble_eq_true rfl)) dX3_findWay_43 ⟨Nat.le_of_ble_eq_true rfl, Nat.le_of_ble_eq_true rfl⟩) (fun r_128 hr_128 => ?_)
            refine lv_istore (lv' := [(4, .int r_128), (3, .int (nI (k + 1))), (0, .ref h0), (1, .int p0), (2, .int p1)]) hx hb dX3_findWay_46 hl (by decide) rfl (fun ls hl => ?_)
            refine lv_goto (tgt := 17) hx hb dX3_findWay_48 (by decide) ?_
            exact ih (k + 1) r_128 (by omega) (by omega) _ _ _ hT (hP.part (cx := _) [] rfl) (hD.part (cx := _) [] (by decide) rfl) hS ls (lv_sub hl [2, 3, 4, 1, 0] rfl)
    exact HL 12 0 p0 (by omega) (by omega) _ _ _ hT (hP.part (cx := _) [] rfl) (hD.part (cx := _) [] (by decide) rfl) hS ls (lv_sub hl [2, 3, 4, 1, 0] rfl)
  · refine lv_null hx hb dX3_findWay_10 ?_
    have hP9 := hP.part (cx := []) [] rfl
    have hD9 := hD.part (cx := []) [] (by decide) rfl
    have hK9 := hK.sub (tys' := []) [] rfl
    refine W.widen (k := 1) (n := 12) (Nat.le_of_ble_eq_true rfl) (Nat.le_of_ble_eq_true rfl) ?_
    exact W.aret (v := .null) hx hb hr (by first | exact Or.inl ⟨_, rfl⟩ | exact Or.inr ⟨_, rfl⟩) (Or.inl rfl) (fun t9 ht hW => ⟨⟨none, none, rfl, rfl, L, ka, f_9, tX.rf, hT, (fun _ h9 => nomatch h9), by rw [ht]; exact hP9, va_K.moved hW.alike hK9, hD9⟩, hS.F ht⟩) hS.2.2 dX3_findWay_11

set_option maxHeartbeats 4000000 in
set_option maxRecDepth 100000 in
theorem t_X8_ride (l : Launch) (dC : Nat → ClassId) (dI : Nat → Nat → Nat) (cs : Nat → ClassId) (L : List Nat) (ka : Nat → Nat) (f : Nat → va_E) (h0 : Nat) (a1 : Nat) (a2 : Nat) (a3 : Nat) (a4 : Nat) (a5 : Nat) (a6 : Nat) (a7 : Nat) (a8 : Nat) (a9 : Nat) (j_faultKind : Int32) (j_horseCount : Int32) (j_tabletCount : Int32) (j_lineLength : Int32) (j_hour : Int32) (p0 : Int32) (p1 : Int32) (p2 : Int32) (rc9 : Nat) (sz : Nat) (hT : tO L ka cs f) (hY : yK L ka a2 a3 a4 a5 a6 a7 a8 a9) (hrc : rc9 ≤ 60) : Met l yX8_ride wsX8_ride ({ frames := 6, cells := 3, slots := 34, locals := 134 }) (va_Pc [.ref h0, .int p0, .int p1, .int p2] (cP dC dI ([(h0, .inr (8, [.ref a1, .ref a2, .ref a3, .ref a4, .ref a5, .ref a6, .ref a7, .ref a8, .ref a9, .int j_faultKind, .int j_horseCount, .int j_tabletCount, .int (nI rc9), .int j_lineLength, .int j_hour]))] ++ va_pl L f) (tyC cs) sz)) (va_Qi (fun (r : Int32) (_ : Unit) => True) (fun (_ : Unit) t9 => ∃ (L2 : List Nat) (ka2 : Nat → Nat) (f2 : Nat → va_E) (rc2 : Nat), (tX L ka L2 ka2) ∧ (tO L2 ka2 cs f2) ∧ (rc2 ≤ 60) ∧ cQ dC dI ([(h0, .inr (8, [.ref a1, .ref a2, .ref a3, .ref a4, .ref a5, .ref a6, .ref a7, .ref a8, .ref a9, .int j_faultKind, .int j_horseCount, .int j_tabletCount, .int (nI rc2), .int j_lineLength, .int j_hour]))] ++ va_pl L2 f2) [] (va_A ([(h0, .inr (8, [.ref a1, .ref a2, .ref a3, .ref a4, .ref a5, .ref a6, .ref a7, .ref a8, .ref a9, .int j_faultKind, .int j_horseCount, .int j_tabletCount, .int (nI rc9), .int j_lineLength, .int j_hour]))] ++ va_pl L f) sz) t9) (va_A ([(h0, .inr (8, [.ref a1, .ref a2, .ref a3, .ref a4, .ref a5, .ref a6, .ref a7, .ref a8, .ref a9, .int j_faultKind, .int j_horseCount, .int j_tabletCount, .int (nI rc9), .int j_lineLength, .int j_hour]))] ++ va_pl L f) sz)) 3 34 (va_A ([(h0, .inr (8, [.ref a1, .ref a2, .ref a3, .ref a4, .ref a5, .ref a6, .ref a7, .ref a8, .ref a9, .int j_faultKind, .int j_horseCount, .int j_tabletCount, .int (nI rc9), .int j_lineLength, .int j_hour]))] ++ va_pl L f) sz) := by
  refine Met.ofW (cc := cX8_ride) (maxL := 7) (ret := (some .int)) (by decide) rfl ?_
  intro p e s m args below meth c s₁ B hml hv
  obtain ⟨rfl, hsz, hP, hK, hD0, hN⟩ := hv
  have hx := B.exec
  have hb := B.bytes
  have hr := B.returns
  have hts := atoms_spec (ws := wsX8_ride) B.pre
  have hown : s.vm.findClass RX8 = some m.cls := findClass_of_methodNamed B.named
  have hlocks := B.notSynchronized
  subst hsz
  have hin2 : ∀ w ∈ u_ws RX2 TX2 10, w ∈ wsX8_ride := by decide +kernel
  have hin6 : ∀ w ∈ u_ws RX6 TX6 2, w ∈ wsX8_ride := by decide +kernel
  have hin8 : ∀ w ∈ u_ws RX8 TX8 15, w ∈ wsX8_ride := by decide +kernel
  have hD := hD0.self (sz := s.heap.size)
  generalize hAe : va_A ([(h0, .inr (8, [.ref a1, .ref a2, .ref a3, .ref a4, .ref a5, .ref a6, .ref a7, .ref a8, .ref a9, .int j_faultKind, .int j_horseCount, .int j_tabletCount, .int (nI rc9), .int j_lineLength, .int j_hour]))] ++ va_pl L f) s.heap.size = A at hD ⊢
  have hA : ∀ q : Nat, s.heap.size ≤ q → A q := fun q h => by rw [← hAe]; exact Or.inr h
  have hS : va_S A s.heap s.heap [] := va_S.rf
  have hP : va_P (dC, dI) vwCl ([(h0, .inr (8, [.ref a1, .ref a2, .ref a3, .ref a4, .ref a5, .ref a6, .ref a7, .ref a8, .ref a9, .int j_faultKind, .int j_horseCount, .int j_tabletCount, .int (nI rc9), .int j_lineLength, .int j_hour]))] ++ va_pl L f) s.heap := hP
  have hl := lv_entry ([.ref h0, .int p0, .int p1, .int p2]) (n := 7) (Nat.le_of_ble_eq_true rfl)
  rw [lg_entry_eq]
  generalize (lg_sl ([.ref h0, .int p0, .int p1, .int p2]) ++ List.replicate (7 - (lg_sl ([.ref h0, .int p0, .int p1, .int p2])).length) Slot.unset).toArray = ls at hl ⊢
  have hl : lv_has ls 7 [(0, .ref h0), (1, .int p0), (2, .int p1), (3, .int p2)] := hl
  refine lv_aload_n hx hb dX8_ride_0 rfl (lv_at hl 0 rfl) ?_
  refine lv_iload_n hx hb dX8_ride_1 rfl (lv_at hl 1 rfl) ?_
  have hPc := hP.part (cx := [(h0, .inr (8, [.ref a1, .ref a2, .ref a3, .ref a4, .ref a5, .ref a6, .ref a7, .ref a8, .ref a9, .int j_faultKind, .int j_horseCount, .int j_tabletCount, .int (nI rc9), .int j_lineLength, .int j_hour]))]) [0] rfl
  have hDc := hD.part (cx := [(h0, .inr (8, [.ref a1, .ref a2, .ref a3, .ref a4, .ref a5, .ref a6, .ref a7, .ref a8, .ref a9, .int j_faultKind, .int j_horseCount, .int j_tabletCount, .int (nI rc9), .int j_lineLength, .int j_hour]))]) [0] (by decide) rfl
  have hKc := hK
  refine cs_q (va_runV (As := [.int p0]) (rest := []) ⟨hx, hb, hml, hown, hts⟩ (t_X8_tabletOf l dC dI cs L ka f h0 a1 a2 a3 a4 a5 a6 a7 a8 a9 j_faultKind j_horseCount j_tabletCount (nI rc9) j_lineLength j_hour p0 s.heap.size hT hY) (cwV 1 hts gX8_ride_X8_tabletOf rfl rfl rfl (by decide +kernel) ⟨Nat.le_of_ble_eq_true rfl, Nat.le_of_ble_eq_true rfl⟩) ⟨c_blind, va_recv hKc hPc (ci := 8) (q0 := 0) rfl rfl, c_pre hPc hKc hDc hN⟩ rfl rfl hl.1 rfl (lv_room (Nat.le_of_ble_eq_true rfl)) dX8_ride_2 ⟨Nat.le_of_ble_eq_true rfl, Nat.le_of_ble_eq_true rfl⟩) (fun o_1 ho_1 => ?_)
  rcases o_1 with _ | o_2
  · refine W.eq (g2 := F0 m 5 ls [.null]) rfl ?_
    refine lv_astoreN (lv' := [(4, .null), (0, .ref h0), (1, .int p0), (2, .int p1), (3, .int p2)]) hx hb dX8_ride_5 hl (by decide) rfl (fun ls hl => ?_)
    refine lv_aload_n hx hb dX8_ride_7 rfl (lv_at hl 1 rfl) ?_
    refine va_get (D := (dC, dI)) (ci := 8) (v := .int (nI rc9)) (C := RX8) (T := TX8) (N := 15) hx hb hts hin8 hown hK hP 0 rfl rfl 12 (by decide) (hts (.fieldLink RX8 124 "YamRiders" "riderCount" "I") (by decide +kernel)) (fun _ h9 => h9) rfl dX8_ride_8 ?_
    refine lv_bipush (v := 60) hx hb dX8_ride_11 (by decide) ?_
    refine lv_icmp_ge (tgt := 29) hx hb dX8_ride_13 (by decide) (fun c_3 => ?_) (fun c_3 => ?_)
    · refine lv_iconst (v := (-1)) hx hb dX8_ride_29 (by decide) ?_
      have hP9 := hP.part (cx := [(h0, .inr (8, [.ref a1, .ref a2, .ref a3, .ref a4, .ref a5, .ref a6, .ref a7, .ref a8, .ref a9, .int j_faultKind, .int j_horseCount, .int j_tabletCount, .int (nI rc9), .int j_lineLength, .int j_hour]))]) [0] rfl
      have hD9 := hD.part (cx := [(h0, .inr (8, [.ref a1, .ref a2, .ref a3, .ref a4, .ref a5, .ref a6, .ref a7, .ref a8, .ref a9, .int j_faultKind, .int j_horseCount, .int j_tabletCount, .int (nI rc9), .int j_lineLength, .int j_hour]))]) [0] (by decide) rfl
      have hK9 := hK.sub (tys' := []) [] rfl
      refine W.widen (k := 3) (n := 34) (Nat.le_of_ble_eq_true rfl) (Nat.le_of_ble_eq_true rfl) ?_
      exact W.iret (v := (-1)) hx hb hr (fun t9 ht hW => ⟨⟨_, (), rfl, trivial, L, ka, f, rc9, tX.rf, hT, (by omega), by rw [ht]; exact hP9, va_K.moved hW.alike hK9, hD9⟩, hS.F ht⟩) hS.2.2 dX8_ride_30
    · have rc60 : rc9 < 60 := nI_nleq (n := 60) c_3 (by omega)
      refine lv_aloadN hx hb dX8_ride_16 (lv_at hl 0 rfl) ?_
      refine lv_ifnullN (tgt := 29) hx hb dX8_ride_18 (by decide) ?_
      refine lv_iconst (v := (-1)) hx hb dX8_ride_29 (by decide) ?_
      have hP9 := hP.part (cx := [(h0, .inr (8, [.ref a1, .ref a2, .ref a3, .ref a4, .ref a5, .ref a6, .ref a7, .ref a8, .ref a9, .int j_faultKind, .int j_horseCount, .int j_tabletCount, .int (nI rc9), .int j_lineLength, .int j_hour]))]) [0] rfl
      have hD9 := hD.part (cx := [(h0, .inr (8, [.ref a1, .ref a2, .ref a3, .ref a4, .ref a5, .ref a6, .ref a7, .ref a8, .ref a9, .int j_faultKind, .int j_horseCount, .int j_tabletCount, .int (nI rc9), .int j_lineLength, .int j_hour]))]) [0] (by decide) rfl
      have hK9 := hK.sub (tys' := []) [] rfl
      refine W.widen (k := 3) (n := 34) (Nat.le_of_ble_eq_true rfl) (Nat.le_of_ble_eq_true rfl) ?_
      exact W.iret (v := (-1)) hx hb hr (fun t9 ht hW => ⟨⟨_, (), rfl, trivial, L, ka, f, rc9, tX.rf, hT, (by omega), by rw [ht]; exact hP9, va_K.moved hW.alike hK9, hD9⟩, hS.F ht⟩) hS.2.2 dX8_ride_30
  · have hk_o_2 := ho_1 _ rfl
    refine W.eq (g2 := F0 m 5 ls [.ref o_2]) rfl ?_
    refine lv_astore (lv' := [(4, .ref o_2), (0, .ref h0), (1, .int p0), (2, .int p1), (3, .int p2)]) hx hb dX8_ride_5 hl (by decide) rfl (fun ls hl => ?_)
    refine lv_aload_n hx hb dX8_ride_7 rfl (lv_at hl 1 rfl) ?_
    refine va_get (D := (dC, dI)) (ci := 8) (v := .int (nI rc9)) (C := RX8) (T := TX8) (N := 15) hx hb hts hin8 hown hK hP 0 rfl rfl 12 (by decide) (hts (.fieldLink RX8 124 "YamRiders" "riderCount" "I") (by decide +kernel)) (fun _ h9 => h9) rfl dX8_ride_8 ?_
    refine lv_bipush (v := 60) hx hb dX8_ride_11 (by decide) ?_
    refine lv_icmp_ge (tgt := 29) hx hb dX8_ride_13 (by decide) (fun c_4 => ?_) (fun c_4 => ?_)
    · refine lv_iconst (v := (-1)) hx hb dX8_ride_29 (by decide) ?_
      have hP9 := hP.part (cx := [(h0, .inr (8, [.ref a1, .ref a2, .ref a3, .ref a4, .ref a5, .ref a6, .ref a7, .ref a8, .ref a9, .int j_faultKind, .int j_horseCount, .int j_tabletCount, .int (nI rc9), .int j_lineLength, .int j_hour]))]) [0] rfl
      have hD9 := hD.part (cx := [(h0, .inr (8, [.ref a1, .ref a2, .ref a3, .ref a4, .ref a5, .ref a6, .ref a7, .ref a8, .ref a9, .int j_faultKind, .int j_horseCount, .int j_tabletCount, .int (nI rc9), .int j_lineLength, .int j_hour]))]) [0] (by decide) rfl
      have hK9 := hK.sub (tys' := []) [] rfl
      refine W.widen (k := 3) (n := 34) (Nat.le_of_ble_eq_true rfl) (Nat.le_of_ble_eq_true rfl) ?_
      exact W.iret (v := (-1)) hx hb hr (fun t9 ht hW => ⟨⟨_, (), rfl, trivial, L, ka, f, rc9, tX.rf, hT, (by omega), by rw [ht]; exact hP9, va_K.moved hW.alike hK9, hD9⟩, hS.F ht⟩) hS.2.2 dX8_ride_30
    · have rc60 : rc9 < 60 := nI_nleq (n := 60) c_4 (by omega)
      refine lv_aload hx hb dX8_ride_16 (lv_at hl 0 rfl) ?_
      refine lv_ifnull hx hb dX8_ride_18 ?_
      refine lv_aload_n hx hb dX8_ride_21 rfl (lv_at hl 1 rfl) ?_
      refine lv_iload_n hx hb dX8_ride_22 rfl (lv_at hl 2 rfl) ?_
      have hPc := hP.part (cx := [(h0, .inr (8, [.ref a1, .ref a2, .ref a3, .ref a4, .ref a5, .ref a6, .ref a7, .ref a8, .ref a9, .int j_faultKind, .int j_horseCount, .int j_tabletCount, .int (nI rc9), .int j_lineLength, .int j_hour]))]) [0] rfl
      have hDc := hD.part (cx := [(h0, .inr (8, [.ref a1, .ref a2, .ref a3, .ref a4, .ref a5, .ref a6, .ref a7, .ref a8, .ref a9, .int j_faultKind, .int j_horseCount, .int j_tabletCount, .int (nI rc9), .int j_lineLength, .int j_hour]))]) [0] (by decide) rfl
      have hKc := hK
      refine cs_i (va_runV (As := [.int p0]) (rest := []) ⟨hx, hb, hml, hown, hts⟩ (t_X8_isHad l dC dI cs L ka f h0 a1 a2 a3 a4 a5 a6 a7 a8 a9 j_faultKind j_horseCount j_tabletCount (nI rc9) j_lineLength j_hour p0 s.heap.size hT hY) (cwV 1 hts gX8_ride_X8_isHad rfl rfl rfl (by decide +kernel) ⟨Nat.le_of_ble_eq_true rfl, Nat.le_of_ble_eq_true rfl⟩) ⟨c_blind, va_recv hKc hPc (ci := 8) (q0 := 0) rfl rfl, c_pre hPc hKc hDc hN⟩ rfl rfl hl.1 rfl (lv_room (Nat.le_of_ble_eq_true rfl)) dX8_ride_23 ⟨Nat.le_of_ble_eq_true rfl, Nat.le_of_ble_eq_true rfl⟩) (fun r_5 hr_5 => ?_)
      refine lv_if_eq (tgt := 31) hx hb dX8_ride_26 (by decide) (fun c_6 => ?_) (fun c_6 => ?_)
      · refine lv_aload_n hx hb dX8_ride_31 rfl (lv_at hl 1 rfl) ?_
        refine va_get (D := (dC, dI)) (ci := 8) (v := .ref a2) (C := RX8) (T := TX8) (N := 15) hx hb hts hin8 hown hK hP 0 rfl rfl 1 (by decide) (hts (.fieldLink RX8 19 "YamRiders" "roads" "LYamRiders$Roads;") (by decide +kernel)) (fun _ h9 => h9) rfl dX8_ride_32 ?_
        refine lv_iload_n hx hb dX8_ride_35 rfl (lv_at hl 3 rfl) ?_
        refine lv_iload_n hx hb dX8_ride_36 rfl (lv_at hl 4 rfl) ?_
        have hPc := hP.part (cx := []) [] rfl
        have hDc := hD.part (cx := []) [] (by decide) rfl
        have hKc := hK
        have hFc := va_freeP (cx := []) hD hS hA [] rfl
        obtain ⟨o_8, o_9, o_10, o_11, o_12, hf_7, hk_o_8, hk_o_9, hk_o_10, hk_o_11, hk_o_12⟩ := hT.get hY.1
        obtain ⟨q_13, hq_13⟩ := pl_at (X := []) (f := f) (e := .inr (3, [.ref o_8, .ref o_9, .ref o_10, .ref o_11, .ref o_12])) hY.1.1 hf_7
        refine va_callq (va_runV (As := [.int p1, .int p2]) (rest := []) ⟨hx, hb, hml, hown, hts⟩ (t_X3_findWay l dC dI cs L ka f a2 p1 p2 s.heap.size hT hY.1) (cwV 2 hts gX8_ride_X3_findWay rfl rfl rfl (by decide +kernel) ⟨Nat.le_of_ble_eq_true rfl, Nat.le_of_ble_eq_true rfl⟩) ⟨c_blind, va_recv hKc hPc (ci := 3) (q0 := q_13) rfl hq_13, c_pre hPc hKc hDc hN⟩ rfl rfl hl.1 rfl (lv_room (Nat.le_of_ble_eq_true rfl)) dX8_ride_37 ⟨Nat.le_of_ble_eq_true rfl, Nat.le_of_ble_eq_true rfl⟩) hS (fun q _ h => hFc q h) hFc (fun r_14 u9 t9 H1 locs ht hvm hw hB hz1 hk1 hS => ?_)
        try dsimp only at hw
        subst hw
        obtain ⟨L_15, ka_16, f_17, hf_x_18, hf_x_19, hf_x_20, hP1, hK1, hD1⟩ := hB
        rw [ht] at hP1
        have hK1 := va_K.moved hvm.symm hK1
        obtain ⟨hP, hD⟩ := va_joinP (X := [(h0, .inr (8, [.ref a1, .ref a2, .ref a3, .ref a4, .ref a5, .ref a6, .ref a7, .ref a8, .ref a9, .int j_faultKind, .int j_horseCount, .int j_tabletCount, .int (nI rc9), .int j_lineLength, .int j_hour]))]) (cx := []) (wr := [(h0, .inr (8, [.ref a1, .ref a2, .ref a3, .ref a4, .ref a5, .ref a6, .ref a7, .ref a8, .ref a9, .int j_faultKind, .int j_horseCount, .int j_tabletCount, .int (nI rc9), .int j_lineLength, .int j_hour]))]) (rx := []) (pl := va_pl L f) (pl1 := va_pl L_15 f_17) hP hD [] [0] rfl rfl (by decide) (by decide) hk1 hFc hP1 hD1
        have hT := hf_x_19
        have hl_21 := hf_x_18.tp hY.1
        have hl_22 := hf_x_18.tp hY.2.1
        have hl_23 := hf_x_18.tp hY.2.2.1
        have hl_24 := hf_x_18.tp hY.2.2.2.1
        have hl_25 := hf_x_18.tp hY.2.2.2.2.1
        have hl_26 := hf_x_18.tp hY.2.2.2.2.2.1
        have hl_27 := hf_x_18.tp hY.2.2.2.2.2.2.1
        have hl_28 := hf_x_18.tp hY.2.2.2.2.2.2.2
        have hl_29 := hf_x_18.tp hk_o_2
        have hl_30 := hf_x_18.tp hk_o_8
        have hl_31 := hf_x_18.tp hk_o_9
        have hl_32 := hf_x_18.tp hk_o_10
        have hl_33 := hf_x_18.tp hk_o_11
        have hl_34 := hf_x_18.tp hk_o_12
        have hY_35 := yK.up hf_x_18 hY
        generalize H1 = H at hP hS ⊢
        have hP : va_P (dC, dI) vwCl ([(h0, .inr (8, [.ref a1, .ref a2, .ref a3, .ref a4, .ref a5, .ref a6, .ref a7, .ref a8, .ref a9, .int j_faultKind, .int j_horseCount, .int j_tabletCount, .int (nI rc9), .int j_lineLength, .int j_hour]))] ++ va_pl L_15 f_17) H := hP
        have hD : va_D A ([(h0, .inr (8, [.ref a1, .ref a2, .ref a3, .ref a4, .ref a5, .ref a6, .ref a7, .ref a8, .ref a9, .int j_faultKind, .int j_horseCount, .int j_tabletCount, .int (nI rc9), .int j_lineLength, .int j_hour]))] ++ va_pl L_15 f_17) := hD
        refine W.widen (k := 1) (n := 12) (Nat.le_of_ble_eq_true rfl) (Nat.le_of_ble_eq_true rfl) ?_
        rcases r_14 with _ | o_36
        · refine W.eq (g2 := F0 m 40 ls [.null]) rfl ?_
          refine lv_astoreN (lv' := [(5, .null), (4, .ref o_2), (0, .ref h0), (1, .int p0), (2, .int p1), (3, .int p2)]) hx hb dX8_ride_40 hl (by decide) rfl (fun ls hl => ?_)
          refine lv_aloadN hx hb dX8_ride_42 (lv_at hl 0 rfl) ?_
          refine lv_ifnonnullN hx hb dX8_ride_44 ?_
          refine lv_iconst (v := (-1)) hx hb dX8_ride_47 (by decide) ?_
          have hP9 := hP.part (cx := [(h0, .inr (8, [.ref a1, .ref a2, .ref a3, .ref a4, .ref a5, .ref a6, .ref a7, .ref a8, .ref a9, .int j_faultKind, .int j_horseCount, .int j_tabletCount, .int (nI rc9), .int j_lineLength, .int j_hour]))]) [0] rfl
          have hD9 := hD.part (cx := [(h0, .inr (8, [.ref a1, .ref a2, .ref a3, .ref a4, .ref a5, .ref a6, .ref a7, .ref a8, .ref a9, .int j_faultKind, .int j_horseCount, .int j_tabletCount, .int (nI rc9), .int j_lineLength, .int j_hour]))]) [0] (by decide) rfl
          have hK9 := hK.sub (tys' := []) [] rfl
          refine W.widen (k := 3) (n := 34) (Nat.le_of_ble_eq_true rfl) (Nat.le_of_ble_eq_true rfl) ?_
          exact W.iret (v := (-1)) hx hb hr (fun t9 ht hW => ⟨⟨_, (), rfl, trivial, L_15, ka_16, f_17, rc9, hf_x_18, hT, (by omega), by rw [ht]; exact hP9, va_K.moved hW.alike hK9, hD9⟩, hS.F ht⟩) hS.2.2 dX8_ride_48
        · have hk_o_36 := hf_x_20 _ rfl
          refine W.eq (g2 := F0 m 40 ls [.ref o_36]) rfl ?_
          refine lv_astore (lv' := [(5, .ref o_36), (4, .ref o_2), (0, .ref h0), (1, .int p0), (2, .int p1), (3, .int p2)]) hx hb dX8_ride_40 hl (by decide) rfl (fun ls hl => ?_)
          refine lv_aload hx hb dX8_ride_42 (lv_at hl 0 rfl) ?_
          refine lv_ifnonnull (tgt := 49) hx hb dX8_ride_44 (by decide) ?_
          refine va_new (ci := 2) (fs := [.int 0, .int 0, .null, .null, .int 0, .int 0, .int 0, .null, .int 0, .int 0]) (C := RX2) (T := TX2) (N := 10) hx hb hts hin2 tyX2 tyX2_ok hown (hts (.classLink RX8 46 RX2) (by decide +kernel)) (hts (.instantiable RX2 10) (by decide +kernel)) (hts (.initialized RX2) (by decide +kernel)) hK hP hD hS hA rfl (by decide +kernel) (Nat.le_of_ble_eq_true rfl) (Nat.le_of_ble_eq_true rfl) dX8_ride_49 (fun q_37 H hP hD hS => ?_)
          refine W.widen (k := 2) (n := 22) (Nat.le_of_ble_eq_true rfl) (Nat.le_of_ble_eq_true rfl) ?_
          have hP := va_P.swap (a := [(h0, .inr (8, [.ref a1, .ref a2, .ref a3, .ref a4, .ref a5, .ref a6, .ref a7, .ref a8, .ref a9, .int j_faultKind, .int j_horseCount, .int j_tabletCount, .int (nI rc9), .int j_lineLength, .int j_hour]))]) hP
          have hD := va_D.swap (a := [(h0, .inr (8, [.ref a1, .ref a2, .ref a3, .ref a4, .ref a5, .ref a6, .ref a7, .ref a8, .ref a9, .int j_faultKind, .int j_horseCount, .int j_tabletCount, .int (nI rc9), .int j_lineLength, .int j_hour]))]) hD
          have hP : va_P (dC, dI) vwCl ([(h0, .inr (8, [.ref a1, .ref a2, .ref a3, .ref a4, .ref a5, .ref a6, .ref a7, .ref a8, .ref a9, .int j_faultKind, .int j_horseCount, .int j_tabletCount, .int (nI rc9), .int j_lineLength, .int j_hour])), (q_37, .inr (2, [.int 0, .int 0, .null, .null, .int 0, .int 0, .int 0, .null, .int 0, .int 0]))] ++ va_pl L_15 f_17) H := hP
          have hD : va_D A ([(h0, .inr (8, [.ref a1, .ref a2, .ref a3, .ref a4, .ref a5, .ref a6, .ref a7, .ref a8, .ref a9, .int j_faultKind, .int j_horseCount, .int j_tabletCount, .int (nI rc9), .int j_lineLength, .int j_hour])), (q_37, .inr (2, [.int 0, .int 0, .null, .null, .int 0, .int 0, .int 0, .null, .int 0, .int 0]))] ++ va_pl L_15 f_17) := hD
          refine lv_dup hx hb dX8_ride_52 rfl ?_
          refine lv_iload_n hx hb dX8_ride_53 rfl (lv_at hl 3 rfl) ?_
          refine lv_aload hx hb dX8_ride_54 (lv_at hl 1 rfl) ?_
          obtain ⟨x_39, o_40, hf_38, hk_o_40⟩ := hT.get hl_29
          obtain ⟨q_41, hq_41⟩ := pl_at (X := [(h0, .inr (8, [.ref a1, .ref a2, .ref a3, .ref a4, .ref a5, .ref a6, .ref a7, .ref a8, .ref a9, .int j_faultKind, .int j_horseCount, .int j_tabletCount, .int (nI rc9), .int j_lineLength, .int j_hour])), (q_37, .inr (2, [.int 0, .int 0, .null, .null, .int 0, .int 0, .int 0, .null, .int 0, .int 0]))]) (f := f_17) (e := .inr (6, [.int x_39, .ref o_40])) hl_29.1 hf_38
          refine va_getN (D := (dC, dI)) (ci := 6) (v := .int x_39) (C := RX6) (T := TX6) (N := 2) hx hb hts hin6 hown hK hP q_41 hq_41 rfl 0 (by decide) (hN.nx (.fieldLinkNest RX8 134 "YamRiders$Tablet" "rank" "I" "YamRiders") (by decide +kernel)) (fun _ h9 => h9) rfl dX8_ride_56 ?_
          refine lv_aload hx hb dX8_ride_59 (lv_at hl 0 rfl) ?_
          have hPc := hP.sub (ws' := [(q_37, .inr (2, [.int 0, .int 0, .null, .null, .int 0, .int 0, .int 0, .null, .int 0, .int 0]))]) [1] rfl
          have hDc := hD.sub (ws' := [(q_37, .inr (2, [.int 0, .int 0, .null, .null, .int 0, .int 0, .int 0, .null, .int 0, .int 0]))]) [1] (by decide) rfl
          have hKc := hK.sub (tys' := []) [] rfl
          have hFc := va_free (wc := [(q_37, .inr (2, [.int 0, .int 0, .null, .null, .int 0, .int 0, .int 0, .null, .int 0, .int 0]))]) hD hS hA [1] rfl
          refine va_callv (va_runI (As := [.int p0, .int x_39, .ref o_36]) (rest := [.ref q_37]) ⟨hx, hb, hml, hown, hts⟩ (g_X2_init l dC dI q_37 p0 x_39 o_36 H.size) (cwI 3 hts gX8_ride_X2_init rfl rfl rfl (hts (.initialized RX2) (by decide +kernel)) (hts (.methodLink RX8 137 yX2_init) (by decide +kernel)) (hts (.instanceMethod yX2_init) (by decide +kernel)) rfl (by decide +kernel) ⟨Nat.le_of_ble_eq_true rfl, Nat.le_of_ble_eq_true rfl⟩) ⟨c_blind, c_pre hPc hKc hDc hN⟩ rfl rfl hl.1 rfl (lv_room (Nat.le_of_ble_eq_true rfl)) dX8_ride_61 ⟨Nat.le_of_ble_eq_true rfl, Nat.le_of_ble_eq_true rfl⟩) hS (fun q _ h => hFc q h) hFc (fun u9 t9 H1 locs ht hvm hw hB hz1 hk1 hS => ?_)
          obtain ⟨q_43, k_44, f_45, hP1, hK1, hD1⟩ := hB
          rw [ht] at hP1
          have hK1 := va_K.moved hvm.symm hK1
          obtain ⟨hP, hD⟩ := va_joinQ (X := [(h0, .inr (8, [.ref a1, .ref a2, .ref a3, .ref a4, .ref a5, .ref a6, .ref a7, .ref a8, .ref a9, .int j_faultKind, .int j_horseCount, .int j_tabletCount, .int (nI rc9), .int j_lineLength, .int j_hour])), (q_37, .inr (2, [.int 0, .int 0, .null, .null, .int 0, .int 0, .int 0, .null, .int 0, .int 0]))]) (cx := [(q_37, .inr (2, [.int 0, .int 0, .null, .null, .int 0, .int 0, .int 0, .null, .int 0, .int 0]))]) (wr := [(h0, .inr (8, [.ref a1, .ref a2, .ref a3, .ref a4, .ref a5, .ref a6, .ref a7, .ref a8, .ref a9, .int j_faultKind, .int j_horseCount, .int j_tabletCount, .int (nI rc9), .int j_lineLength, .int j_hour]))]) (w1 := [(q_37, .inr (2, [.int p0, .int x_39, .ref o_36, .ref q_43, .int 0, .int 0, .int 0, .null, .int 0, .int 0])), (q_43, .inl (k_44, 12, .inl f_45))]) (pl := va_pl L_15 f_17) hP hD [1] [0] rfl rfl (by decide) (by decide) hk1 hFc hP1 hD1
          have hK := hK.app hK1
          have hK : va_K (dC, dI) vwCl [(cs 0, .int), (cs 1, .boolean), (cs 2, .array .int), (cs 3, .object "YamRiders$Horse"), (cs 4, .object "YamRiders$Tablet"), (cs 5, .object "YamRiders$Rider"), (k_44, .int)] s := hK
          generalize H1 = H at hP hS ⊢
          have hP : va_P (dC, dI) vwCl ([(h0, .inr (8, [.ref a1, .ref a2, .ref a3, .ref a4, .ref a5, .ref a6, .ref a7, .ref a8, .ref a9, .int j_faultKind, .int j_horseCount, .int j_tabletCount, .int (nI rc9), .int j_lineLength, .int j_hour])), (q_37, .inr (2, [.int p0, .int x_39, .ref o_36, .ref q_43, .int 0, .int 0, .int 0, .null, .int 0, .int 0])), (q_43, .inl (k_44, 12, .inl f_45))] ++ va_pl L_15 f_17) H := hP
          have hD : va_D A ([(h0, .inr (8, [.ref a1, .ref a2, .ref a3, .ref a4, .ref a5, .ref a6, .ref a7, .ref a8, .ref a9, .int j_faultKind, .int j_horseCount, .int j_tabletCount, .int (nI rc9), .int j_lineLength, .int j_hour])), (q_37, .inr (2, [.int p0, .int x_39, .ref o_36, .ref q_43, .int 0, .int 0, .int 0, .null, .int 0, .int 0])), (q_43, .inl (k_44, 12, .inl f_45))] ++ va_pl L_15 f_17) := hD
          refine W.widen (k := 3) (n := 34) (Nat.le_of_ble_eq_true rfl) (Nat.le_of_ble_eq_true rfl) ?_
          obtain rfl : k_44 = cs 0 := ka_eq hK 0 6 rfl rfl
          have hK := hK.sub (tys' := tyC cs) [0, 1, 2, 3, 4, 5] rfl
          have hP : va_P (dC, dI) vwCl ([(h0, .inr (8, [.ref a1, .ref a2, .ref a3, .ref a4, .ref a5, .ref a6, .ref a7, .ref a8, .ref a9, .int j_faultKind, .int j_horseCount, .int j_tabletCount, .int (nI rc9), .int j_lineLength, .int j_hour])), (q_37, .inr (2, [.int p0, .int x_39, .ref o_36, .ref q_43, .int 0, .int 0, .int 0, .null, .int 0, .int 0])), (q_43, .inl (cs 0, 12, .inl f_45))] ++ va_pl L_15 f_17) H := hP
          have hD : va_D A ([(h0, .inr (8, [.ref a1, .ref a2, .ref a3, .ref a4, .ref a5, .ref a6, .ref a7, .ref a8, .ref a9, .int j_faultKind, .int j_horseCount, .int j_tabletCount, .int (nI rc9), .int j_lineLength, .int j_hour])), (q_37, .inr (2, [.int p0, .int x_39, .ref o_36, .ref q_43, .int 0, .int 0, .int 0, .null, .int 0, .int 0])), (q_43, .inl (cs 0, 12, .inl f_45))] ++ va_pl L_15 f_17) := hD
          have hP := hP.part (cx := [(h0, .inr (8, [.ref a1, .ref a2, .ref a3, .ref a4, .ref a5, .ref a6, .ref a7, .ref a8, .ref a9, .int j_faultKind, .int j_horseCount, .int j_tabletCount, .int (nI rc9), .int j_lineLength, .int j_hour])), (q_37, .inr (2, [.int p0, .int x_39, .ref o_36, .ref q_43, .int 0, .int 0, .int 0, .null, .int 0, .int 0]))] ++ [(q_43, .inl (cs 0, 12, .inl f_45))]) [0, 1, 2] rfl
          have hD := hD.part (cx := [(h0, .inr (8, [.ref a1, .ref a2, .ref a3, .ref a4, .ref a5, .ref a6, .ref a7, .ref a8, .ref a9, .int j_faultKind, .int j_horseCount, .int j_tabletCount, .int (nI rc9), .int j_lineLength, .int j_hour])), (q_37, .inr (2, [.int p0, .int x_39, .ref o_36, .ref q_43, .int 0, .int 0, .int 0, .null, .int 0, .int 0]))] ++ [(q_43, .inl (cs 0, 12, .inl f_45))]) [0, 1, 2] (by decide) rfl
          obtain ⟨L_46, ka_47, f_48, hX_49, hT, hk_u_50, hP, hD⟩ := t_push (X := [(h0, .inr (8, [.ref a1, .ref a2, .ref a3, .ref a4, .ref a5, .ref a6, .ref a7, .ref a8, .ref a9, .int j_faultKind, .int j_horseCount, .int j_tabletCount, .int (nI rc9), .int j_lineLength, .int j_hour])), (q_37, .inr (2, [.int p0, .int x_39, .ref o_36, .ref q_43, .int 0, .int 0, .int 0, .null, .int 0, .int 0]))]) (q := q_43) 10 hT hP hD (fun _ _ h8 => ⟨_, rfl⟩)
          have hl_51 := hX_49.tp hl_21
          have hl_52 := hX_49.tp hl_22
          have hl_53 := hX_49.tp hl_23
          have hl_54 := hX_49.tp hl_24
          have hl_55 := hX_49.tp hl_25
          have hl_56 := hX_49.tp hl_26
          have hl_57 := hX_49.tp hl_27
          have hl_58 := hX_49.tp hl_28
          have hl_59 := hX_49.tp hl_29
          have hl_60 := hX_49.tp hl_30
          have hl_61 := hX_49.tp hl_31
          have hl_62 := hX_49.tp hl_32
          have hl_63 := hX_49.tp hl_33
          have hl_64 := hX_49.tp hl_34
          have hl_65 := hX_49.tp hk_o_36
          have hl_66 := hX_49.tp hk_o_40
          have hY_67 := yK.up hX_49 hY_35
          have hX_68 := hf_x_18.tr hX_49
          have hP : va_P (dC, dI) vwCl ([(h0, .inr (8, [.ref a1, .ref a2, .ref a3, .ref a4, .ref a5, .ref a6, .ref a7, .ref a8, .ref a9, .int j_faultKind, .int j_horseCount, .int j_tabletCount, .int (nI rc9), .int j_lineLength, .int j_hour])), (q_37, .inr (2, [.int p0, .int x_39, .ref o_36, .ref q_43, .int 0, .int 0, .int 0, .null, .int 0, .int 0]))] ++ va_pl L_46 f_48) H := hP
          have hD : va_D A ([(h0, .inr (8, [.ref a1, .ref a2, .ref a3, .ref a4, .ref a5, .ref a6, .ref a7, .ref a8, .ref a9, .int j_faultKind, .int j_horseCount, .int j_tabletCount, .int (nI rc9), .int j_lineLength, .int j_hour])), (q_37, .inr (2, [.int p0, .int x_39, .ref o_36, .ref q_43, .int 0, .int 0, .int 0, .null, .int 0, .int 0]))] ++ va_pl L_46 f_48) := hD
          have hP := hP.part (cx := [(h0, .inr (8, [.ref a1, .ref a2, .ref a3, .ref a4, .ref a5, .ref a6, .ref a7, .ref a8, .ref a9, .int j_faultKind, .int j_horseCount, .int j_tabletCount, .int (nI rc9), .int j_lineLength, .int j_hour]))] ++ [(q_37, .inr (2, [.int p0, .int x_39, .ref o_36, .ref q_43, .int 0, .int 0, .int 0, .null, .int 0, .int 0]))]) [0, 1] rfl
          have hD := hD.part (cx := [(h0, .inr (8, [.ref a1, .ref a2, .ref a3, .ref a4, .ref a5, .ref a6, .ref a7, .ref a8, .ref a9, .int j_faultKind, .int j_horseCount, .int j_tabletCount, .int (nI rc9), .int j_lineLength, .int j_hour]))] ++ [(q_37, .inr (2, [.int p0, .int x_39, .ref o_36, .ref q_43, .int 0, .int 0, .int 0, .null, .int 0, .int 0]))]) [0, 1] (by decide) rfl
          obtain ⟨L_69, ka_70, f_71, hX_72, hT, hk_u_73, hP, hD⟩ := t_push (X := [(h0, .inr (8, [.ref a1, .ref a2, .ref a3, .ref a4, .ref a5, .ref a6, .ref a7, .ref a8, .ref a9, .int j_faultKind, .int j_horseCount, .int j_tabletCount, .int (nI rc9), .int j_lineLength, .int j_hour]))]) (q := q_37) 2 hT hP hD (fun _ _ h8 => ⟨p0, x_39, o_36, q_43, 0, 0, 0, none, 0, 0, rfl, (h8.tp hl_65), (h8.tp hk_u_50), (fun _ h9 => nomatch h9)⟩)
          have hl_74 := hX_72.tp hl_51
          have hl_75 := hX_72.tp hl_52
          have hl_76 := hX_72.tp hl_53
          have hl_77 := hX_72.tp hl_54
          have hl_78 := hX_72.tp hl_55
          have hl_79 := hX_72.tp hl_56
          have hl_80 := hX_72.tp hl_57
          have hl_81 := hX_72.tp hl_58
          have hl_82 := hX_72.tp hl_59
          have hl_83 := hX_72.tp hl_60
          have hl_84 := hX_72.tp hl_61
          have hl_85 := hX_72.tp hl_62
          have hl_86 := hX_72.tp hl_63
          have hl_87 := hX_72.tp hl_64
          have hl_88 := hX_72.tp hl_65
          have hl_89 := hX_72.tp hl_66
          have hl_90 := hX_72.tp hk_u_50
          have hY_91 := yK.up hX_72 hY_67
          have hX_92 := hX_68.tr hX_72
          have hP : va_P (dC, dI) vwCl ([(h0, .inr (8, [.ref a1, .ref a2, .ref a3, .ref a4, .ref a5, .ref a6, .ref a7, .ref a8, .ref a9, .int j_faultKind, .int j_horseCount, .int j_tabletCount, .int (nI rc9), .int j_lineLength, .int j_hour]))] ++ va_pl L_69 f_71) H := hP
          have hD : va_D A ([(h0, .inr (8, [.ref a1, .ref a2, .ref a3, .ref a4, .ref a5, .ref a6, .ref a7, .ref a8, .ref a9, .int j_faultKind, .int j_horseCount, .int j_tabletCount, .int (nI rc9), .int j_lineLength, .int j_hour]))] ++ va_pl L_69 f_71) := hD
          refine lv_astore (lv' := [(6, .ref q_37), (5, .ref o_36), (4, .ref o_2), (0, .ref h0), (1, .int p0), (2, .int p1), (3, .int p2)]) hx hb dX8_ride_64 hl (by decide) rfl (fun ls hl => ?_)
          refine lv_aload hx hb dX8_ride_66 (lv_at hl 0 rfl) ?_
          refine lv_aload_n hx hb dX8_ride_68 rfl (lv_at hl 3 rfl) ?_
          refine va_get (D := (dC, dI)) (ci := 8) (v := .int j_hour) (C := RX8) (T := TX8) (N := 15) hx hb hts hin8 hown hK hP 0 rfl rfl 14 (by decide) (hts (.fieldLink RX8 140 "YamRiders" "hour" "I") (by decide +kernel)) (fun _ h9 => h9) rfl dX8_ride_69 ?_
          have hPc := hP.part (cx := []) [] rfl
          have hDc := hD.part (cx := []) [] (by decide) rfl
          have hKc := hK
          have hFc := va_freeP (cx := []) hD hS hA [] rfl
          obtain ⟨x_94, x_95, o_96, o_97, x_98, x_99, x_100, o_101, x_102, x_103, hf_93, hk_o_96, hk_o_97, hq_o_101⟩ := hT.get hk_u_73
          obtain ⟨q_104, hq_104⟩ := pl_at (X := []) (f := f_71) (e := .inr (2, [.int x_94, .int x_95, .ref o_96, .ref o_97, .int x_98, .int x_99, .int x_100, va_rf o_101, .int x_102, .int x_103])) hk_u_73.1 hf_93
          refine va_callv (va_runV (As := [.int j_hour]) (rest := []) ⟨hx, hb, hml, hown, hts⟩ (t_X2_comeTo l dC dI cs L_69 ka_70 f_71 q_37 j_hour H.size hT hk_u_73) (cwV 1 hts gX8_ride_X2_comeToNextStation rfl rfl rfl (by decide +kernel) ⟨Nat.le_of_ble_eq_true rfl, Nat.le_of_ble_eq_true rfl⟩) ⟨c_blind, va_recv hKc hPc (ci := 2) (q0 := q_104) rfl hq_104, c_pre hPc hKc hDc hN⟩ rfl rfl hl.1 rfl (lv_room (Nat.le_of_ble_eq_true rfl)) dX8_ride_72 ⟨Nat.le_of_ble_eq_true rfl, Nat.le_of_ble_eq_true rfl⟩) hS (fun q _ h => hFc q h) hFc (fun u9 t9 H1 locs ht hvm hw hB hz1 hk1 hS => ?_)
          obtain ⟨f_106, hf_x_107, hP1, hK1, hD1⟩ := hB
          rw [ht] at hP1
          have hK1 := va_K.moved hvm.symm hK1
          obtain ⟨hP, hD⟩ := va_joinP (X := [(h0, .inr (8, [.ref a1, .ref a2, .ref a3, .ref a4, .ref a5, .ref a6, .ref a7, .ref a8, .ref a9, .int j_faultKind, .int j_horseCount, .int j_tabletCount, .int (nI rc9), .int j_lineLength, .int j_hour]))]) (cx := []) (wr := [(h0, .inr (8, [.ref a1, .ref a2, .ref a3, .ref a4, .ref a5, .ref a6, .ref a7, .ref a8, .ref a9, .int j_faultKind, .int j_horseCount, .int j_tabletCount, .int (nI rc9), .int j_lineLength, .int j_hour]))]) (rx := []) (pl := va_pl L_69 f_71) (pl1 := va_pl L_69 f_106) hP hD [] [0] rfl rfl (by decide) (by decide) hk1 hFc hP1 hD1
          have hT := hf_x_107
          generalize H1 = H at hP hS ⊢
          have hP : va_P (dC, dI) vwCl ([(h0, .inr (8, [.ref a1, .ref a2, .ref a3, .ref a4, .ref a5, .ref a6, .ref a7, .ref a8, .ref a9, .int j_faultKind, .int j_horseCount, .int j_tabletCount, .int (nI rc9), .int j_lineLength, .int j_hour]))] ++ va_pl L_69 f_106) H := hP
          have hD : va_D A ([(h0, .inr (8, [.ref a1, .ref a2, .ref a3, .ref a4, .ref a5, .ref a6, .ref a7, .ref a8, .ref a9, .int j_faultKind, .int j_horseCount, .int j_tabletCount, .int (nI rc9), .int j_lineLength, .int j_hour]))] ++ va_pl L_69 f_106) := hD
          refine W.widen (k := 3) (n := 34) (Nat.le_of_ble_eq_true rfl) (Nat.le_of_ble_eq_true rfl) ?_
          refine lv_aload_n hx hb dX8_ride_75 rfl (lv_at hl 3 rfl) ?_
          refine va_get (D := (dC, dI)) (ci := 8) (v := .ref a7) (C := RX8) (T := TX8) (N := 15) hx hb hts hin8 hown hK hP 0 rfl rfl 6 (by decide) (hts (.fieldLink RX8 48 "YamRiders" "riders" "[LYamRiders$Rider;") (by decide +kernel)) (fun _ h9 => h9) rfl dX8_ride_76 ?_
          refine lv_aload_n hx hb dX8_ride_79 rfl (lv_at hl 3 rfl) ?_
          refine va_get (D := (dC, dI)) (ci := 8) (v := .int (nI rc9)) (C := RX8) (T := TX8) (N := 15) hx hb hts hin8 hown hK hP 0 rfl rfl 12 (by decide) (hts (.fieldLink RX8 124 "YamRiders" "riderCount" "I") (by decide +kernel)) (fun _ h9 => h9) rfl dX8_ride_80 ?_
          refine lv_aload hx hb dX8_ride_83 (lv_at hl 0 rfl) ?_
          obtain ⟨g_109, hf_108, hr_110⟩ := hT.get hl_79
          obtain ⟨q_111, hq_111⟩ := pl_at (X := [(h0, .inr (8, [.ref a1, .ref a2, .ref a3, .ref a4, .ref a5, .ref a6, .ref a7, .ref a8, .ref a9, .int j_faultKind, .int j_horseCount, .int j_tabletCount, .int (nI rc9), .int j_lineLength, .int j_hour]))]) (f := f_106) (e := .inl (cs 5, 60, .inr (.inr (.inr (.inr g_109))))) hl_79.1 hf_108
          obtain ⟨x_113, x_114, o_115, o_116, x_117, x_118, x_119, o_120, x_121, x_122, hf_112, hk_o_115, hk_o_116, hq_o_120⟩ := hT.get hk_u_73
          obtain ⟨q_123, hq_123⟩ := pl_at (X := [(h0, .inr (8, [.ref a1, .ref a2, .ref a3, .ref a4, .ref a5, .ref a6, .ref a7, .ref a8, .ref a9, .int j_faultKind, .int j_horseCount, .int j_tabletCount, .int (nI rc9), .int j_lineLength, .int j_hour]))]) (f := f_106) (e := .inr (2, [.int x_113, .int x_114, .ref o_115, .ref o_116, .int x_117, .int x_118, .int x_119, va_rf o_120, .int x_121, .int x_122])) hk_u_73.1 hf_112
          refine va_astq hx hb hK hP hD hS q_111 5 q_123 2 hq_111 rfl hq_123 rfl (vp_in_nI (by omega) (by decide)) dX8_ride_85 (fun H locs hP9 hD9 hS => ?_)
          have hr_124 := tq_up (i := (nI rc9).toNatClampNeg) hr_110 hk_u_73
          have hs_125 := pl_st (.inl (cs 5, 60, .inr (.inr (.inr (.inr (va_up g_109 (nI rc9).toNatClampNeg (some q_37))))))) hD hl_79.1 hf_108 hq_111
          have hP9 : va_P (dC, dI) vwCl ((([(h0, .inr (8, [.ref a1, .ref a2, .ref a3, .ref a4, .ref a5, .ref a6, .ref a7, .ref a8, .ref a9, .int j_faultKind, .int j_horseCount, .int j_tabletCount, .int (nI rc9), .int j_lineLength, .int j_hour]))] : va_W) ++ va_pl L_69 f_106).set q_111 (a7, .inl (cs 5, 60, .inr (.inr (.inr (.inr (va_up g_109 (nI rc9).toNatClampNeg (some q_37)))))))) H := hP9
          have hD9 : va_D A ((([(h0, .inr (8, [.ref a1, .ref a2, .ref a3, .ref a4, .ref a5, .ref a6, .ref a7, .ref a8, .ref a9, .int j_faultKind, .int j_horseCount, .int j_tabletCount, .int (nI rc9), .int j_lineLength, .int j_hour]))] : va_W) ++ va_pl L_69 f_106).set q_111 (a7, .inl (cs 5, 60, .inr (.inr (.inr (.inr (va_up g_109 (nI rc9).toNatClampNeg (some q_37)))))))) := hD9
          rw [hs_125] at hP9 hD9
          have hT := hT.put (e := .inl (cs 5, 60, .inr (.inr (.inr (.inr (va_up g_109 (nI rc9).toNatClampNeg (some q_37))))))) hl_79 ⟨_, rfl, hr_124⟩
          have hf_126 : va_up f_106 a7 (.inl (cs 5, 60, .inr (.inr (.inr (.inr (va_up g_109 (nI rc9).toNatClampNeg (some q_37))))))) a7 = .inl (cs 5, 60, .inr (.inr (.inr (.inr (va_up g_109 (nI rc9).toNatClampNeg (some q_37)))))) := va_up_self _ _ _
          have hP := hP9
          have hD := hD9
          clear hP9 hD9 hs_125
          generalize va_up f_106 a7 (.inl (cs 5, 60, .inr (.inr (.inr (.inr (va_up g_109 (nI rc9).toNatClampNeg (some q_37))))))) = f_127 at hP hD hT hf_126
          generalize va_up g_109 (nI rc9).toNatClampNeg (some q_37) = g_128 at hf_126 hr_124
          refine lv_aload_n hx hb dX8_ride_86 rfl (lv_at hl 3 rfl) ?_
          refine lv_dup hx hb dX8_ride_87 rfl ?_
          refine va_get (D := (dC, dI)) (ci := 8) (v := .int (nI rc9)) (C := RX8) (T := TX8) (N := 15) hx hb hts hin8 hown hK hP 0 rfl rfl 12 (by decide) (hts (.fieldLink RX8 124 "YamRiders" "riderCount" "I") (by decide +kernel)) (fun _ h9 => h9) rfl dX8_ride_88 ?_
          refine lv_iconst (v := 1) hx hb dX8_ride_91 (by decide) ?_
          refine lv_iadd hx hb dX8_ride_92 ?_
          refine lv_topi (fun v_129 ev_129 => ?_)
          obtain rfl : v_129 = nI (rc9 + 1) := ev_129.trans (nI_1 rc9)
          refine va_put (D := (dC, dI)) (ci := 8) (v := .int (nI (rc9 + 1))) (ty := (tyX8 12)) (C := RX8) (T := TX8) (N := 15) hx hb hts hin8 tyX8 tyX8_ok nmX8 hown hK hP hD hS 0 rfl rfl 12 (by decide) (hts (.fieldLink RX8 124 "YamRiders" "riderCount" "I") (by decide +kernel)) (fun _ h9 => h9) rfl (by decide +kernel) rfl rfl (Nat.le_of_ble_eq_true rfl) dX8_ride_93 (fun H locs hP hD hS => ?_)
          have hP : va_P (dC, dI) vwCl ([(h0, .inr (8, [.ref a1, .ref a2, .ref a3, .ref a4, .ref a5, .ref a6, .ref a7, .ref a8, .ref a9, .int j_faultKind, .int j_horseCount, .int j_tabletCount, .int (nI (rc9 + 1)), .int j_lineLength, .int j_hour]))] ++ va_pl L_69 f_127) H := hP
          have hD : va_D A ([(h0, .inr (8, [.ref a1, .ref a2, .ref a3, .ref a4, .ref a5, .ref a6, .ref a7, .ref a8, .ref a9, .int j_faultKind, .int j_horseCount, .int j_tabletCount, .int (nI (rc9 + 1)), .int j_lineLength, .int j_hour]))] ++ va_pl L_69 f_127) := hD
          refine lv_aload_n hx hb dX8_ride_96 rfl (lv_at hl 3 rfl) ?_
          refine va_get (D := (dC, dI)) (ci := 8) (v := .int (nI (rc9 + 1))) (C := RX8) (T := TX8) (N := 15) hx hb hts hin8 hown hK hP 0 rfl rfl 12 (by decide) (hts (.fieldLink RX8 124 "YamRiders" "riderCount" "I") (by decide +kernel)) (fun _ h9 => h9) rfl dX8_ride_97 ?_
          refine lv_iconst (v := 1) hx hb dX8_ride_100 (by decide) ?_
          refine lv_isub hx hb dX8_ride_101 ?_
          refine lv_topi (fun v_130 ev_130 => ?_)
          have hP9 := hP.part (cx := [(h0, .inr (8, [.ref a1, .ref a2, .ref a3, .ref a4, .ref a5, .ref a6, .ref a7, .ref a8, .ref a9, .int j_faultKind, .int j_horseCount, .int j_tabletCount, .int (nI (rc9 + 1)), .int j_lineLength, .int j_hour]))]) [0] rfl
          have hD9 := hD.part (cx := [(h0, .inr (8, [.ref a1, .ref a2, .ref a3, .ref a4, .ref a5, .ref a6, .ref a7, .ref a8, .ref a9, .int j_faultKind, .int j_horseCount, .int j_tabletCount, .int (nI (rc9 + 1)), .int j_lineLength, .int j_hour]))]) [0] (by decide) rfl
          have hK9 := hK.sub (tys' := []) [] rfl
          refine W.widen (k := 3) (n := 34) (Nat.le_of_ble_eq_true rfl) (Nat.le_of_ble_eq_true rfl) ?_
          exact W.iret (v := v_130) hx hb hr (fun t9 ht hW => ⟨⟨_, (), rfl, trivial, L_69, ka_70, f_127, (rc9 + 1), hX_92, hT, (by omega), by rw [ht]; exact hP9, va_K.moved hW.alike hK9, hD9⟩, hS.F ht⟩) hS.2.2 dX8_ride_102
      · refine lv_iconst (v := (-1)) hx hb dX8_ride_29 (by decide) ?_
        have hP9 := hP.part (cx := [(h0, .inr (8, [.ref a1, .ref a2, .ref a3, .ref a4, .ref a5, .ref a6, .ref a7, .ref a8, .ref a9, .int j_faultKind, .int j_horseCount, .int j_tabletCount, .int (nI rc9), .int j_lineLength, .int j_hour]))]) [0] rfl
        have hD9 := hD.part (cx := [(h0, .inr (8, [.ref a1, .ref a2, .ref a3, .ref a4, .ref a5, .ref a6, .ref a7, .ref a8, .ref a9, .int j_faultKind, .int j_horseCount, .int j_tabletCount, .int (nI rc9), .int j_lineLength, .int j_hour]))]) [0] (by decide) rfl
        have hK9 := hK.sub (tys' := []) [] rfl
        refine W.widen (k := 3) (n := 34) (Nat.le_of_ble_eq_true rfl) (Nat.le_of_ble_eq_true rfl) ?_
        exact W.iret (v := (-1)) hx hb hr (fun t9 ht hW => ⟨⟨_, (), rfl, trivial, L, ka, f, rc9, tX.rf, hT, (by omega), by rw [ht]; exact hP9, va_K.moved hW.alike hK9, hD9⟩, hS.F ht⟩) hS.2.2 dX8_ride_30
