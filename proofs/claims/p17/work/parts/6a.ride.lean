theorem fit_int {cA : ClassId} {n : Nat} {g : Nat → Int32} : ∀ (i : Nat) (v : Value), (vp_cell cA (n, .inl g)).slots[i]? = some v → fits .int v = true := fun i v h => by
  have h : (arrV cA n (fun j => .int (g j))).slots[i]? = some v := h
  by_cases hi : i < n
  · rw [arrV_read _ _ hi] at h
    cases h; rfl
  · have hs : (arrV cA n (fun j => .int (g j))).slots.size ≤ i := by rw [arrV_size]; omega
    rw [Array.getElem?_eq_none hs] at h
    cases h
theorem nI_ne12 {n : Nat} (hn : n ≤ 12) (c : ¬ nI n = 12) : n < 12 := by
  rcases Nat.lt_or_ge n 12 with q | q
  · exact q
  · exact absurd (show nI n = nI 12 by rw [show n = 12 by omega]) c
def WY (L : List Nat) (ka ix : Nat → Nat) (S T : Nat → Nat → Nat → Int32) (p0 p1 : Int32) (o : Option Nat) : Prop := (o = none ∧ NOW S p0 p1) ∨ ∃ q j w : Nat, o = some q ∧ tpx L ka ix 38 j q ∧ T 609 j 0 = nI w ∧ w ≤ 12 ∧ WYS S p0 p1 w (T 608 j)
def CPY (L : List Nat) (ka ix : Nat → Nat) (S T : Nat → Nat → Nat → Int32) (o : Option Nat) (n : Nat) : Prop := ∃ q j : Nat, o = some q ∧ tpx L ka ix 38 j q ∧ T 609 j 0 = nI n ∧ ∀ i, i < n → T 608 j i = S 528 0 i
theorem cpy_i {f g : Nat → Int32} {n i : Nat} (h : i < n) (hn : n < 2 ^ 31) : va_cpy f g (0 : Int32).toNatClampNeg (0 : Int32).toNatClampNeg (nI n).toNatClampNeg i = f i := by
  unfold va_cpy
  rw [nI_clamp hn, show (0 : Int32).toNatClampNeg = 0 from rfl, if_pos ⟨by omega, by omega⟩, show 0 + (i - 0) = i by omega]
theorem FW_y {S T U : Nat → Nat → Nat → Int32} {g : Nat → Int32} {u v k : Nat} {p : Nat → Nat} {r : Int32} (f : FR S T) (e : T 496 0 = g) (e1 : U 496 = T 496) (e2 : FR T U) (hRg : RgS S) (hL : L1 (hF S) (sF S) v g) (hX : FXa (hF S) (sF S) g) (hP : PT S g u v k p) (hf : (g u).toInt < 1000000) (hne : ¬ p k = v) (h : STP U (p k) r) : ∃ y, y < 12 ∧ r = nI y ∧ NXs S g (p k) y := by
  have E : U 496 0 = g := by rw [e1]; exact e
  rcases h with ⟨y, hy, er, hN⟩ | ⟨_, hN⟩
  · exact ⟨y, hy, er, NX_c (FR.tr f e2) E hN⟩
  · exfalso
    obtain ⟨a, b, c⟩ := PT_c hRg hL hP hf k (Nat.le_refl _)
    obtain ⟨y, hy, hy2⟩ := PT_x hRg hL hX (hP.2.2 k (Nat.le_refl _)) hne b
    apply hN y hy
    unfold NC at hy2 ⊢
    rw [E, tmN_fr (FR.tr f e2)]; exact hy2
theorem WYS_0 {S : Nat → Nat → Nat → Int32} {p0 p1 : Int32} {w : Nat} {a : Nat → Int32} (h : WYS S p0 p1 w a) : ∃ u, u < 12 ∧ 1 ≤ w ∧ a 0 = nI u := by
  obtain ⟨u, v, g, hu, hv, e1, e2, hL, hX, hf, p, n, hw, hn, hP, hv2, ha⟩ := h
  exact ⟨p 0, hP.2.2 0 (Nat.zero_le _), by omega, ha 0 (Nat.zero_le _)⟩

set_option maxHeartbeats 4000000 in
set_option maxRecDepth 100000 in
theorem e_J7_copyOf (l : Launch) (dC : Nat → ClassId) (dI : Nat → Nat → Nat) (cs : Nat → ClassId) (L : List Nat) (ka : Nat → Nat) (ix : Nat → Nat) (ad : Nat → Nat → Nat) (n0 : Nat) (n6 : Nat) (n2 : Nat) (S : Nat → Nat → Nat → Int32) (f : Nat → va_E) (b1 : Nat) (n9 : Nat) (sz : Nat) (hT : tB L ka ix ad cs n0 n6 n2 S f) (hk_b1 : tpx L ka ix 33 0 b1) (hn9 : n9 ≤ 12) : Met l yJ7_copyOf_59c91 wsJ7_copyOf_59c91 ({ frames := 1, cells := 1, slots := 12, locals := 60 }) (va_Pc [.ref b1, .int (nI n9)] (cP dC dI ([] ++ va_pl L f) (tyC cs) sz)) (va_Qq (fun (r u9 : Option Nat) => r = u9) (fun (u9 : Option Nat) t9 => ∃ (L2 : List Nat) (ka2 : Nat → Nat) (ix2 : Nat → Nat) (ad2 : Nat → Nat → Nat) (S2 : Nat → Nat → Nat → Int32) (f2 : Nat → va_E), (eX L ka ix L2 ka2 ix2) ∧ (tB L2 ka2 ix2 ad2 cs n0 n6 n2 S2 f2) ∧ (AG S S2) ∧ (CPY L2 ka2 ix2 S S2 u9 n9) ∧ cQ dC dI ([] ++ va_pl L2 f2) [] (va_A ([] ++ va_pl L f) sz) t9) (va_A ([] ++ va_pl L f) sz)) 1 12 (va_A ([] ++ va_pl L f) sz) := by
  refine Met.ofW (cc := cJ7_copyOf_59c91) (maxL := 3) (ret := (some (.array .int))) (by decide) rfl ?_
  intro p e s m args below meth c s₁ B hml hv
  obtain ⟨rfl, hsz, hP, hK, hD0, hN⟩ := hv
  have hx := B.exec
  have hb := B.bytes
  have hr := B.returns
  have hts := atoms_spec (ws := wsJ7_copyOf_59c91) B.pre
  have hown : s.vm.findClass RJ7 = some m.cls := findClass_of_methodNamed B.named
  have hlocks := B.notSynchronized
  subst hsz
  have hD := hD0.self (sz := s.heap.size)
  generalize hAe : va_A ([] ++ va_pl L f) s.heap.size = A at hD ⊢
  have hA : ∀ q : Nat, s.heap.size ≤ q → A q := fun q h => by rw [← hAe]; exact Or.inr h
  have hS : va_S A s.heap s.heap [] := va_S.rf
  have hP : va_P (dC, dI) vwCl ([] ++ va_pl L f) s.heap := hP
  have hl := lv_entry ([.ref b1, .int (nI n9)]) (n := 3) (Nat.le_of_ble_eq_true rfl)
  rw [lg_entry_eq]
  generalize (lg_sl ([.ref b1, .int (nI n9)]) ++ List.replicate (3 - (lg_sl ([.ref b1, .int (nI n9)])).length) Slot.unset).toArray = ls at hl ⊢
  have hl : lv_has ls 3 [(0, .ref b1), (1, .int (nI n9))] := hl
  refine lv_iload_n hx hb dJ7_copyOf_59c91_0 rfl (lv_at hl 1 rfl) ?_
  refine lv_aload_n hx hb dJ7_copyOf_59c91_1 rfl (lv_at hl 0 rfl) ?_
  have hf_1 : f b1 = .inl (cs 0, 12, .inl (S 528 0)) := hT.get hk_b1
  obtain ⟨q_2, hq_2⟩ := pl_at (X := []) (f := f) (e := .inl (cs 0, 12, .inl (S 528 0))) hk_b1.1 hf_1
  refine va_alen (v := 12) hx hb hK hP q_2 0 hq_2 rfl rfl dJ7_copyOf_59c91_2 ?_
  refine lv_icmp_ne (tgt := 14) hx hb dJ7_copyOf_59c91_3 (by decide) (fun c_3 => ?_) (fun c_3 => ?_)
  · refine lv_iload_n hx hb dJ7_copyOf_59c91_14 rfl (lv_at hl 1 rfl) ?_
    have hn12 : n9 < 12 := nI_ne12 hn9 c_3
    refine va_newa (atype := .int) (ty := .int) (a0 := (n9, .inl (fun _ => 0))) (N' := n9) hx hb (hts (.arrayClass .int) (by decide +kernel)) rfl hK hP hD hS hA (fun _ => rfl) (nI_pos (by omega)) (nI_clamp (by omega)) (by show n9 * 4 ≤ _; omega) (Nat.le_of_ble_eq_true rfl) (Nat.le_trans (show 0 + n9 ≤ 12 by omega) (Nat.le_of_ble_eq_true rfl)) dJ7_copyOf_59c91_15 (fun q_4 k_5 H hK hP hD hS => ?_)
    refine W.widen (k := 1) (n := 12) (Nat.le_of_ble_eq_true rfl) (by omega) ?_
    have hP := va_P.swap (a := []) hP
    have hD := va_D.swap (a := []) hD
    have hP : va_P (dC, dI) vwCl ([(q_4, .inl (k_5, n9, .inl (fun _ => 0)))] ++ va_pl L f) H := hP
    have hD : va_D A ([(q_4, .inl (k_5, n9, .inl (fun _ => 0)))] ++ va_pl L f) := hD
    have hK : va_K (dC, dI) vwCl [(cs 0, .int), (cs 1, .boolean), (cs 2, .array .int), (cs 3, .object "YamRiders$Horse"), (cs 4, .object "YamRiders$Tablet"), (cs 5, .object "YamRiders$Rider"), (k_5, .int)] s := hK
    obtain rfl : k_5 = cs 0 := ka_eq hK 0 6 rfl rfl
    have hK := hK.sub (tys' := tyC cs) [0, 1, 2, 3, 4, 5] rfl
    have hP : va_P (dC, dI) vwCl ([(q_4, .inl (cs 0, n9, .inl (fun _ => 0)))] ++ va_pl L f) H := hP
    have hD : va_D A ([(q_4, .inl (cs 0, n9, .inl (fun _ => 0)))] ++ va_pl L f) := hD
    refine lv_astore_n (lv' := [(2, .ref q_4), (0, .ref b1), (1, .int (nI n9))]) hx hb dJ7_copyOf_59c91_17 rfl hl (by decide) rfl (fun ls hl => ?_)
    refine lv_aload_n hx hb dJ7_copyOf_59c91_18 rfl (lv_at hl 1 rfl) ?_
    refine lv_iconst (v := 0) hx hb dJ7_copyOf_59c91_19 (by decide) ?_
    refine lv_aload_n hx hb dJ7_copyOf_59c91_20 rfl (lv_at hl 0 rfl) ?_
    refine lv_iconst (v := 0) hx hb dJ7_copyOf_59c91_21 (by decide) ?_
    refine lv_aload_n hx hb dJ7_copyOf_59c91_22 rfl (lv_at hl 1 rfl) ?_
    obtain ⟨q_6, hq_6⟩ := pl_at (X := [(q_4, .inl (cs 0, n9, .inl (fun _ => 0)))]) (f := f) (e := .inl (cs 0, 12, .inl (S 528 0))) hk_b1.1 hf_1
    refine va_alen (v := 12) hx hb hK hP q_6 0 hq_6 rfl rfl dJ7_copyOf_59c91_23 ?_
    refine lv_iload_n hx hb dJ7_copyOf_59c91_24 rfl (lv_at hl 2 rfl) ?_
    refine va_mmin (x := 12) (y := nI n9) hx hb (by rw [hml]; exact hl.1.symm) hown (hts (.methodLink RJ7 304 Lib.Math.min.name) (by decide +kernel)) (hts (.static Lib.Math.min.name) (by decide +kernel)) (hts (.initialized "java/lang/Math") (by decide +kernel)) (hts (.code Lib.Math.min.name Lib.Math.min.code 2 (some .int)) (by decide +kernel)) (Nat.le_of_ble_eq_true rfl) (Nat.le_of_ble_eq_true rfl) (Nat.le_of_ble_eq_true rfl) (Nat.le_of_ble_eq_true rfl) dJ7_copyOf_59c91_25 ?_
    refine lv_topi (fun v_7 ev_7 => ?_)
    obtain rfl : v_7 = nI n9 := ev_7.trans (if_pos (show nI n9 < nI 12 from nI_lt hn12 (by decide)))
    obtain ⟨q_8, hq_8⟩ := pl_at (X := [(q_4, .inl (cs 0, n9, .inl (fun _ => 0)))]) (f := f) (e := .inl (cs 0, 12, .inl (S 528 0))) hk_b1.1 hf_1
    refine va_copyi hx hb (by rw [hml]; exact hl.1.symm) hown (hts (.methodLink RJ7 150 arraycopyName) (by decide +kernel)) (hts (.native arraycopyName) (by decide +kernel)) (hts (.static arraycopyName) (by decide +kernel)) (hts (.initialized "java/lang/System") (by decide +kernel)) hK hP hD hS q_8 0 0 0 hq_8 rfl rfl rfl rfl (by decide) (by decide) (nI_pos (by omega)) (by rw [nI_clamp (by omega)]; show 0 + n9 ≤ 12; omega) (by rw [nI_clamp (by omega)]; show 0 + n9 ≤ n9; omega) (fun i _ => rfl) (Nat.le_of_ble_eq_true rfl) (Nat.le_of_ble_eq_true rfl) dJ7_copyOf_59c91_28 (fun H locs hP hD hS => ?_)
    have hP : va_P (dC, dI) vwCl ([(q_4, .inl (cs 0, n9, .inl (va_cpy (S 528 0) (fun _ => 0) (0 : Int32).toNatClampNeg (0 : Int32).toNatClampNeg (nI n9).toNatClampNeg)))] ++ va_pl L f) H := hP
    have hD : va_D A ([(q_4, .inl (cs 0, n9, .inl (va_cpy (S 528 0) (fun _ => 0) (0 : Int32).toNatClampNeg (0 : Int32).toNatClampNeg (nI n9).toNatClampNeg)))] ++ va_pl L f) := hD
    obtain ⟨g_9, eg_9⟩ : ∃ g9 : Nat → Int32, g9 = va_cpy (S 528 0) (fun _ => 0) (0 : Int32).toNatClampNeg (0 : Int32).toNatClampNeg (nI n9).toNatClampNeg := ⟨_, rfl⟩
    rw [← eg_9] at hP hD
    refine lv_aload_n hx hb dJ7_copyOf_59c91_31 rfl (lv_at hl 0 rfl) ?_
    have hP := hP.part (cx := [] ++ [(q_4, .inl (cs 0, n9, .inl g_9))]) [0] rfl
    have hD := hD.part (cx := [] ++ [(q_4, .inl (cs 0, n9, .inl g_9))]) [0] (by decide) rfl
    have hTo := hT
    obtain ⟨L_10, ka_11, ix_12, ad_13, f_14, j_15, S_16, hX_17, hT, hk_18, hl_19, hg_20, hc_21, hj_22, hP, hD⟩ := e_push38 (X := []) (q := q_4) (n := n9) (by omega) hT hP hD
    have hFr_23 := AG.k AG.rf hc_21
    have hl_24 := hX_17 _ _ _ hk_b1
    have hX_25 := hX_17.x
    have hP : va_P (dC, dI) vwCl ([] ++ va_pl L_10 f_14) H := hP
    have hD : va_D A ([] ++ va_pl L_10 f_14) := hD
    have hP9 := hP.part (cx := []) [] rfl
    have hD9 := hD.part (cx := []) [] (by decide) rfl
    have hK9 := hK.sub (tys' := []) [] rfl
    refine W.widen (k := 1) (n := 12) (Nat.le_of_ble_eq_true rfl) (Nat.le_of_ble_eq_true rfl) ?_
    exact W.aret (v := .ref q_4) hx hb hr (by first | exact Or.inl ⟨_, rfl⟩ | exact Or.inr ⟨_, rfl⟩) (Or.inr ⟨_, rfl⟩) (fun t9 ht hW => ⟨⟨(some q_4), (some q_4), rfl, rfl, L_10, ka_11, ix_12, ad_13, S_16, f_14, hX_25, hT, hFr_23, ⟨_, j_15, rfl, hk_18, hl_19, (fun i hi => by rw [hg_20, eg_9]; exact cpy_i hi (by omega))⟩, by rw [ht]; exact hP9, va_K.moved hW.alike hK9, hD9⟩, hS.F ht⟩) hS.2.2 dJ7_copyOf_59c91_32
  · refine lv_aload_n hx hb dJ7_copyOf_59c91_6 rfl (lv_at hl 0 rfl) ?_
    obtain ⟨q_26, hq_26⟩ := pl_at (X := []) (f := f) (e := .inl (cs 0, 12, .inl (S 528 0))) hk_b1.1 hf_1
    refine va_clone hx hb (by rw [hml]; exact hl.1.symm) hown (hts (.methodLink RJ7 316 ⟨"[I", "clone", "()Ljava/lang/Object;"⟩) (by decide +kernel)) (hts (.sameMethod "[I" "java/lang/Object" "clone" "()Ljava/lang/Object;") (by decide +kernel)) (hts (.native ⟨"java/lang/Object", "clone", "()Ljava/lang/Object;"⟩) (by decide +kernel)) (hts (.instanceMethod ⟨"java/lang/Object", "clone", "()Ljava/lang/Object;"⟩) (by decide +kernel)) (hts (.selects "[I" ⟨"[I", "clone", "()Ljava/lang/Object;"⟩ ⟨"java/lang/Object", "clone", "()Ljava/lang/Object;"⟩) (by decide +kernel)) (hN.1 (.castable "[I" "java/lang/Cloneable") (by decide +kernel)) hK hP hD hS hA q_26 0 hq_26 rfl (show s.vm.findClass "[I" = some (cs 0) from (hK.2 0 _ rfl).2) fit_int (Nat.le_of_ble_eq_true rfl) (Nat.le_of_ble_eq_true rfl) (Nat.le_of_ble_eq_true rfl) (Nat.le_of_ble_eq_true rfl) dJ7_copyOf_59c91_7 (fun q_27 H hK hP hD hS => ?_)
    refine W.widen (k := 1) (n := 12) (Nat.le_of_ble_eq_true rfl) (Nat.le_of_ble_eq_true rfl) ?_
    have hP := va_P.swap (a := []) hP
    have hD := va_D.swap (a := []) hD
    have hK := hK.sub (tys' := tyC cs) [0, 1, 2, 3, 4, 5] rfl
    have hP : va_P (dC, dI) vwCl ([(q_27, .inl (cs 0, 12, .inl (S 528 0)))] ++ va_pl L f) H := hP
    have hD : va_D A ([(q_27, .inl (cs 0, 12, .inl (S 528 0)))] ++ va_pl L f) := hD
    refine va_castA hx hb hown (hts (.classLink RJ7 317 "[I") (by decide +kernel)) hP 0 rfl (show s.vm.findClass "[I" = some (cs 0) from (hK.2 0 _ rfl).2) dJ7_copyOf_59c91_10 ?_
    have hP := hP.part (cx := [] ++ [(q_27, .inl (cs 0, 12, .inl (S 528 0)))]) [0] rfl
    have hD := hD.part (cx := [] ++ [(q_27, .inl (cs 0, 12, .inl (S 528 0)))]) [0] (by decide) rfl
    have hTo := hT
    obtain ⟨L_28, ka_29, ix_30, ad_31, f_32, j_33, S_34, hX_35, hT, hk_36, hl_37, hg_38, hc_39, hj_40, hP, hD⟩ := e_push38 (X := []) (q := q_27) (n := 12) (by omega) hT hP hD
    have hFr_41 := AG.k AG.rf hc_39
    have hl_42 := hX_35 _ _ _ hk_b1
    have hX_43 := hX_35.x
    have hP : va_P (dC, dI) vwCl ([] ++ va_pl L_28 f_32) H := hP
    have hD : va_D A ([] ++ va_pl L_28 f_32) := hD
    have hP9 := hP.part (cx := []) [] rfl
    have hD9 := hD.part (cx := []) [] (by decide) rfl
    have hK9 := hK.sub (tys' := []) [] rfl
    refine W.widen (k := 1) (n := 12) (Nat.le_of_ble_eq_true rfl) (Nat.le_of_ble_eq_true rfl) ?_
    exact W.aret (v := .ref q_27) hx hb hr (by first | exact Or.inl ⟨_, rfl⟩ | exact Or.inr ⟨_, rfl⟩) (Or.inr ⟨_, rfl⟩) (fun t9 ht hW => ⟨⟨(some q_27), (some q_27), rfl, rfl, L_28, ka_29, ix_30, ad_31, S_34, f_32, hX_43, hT, hFr_41, ⟨_, j_33, rfl, hk_36, (by rw [hl_37, show n9 = 12 from nI_inJ c_3 (by omega) (by decide)]), (fun i hi => by rw [hg_38])⟩, by rw [ht]; exact hP9, va_K.moved hW.alike hK9, hD9⟩, hS.F ht⟩) hS.2.2 dJ7_copyOf_59c91_13

set_option maxHeartbeats 4000000 in
set_option maxRecDepth 100000 in
theorem e_X3_findWay (l : Launch) (dC : Nat → ClassId) (dI : Nat → Nat → Nat) (cs : Nat → ClassId) (L : List Nat) (ka : Nat → Nat) (ix : Nat → Nat) (ad : Nat → Nat → Nat) (n0 : Nat) (n6 : Nat) (n2 : Nat) (S : Nat → Nat → Nat → Int32) (f : Nat → va_E) (h0 : Nat) (p0 : Int32) (p1 : Int32) (sz : Nat) (hT : tB L ka ix ad cs n0 n6 n2 S f) (hk_h0 : tpx L ka ix 3 0 h0) (hSy : Sy S) (hRg : RgS S) : Met l yX3_findWay wsX3_findWay ({ frames := 5, cells := 1, slots := 12, locals := 110 }) (va_Pc [.ref h0, .int p0, .int p1] (cP dC dI ([] ++ va_pl L f) (tyC cs) sz)) (va_Qq (fun (r u9 : Option Nat) => r = u9) (fun (u9 : Option Nat) t9 => ∃ (L2 : List Nat) (ka2 : Nat → Nat) (ix2 : Nat → Nat) (ad2 : Nat → Nat → Nat) (S2 : Nat → Nat → Nat → Int32) (f2 : Nat → va_E), (eX L ka ix L2 ka2 ix2) ∧ (tB L2 ka2 ix2 ad2 cs n0 n6 n2 S2 f2) ∧ (AG S S2) ∧ (WY L2 ka2 ix2 S S2 p0 p1 u9) ∧ cQ dC dI ([] ++ va_pl L2 f2) [] (va_A ([] ++ va_pl L f) sz) t9) (va_A ([] ++ va_pl L f) sz)) 1 12 (va_A ([] ++ va_pl L f) sz) := by
  refine Met.ofW (cc := cX3_findWay) (maxL := 5) (ret := (some (.array .int))) (by decide) rfl ?_
  intro p e s m args below meth c s₁ B hml hv
  obtain ⟨rfl, hsz, hP, hK, hD0, hN⟩ := hv
  have hx := B.exec
  have hb := B.bytes
  have hr := B.returns
  have hts := atoms_spec (ws := wsX3_findWay) B.pre
  have hown : s.vm.findClass RX3 = some m.cls := findClass_of_methodNamed B.named
  have hlocks := B.notSynchronized
  subst hsz
  have hin3 : ∀ w ∈ u_ws RX3 TX3 5, w ∈ wsX3_findWay := by decide +kernel
  have hD := hD0.self (sz := s.heap.size)
  generalize hAe : va_A ([] ++ va_pl L f) s.heap.size = A at hD ⊢
  have hA : ∀ q : Nat, s.heap.size ≤ q → A q := fun q h => by rw [← hAe]; exact Or.inr h
  have hS : va_S A s.heap s.heap [] := va_S.rf
  have hP : va_P (dC, dI) vwCl ([] ++ va_pl L f) s.heap := hP
  have hl := lv_entry ([.ref h0, .int p0, .int p1]) (n := 5) (Nat.le_of_ble_eq_true rfl)
  rw [lg_entry_eq]
  generalize (lg_sl ([.ref h0, .int p0, .int p1]) ++ List.replicate (5 - (lg_sl ([.ref h0, .int p0, .int p1])).length) Slot.unset).toArray = ls at hl ⊢
  have hl : lv_has ls 5 [(0, .ref h0), (1, .int p0), (2, .int p1)] := hl
  refine lv_aload_n hx hb dX3_findWay_0 rfl (lv_at hl 0 rfl) ?_
  refine lv_iload_n hx hb dX3_findWay_1 rfl (lv_at hl 1 rfl) ?_
  refine lv_iload_n hx hb dX3_findWay_2 rfl (lv_at hl 2 rfl) ?_
  have hPc := hP.part (cx := []) [] rfl
  have hDc := hD.part (cx := []) [] (by decide) rfl
  have hKc := hK
  have hFc := va_freeP (cx := []) hD hS hA [] rfl
  have hf_1 : f h0 = .inr (3, [.ref (ad 24 0), .ref (ad 25 0), .ref (ad 31 0), .ref (ad 32 0), .ref (ad 33 0)]) := hT.get hk_h0
  obtain ⟨q_2, hq_2⟩ := pl_at (X := []) (f := f) (e := .inr (3, [.ref (ad 24 0), .ref (ad 25 0), .ref (ad 31 0), .ref (ad 32 0), .ref (ad 33 0)])) hk_h0.1 hf_1
  refine va_calli (va_runV (As := [.int p0, .int p1]) (rest := []) ⟨hx, hb, hml, hown, hts⟩ (e_X3_leastTime l dC dI cs L ka ix ad n0 n6 n2 S f h0 p0 p1 s.heap.size hT hk_h0 hSy hRg) (cwV 2 hts gX3_findWay_X3_leastTime rfl rfl rfl (by decide +kernel) ⟨Nat.le_of_ble_eq_true rfl, Nat.le_of_ble_eq_true rfl⟩) ⟨c_blind, va_recv hKc hPc (ci := 3) (q0 := q_2) rfl hq_2, c_pre hPc hKc hDc hN⟩ rfl rfl hl.1 rfl (lv_room (Nat.le_of_ble_eq_true rfl)) dX3_findWay_3 ⟨Nat.le_of_ble_eq_true rfl, Nat.le_of_ble_eq_true rfl⟩) hS (fun q _ h => hFc q h) hFc (fun r_3 u9 t9 H1 locs ht hvm hw hB hz1 hk1 hS => ?_)
  obtain ⟨S_4, f_5, hf_x_6, hf_x_7, hf_x_8, hP1, hK1, hD1⟩ := hB
  rw [ht] at hP1
  have hK1 := va_K.moved hvm.symm hK1
  obtain ⟨hP, hD⟩ := va_joinP (X := []) (cx := []) (wr := []) (rx := []) (pl := va_pl L f) (pl1 := va_pl L f_5) hP hD [] [] rfl rfl (by decide) (by decide) hk1 hFc hP1 hD1
  have hT := hf_x_6
  generalize H1 = H at hP hS ⊢
  have hP : va_P (dC, dI) vwCl ([] ++ va_pl L f_5) H := hP
  have hD : va_D A ([] ++ va_pl L f_5) := hD
  have hFr_9 := AG.tr AG.rf hf_x_7
  refine W.widen (k := 0) (n := 0) (Nat.le_of_ble_eq_true rfl) (Nat.le_of_ble_eq_true rfl) ?_
  try dsimp only at hw
  subst hw
  refine lv_iconst (v := (-1)) hx hb dX3_findWay_6 (by decide) ?_
  refine lv_icmp_ne (tgt := 12) hx hb dX3_findWay_7 (by decide) (fun c_10 => ?_) (fun c_10 => ?_)
  · refine lv_iconst (v := 0) hx hb dX3_findWay_12 (by decide) ?_
    obtain ⟨uu9, vv9, huu9, hvv9, rfl, rfl, hL9, hX9, hf9⟩ := LG_o hf_x_8 c_10
    obtain ⟨gg9, egg9⟩ : ∃ g9 : Nat → Int32, S_4 496 0 = g9 := ⟨_, rfl⟩
    rw [egg9] at hL9 hX9 hf9
    refine lv_istore_n (lv' := [(3, .int 0), (0, .ref h0), (1, .int (nI uu9)), (2, .int (nI vv9))]) hx hb dX3_findWay_13 rfl hl (by decide) rfl (fun ls hl => ?_)
    refine lv_iload_n hx hb dX3_findWay_14 rfl (lv_at hl 2 rfl) ?_
    refine lv_istore (lv' := [(4, .int (nI uu9)), (3, .int 0), (0, .ref h0), (1, .int (nI uu9)), (2, .int (nI vv9))]) hx hb dX3_findWay_15 hl (by decide) rfl (fun ls hl => ?_)
    have HL : ∀ (n k : Nat) (x4 : Int32) (pp : Nat → Nat) (S8 : Nat → Nat → Nat → Int32), k ≤ 11 → 11 + 1 ≤ k + n → (AG S S8) → (PT S gg9 uu9 vv9 k pp) → (x4 = nI (pp k)) → (∀ j, j < k → S8 528 0 j = nI (pp j)) → (S8 496 0 = gg9) → ∀ (f_11 : Nat → va_E) (H : Heap) (locs : List Loc), tB L ka ix ad cs n0 n6 n2 S8 f_11 → va_P (dC, dI) vwCl ([] ++ va_pl L f_11) H → va_D A ([] ++ va_pl L f_11) → va_S A s.heap H locs → ∀ ls : Array Slot, lv_has ls 5 [(0, .ref h0), (1, .int (nI uu9)), (2, .int (nI vv9)), (3, .int (nI k)), (4, .int x4)] → W p l e (headSpec wsX3_findWay ({ frames := 5, cells := 1, slots := 12, locals := 110 })).room s m ([.ref h0, .int (nI uu9), .int (nI vv9)]).toArray below meth c H locs 0 0 (MQ below (va_Qq (fun (r u9 : Option Nat) => r = u9) (fun (u9 : Option Nat) t9 => ∃ (L2 : List Nat) (ka2 : Nat → Nat) (ix2 : Nat → Nat) (ad2 : Nat → Nat → Nat) (S2 : Nat → Nat → Nat → Int32) (f2 : Nat → va_E), (eX L ka ix L2 ka2 ix2) ∧ (tB L2 ka2 ix2 ad2 cs n0 n6 n2 S2 f2) ∧ (AG S S2) ∧ (WY L2 ka2 ix2 S S2 (nI uu9) (nI vv9) u9) ∧ cQ dC dI ([] ++ va_pl L2 f2) [] A t9) A) ([.ref h0, .int (nI uu9), .int (nI vv9)]).toArray s 1 12 A) (F0 m 17 ls []) := by
      intro n
      induction n with
      | zero => intro k x4 pp S8 h1 h2; exact absurd h2 (by omega)
      | succ n ih =>
        intro k x4 pp S8 hk hn hFrS8 hPT hx4 hRW h496 f_11 H locs hT hP hD hS ls hl
        refine lv_iload_n hx hb dX3_findWay_17 rfl (lv_at hl 3 rfl) ?_
        subst hx4
        have hpk12 : pp k < 12 := hPT.2.2 k (Nat.le_refl _)
        refine lv_bipush (v := 11) hx hb dX3_findWay_18 (by decide) ?_
        refine lv_icmp_ge (tgt := 51) hx hb dX3_findWay_20 (by decide) (fun c_12 => ?_) (fun c_12 => ?_)
        · have hke : k = 11 := by
            rcases Nat.lt_or_ge k 11 with q | q
            · exact absurd c_12 (nI_ge q (by decide))
            · omega
          refine lv_aload_n hx hb dX3_findWay_51 rfl (lv_at hl 0 rfl) ?_
          have hf_13 : f_11 h0 = .inr (3, [.ref (ad 24 0), .ref (ad 25 0), .ref (ad 31 0), .ref (ad 32 0), .ref (ad 33 0)]) := hT.get hk_h0
          obtain ⟨q_14, hq_14⟩ := pl_at (X := []) (f := f_11) (e := .inr (3, [.ref (ad 24 0), .ref (ad 25 0), .ref (ad 31 0), .ref (ad 32 0), .ref (ad 33 0)])) hk_h0.1 hf_13
          refine va_get (D := (dC, dI)) (ci := 3) (v := .ref (ad 33 0)) (C := RX3) (T := TX3) (N := 5) hx hb hts hin3 hown hK hP q_14 hq_14 rfl 4 (by decide) (hts (.fieldLink RX3 27 "YamRiders$Roads" "row" "[I") (by decide +kernel)) (fun _ h9 => h9) rfl dX3_findWay_52 ?_
          refine lv_iload_n hx hb dX3_findWay_55 rfl (lv_at hl 3 rfl) ?_
          refine lv_iload hx hb dX3_findWay_56 (lv_at hl 4 rfl) ?_
          have hf_15 : f_11 (ad 33 0) = .inl (cs 0, 12, .inl (S8 528 0)) := hT.get (hT.kf (k := 33) (by decide))
          obtain ⟨q_16, hq_16⟩ := pl_at (X := []) (f := f_11) (e := .inl (cs 0, 12, .inl (S8 528 0))) (hT.kf (k := 33) (by decide)).1 hf_15
          refine va_iast hx hb hK hP hD hS q_16 0 hq_16 rfl (vp_in_nI (by omega) (by omega)) dX3_findWay_58 (fun H locs hP9 hD9 hS => ?_)
          have hs_17 := pl_st (.inl (cs 0, 12, .inl (upd (S8 528 0) (nI k).toNatClampNeg (nI (pp k))))) hD (hT.kf (k := 33) (by decide)).1 hf_15 hq_16
          have hP9 : va_P (dC, dI) vwCl ((([] : va_W) ++ va_pl L f_11).set q_16 ((ad 33 0), .inl (cs 0, 12, .inl (upd (S8 528 0) (nI k).toNatClampNeg (nI (pp k)))))) H := hP9
          have hD9 : va_D A ((([] : va_W) ++ va_pl L f_11).set q_16 ((ad 33 0), .inl (cs 0, 12, .inl (upd (S8 528 0) (nI k).toNatClampNeg (nI (pp k)))))) := hD9
          rw [hs_17] at hP9 hD9
          have hT := hT.up (c := 528) (j := k) (v := (nI (pp k))) (e := .inl (cs 0, 12, .inl (upd (S8 528 0) (nI k).toNatClampNeg (nI (pp k))))) (hT.kf (k := 33) (by decide)) rfl (hT.2.2.up (by decide) (by decide) (by decide)) (by simp only [EN]; rw [up3_a, (nI_clamp (by omega))])
          have hP := hP9
          have hD := hD9
          clear hP9 hD9 hs_17
          obtain ⟨S_19, eS_19⟩ : ∃ S9 : Nat → Nat → Nat → Int32, S9 = up3 S8 528 0 k (nI (pp k)) := ⟨_, rfl⟩
          rw [← eS_19] at hT
          generalize va_up f_11 (ad 33 0) (.inl (cs 0, 12, .inl (upd (S8 528 0) (nI k).toNatClampNeg (nI (pp k))))) = f_18 at hP hD hT
          have hFr_20 : AG S S_19 := by rw [eS_19]; exact AG.up hFrS8 (by decide)
          refine lv_aload_n hx hb dX3_findWay_59 rfl (lv_at hl 0 rfl) ?_
          have hf_21 : f_18 h0 = .inr (3, [.ref (ad 24 0), .ref (ad 25 0), .ref (ad 31 0), .ref (ad 32 0), .ref (ad 33 0)]) := hT.get hk_h0
          obtain ⟨q_22, hq_22⟩ := pl_at (X := []) (f := f_18) (e := .inr (3, [.ref (ad 24 0), .ref (ad 25 0), .ref (ad 31 0), .ref (ad 32 0), .ref (ad 33 0)])) hk_h0.1 hf_21
          refine va_get (D := (dC, dI)) (ci := 3) (v := .ref (ad 33 0)) (C := RX3) (T := TX3) (N := 5) hx hb hts hin3 hown hK hP q_22 hq_22 rfl 4 (by decide) (hts (.fieldLink RX3 27 "YamRiders$Roads" "row" "[I") (by decide +kernel)) (fun _ h9 => h9) rfl dX3_findWay_60 ?_
          refine lv_iload_n hx hb dX3_findWay_63 rfl (lv_at hl 3 rfl) ?_
          refine lv_iconst (v := 1) hx hb dX3_findWay_64 (by decide) ?_
          refine lv_iadd hx hb dX3_findWay_65 ?_
          refine lv_topi (fun y_23 ey_23 => ?_)
          obtain rfl : y_23 = nI (k + 1) := ey_23.trans (nI_1 k)
          have hPc := hP.part (cx := []) [] rfl
          have hDc := hD.part (cx := []) [] (by decide) rfl
          have hKc := hK
          have hFc := va_freeP (cx := []) hD hS hA [] rfl
          refine va_callq (va_runS (As := [.ref (ad 33 0), .int (nI (k + 1))]) (rest := []) ⟨hx, hb, hml, hown, hts⟩ (e_J7_copyOf l dC dI cs L ka ix ad n0 n6 n2 S_19 f_18 (ad 33 0) (k + 1) H.size hT (hT.kf (k := 33) (by decide)) (by omega)) (va_cwS 2 hts gX3_findWay_J7_copyOf_59c91 rfl rfl rfl (by decide +kernel) ⟨Nat.le_of_ble_eq_true rfl, Nat.le_of_ble_eq_true rfl⟩) ⟨c_blind, c_pre hPc hKc hDc hN⟩ rfl rfl hl.1 rfl (lv_room (Nat.le_of_ble_eq_true rfl)) dX3_findWay_66 ⟨Nat.le_of_ble_eq_true rfl, Nat.le_of_ble_eq_true rfl⟩) hS (fun q _ h => hFc q h) hFc (fun r_24 u9 t9 H1 locs ht hvm hw hB hz1 hk1 hS => ?_)
          try dsimp only at hw
          subst hw
          obtain ⟨L_25, ka_26, ix_27, ad_28, S_29, f_30, hf_x_31, hf_x_32, hf_x_33, hf_x_34, hP1, hK1, hD1⟩ := hB
          rw [ht] at hP1
          have hK1 := va_K.moved hvm.symm hK1
          obtain ⟨hP, hD⟩ := va_joinP (X := []) (cx := []) (wr := []) (rx := []) (pl := va_pl L f_18) (pl1 := va_pl L_25 f_30) hP hD [] [] rfl rfl (by decide) (by decide) hk1 hFc hP1 hD1
          have hTo := hT
          have hT := hf_x_32
          have hl_35 := hf_x_31 _ _ _ (by decide) hk_h0
          have hl_36 := hf_x_31 _ _ _ (by decide) (hTo.kf (k := 33) (by decide))
          generalize H1 = H at hP hS ⊢
          have hP : va_P (dC, dI) vwCl ([] ++ va_pl L_25 f_30) H := hP
          have hD : va_D A ([] ++ va_pl L_25 f_30) := hD
          have hFr_37 := AG.tr hFr_20 hf_x_33
          refine W.widen (k := 1) (n := 12) (Nat.le_of_ble_eq_true rfl) (Nat.le_of_ble_eq_true rfl) ?_
          obtain ⟨q_38, j_39, rfl, hk_40, hl_41, hr_42⟩ := hf_x_34
          refine W.eq (g2 := F0 m 69 ls [.ref q_38]) rfl ?_
          have hP9 := hP.part (cx := []) [] rfl
          have hD9 := hD.part (cx := []) [] (by decide) rfl
          have hK9 := hK.sub (tys' := []) [] rfl
          refine W.widen (k := 1) (n := 12) (Nat.le_of_ble_eq_true rfl) (Nat.le_of_ble_eq_true rfl) ?_
          exact W.aret (v := .ref q_38) hx hb hr (by first | exact Or.inl ⟨_, rfl⟩ | exact Or.inr ⟨_, rfl⟩) (Or.inr ⟨_, rfl⟩) (fun t9 ht hW => ⟨⟨(some q_38), (some q_38), rfl, rfl, L_25, ka_26, ix_27, ad_28, S_29, f_30, hf_x_31, hT, hFr_37, (Or.inr ⟨_, j_39, (k + 1), rfl, hk_40, hl_41, by omega, uu9, vv9, gg9, huu9, hvv9, rfl, rfl, hL9, hX9, hf9, pp, k, rfl, by omega, hPT, (by have h9 := hPT; rw [hke] at h9 ⊢; exact PT_11 hRg hL9 hX9 h9 hf9), fun j9 hj9 => by rw [hr_42 j9 (by omega), eS_19, up3_a]; exact (if q : j9 = k then (by rw [q, up_s]) else (by rw [up_n q]; exact hRW j9 (by omega)))⟩), by rw [ht]; exact hP9, va_K.moved hW.alike hK9, hD9⟩, hS.F ht⟩) hS.2.2 dX3_findWay_69
        · have hlt : k < 11 := by
            rcases Nat.lt_or_ge k 11 with q | q
            · exact q
            · exact absurd (show nI 11 ≤ nI k from nI_le q (by omega)) c_12
          refine lv_iload hx hb dX3_findWay_23 (lv_at hl 4 rfl) ?_
          refine lv_iload_n hx hb dX3_findWay_25 rfl (lv_at hl 2 rfl) ?_
          refine lv_icmp_eq (tgt := 51) hx hb dX3_findWay_26 (by decide) (fun c_43 => ?_) (fun c_43 => ?_)
          · refine lv_aload_n hx hb dX3_findWay_51 rfl (lv_at hl 0 rfl) ?_
            have hf_44 : f_11 h0 = .inr (3, [.ref (ad 24 0), .ref (ad 25 0), .ref (ad 31 0), .ref (ad 32 0), .ref (ad 33 0)]) := hT.get hk_h0
            obtain ⟨q_45, hq_45⟩ := pl_at (X := []) (f := f_11) (e := .inr (3, [.ref (ad 24 0), .ref (ad 25 0), .ref (ad 31 0), .ref (ad 32 0), .ref (ad 33 0)])) hk_h0.1 hf_44
            refine va_get (D := (dC, dI)) (ci := 3) (v := .ref (ad 33 0)) (C := RX3) (T := TX3) (N := 5) hx hb hts hin3 hown hK hP q_45 hq_45 rfl 4 (by decide) (hts (.fieldLink RX3 27 "YamRiders$Roads" "row" "[I") (by decide +kernel)) (fun _ h9 => h9) rfl dX3_findWay_52 ?_
            refine lv_iload_n hx hb dX3_findWay_55 rfl (lv_at hl 3 rfl) ?_
            refine lv_iload hx hb dX3_findWay_56 (lv_at hl 4 rfl) ?_
            have hf_46 : f_11 (ad 33 0) = .inl (cs 0, 12, .inl (S8 528 0)) := hT.get (hT.kf (k := 33) (by decide))
            obtain ⟨q_47, hq_47⟩ := pl_at (X := []) (f := f_11) (e := .inl (cs 0, 12, .inl (S8 528 0))) (hT.kf (k := 33) (by decide)).1 hf_46
            refine va_iast hx hb hK hP hD hS q_47 0 hq_47 rfl (vp_in_nI (by omega) (by omega)) dX3_findWay_58 (fun H locs hP9 hD9 hS => ?_)
            have hs_48 := pl_st (.inl (cs 0, 12, .inl (upd (S8 528 0) (nI k).toNatClampNeg (nI (pp k))))) hD (hT.kf (k := 33) (by decide)).1 hf_46 hq_47
            have hP9 : va_P (dC, dI) vwCl ((([] : va_W) ++ va_pl L f_11).set q_47 ((ad 33 0), .inl (cs 0, 12, .inl (upd (S8 528 0) (nI k).toNatClampNeg (nI (pp k)))))) H := hP9
            have hD9 : va_D A ((([] : va_W) ++ va_pl L f_11).set q_47 ((ad 33 0), .inl (cs 0, 12, .inl (upd (S8 528 0) (nI k).toNatClampNeg (nI (pp k)))))) := hD9
            rw [hs_48] at hP9 hD9
            have hT := hT.up (c := 528) (j := k) (v := (nI (pp k))) (e := .inl (cs 0, 12, .inl (upd (S8 528 0) (nI k).toNatClampNeg (nI (pp k))))) (hT.kf (k := 33) (by decide)) rfl (hT.2.2.up (by decide) (by decide) (by decide)) (by simp only [EN]; rw [up3_a, (nI_clamp (by omega))])
            have hP := hP9
            have hD := hD9
            clear hP9 hD9 hs_48
            obtain ⟨S_50, eS_50⟩ : ∃ S9 : Nat → Nat → Nat → Int32, S9 = up3 S8 528 0 k (nI (pp k)) := ⟨_, rfl⟩
            rw [← eS_50] at hT
            generalize va_up f_11 (ad 33 0) (.inl (cs 0, 12, .inl (upd (S8 528 0) (nI k).toNatClampNeg (nI (pp k))))) = f_49 at hP hD hT
            have hFr_51 : AG S S_50 := by rw [eS_50]; exact AG.up hFrS8 (by decide)
            refine lv_aload_n hx hb dX3_findWay_59 rfl (lv_at hl 0 rfl) ?_
            have hf_52 : f_49 h0 = .inr (3, [.ref (ad 24 0), .ref (ad 25 0), .ref (ad 31 0), .ref (ad 32 0), .ref (ad 33 0)]) := hT.get hk_h0
            obtain ⟨q_53, hq_53⟩ := pl_at (X := []) (f := f_49) (e := .inr (3, [.ref (ad 24 0), .ref (ad 25 0), .ref (ad 31 0), .ref (ad 32 0), .ref (ad 33 0)])) hk_h0.1 hf_52
            refine va_get (D := (dC, dI)) (ci := 3) (v := .ref (ad 33 0)) (C := RX3) (T := TX3) (N := 5) hx hb hts hin3 hown hK hP q_53 hq_53 rfl 4 (by decide) (hts (.fieldLink RX3 27 "YamRiders$Roads" "row" "[I") (by decide +kernel)) (fun _ h9 => h9) rfl dX3_findWay_60 ?_
            refine lv_iload_n hx hb dX3_findWay_63 rfl (lv_at hl 3 rfl) ?_
            refine lv_iconst (v := 1) hx hb dX3_findWay_64 (by decide) ?_
            refine lv_iadd hx hb dX3_findWay_65 ?_
            refine lv_topi (fun y_54 ey_54 => ?_)
            obtain rfl : y_54 = nI (k + 1) := ey_54.trans (nI_1 k)
            have hPc := hP.part (cx := []) [] rfl
            have hDc := hD.part (cx := []) [] (by decide) rfl
            have hKc := hK
            have hFc := va_freeP (cx := []) hD hS hA [] rfl
            refine va_callq (va_runS (As := [.ref (ad 33 0), .int (nI (k + 1))]) (rest := []) ⟨hx, hb, hml, hown, hts⟩ (e_J7_copyOf l dC dI cs L ka ix ad n0 n6 n2 S_50 f_49 (ad 33 0) (k + 1) H.size hT (hT.kf (k := 33) (by decide)) (by omega)) (va_cwS 2 hts gX3_findWay_J7_copyOf_59c91 rfl rfl rfl (by decide +kernel) ⟨Nat.le_of_ble_eq_true rfl, Nat.le_of_ble_eq_true rfl⟩) ⟨c_blind, c_pre hPc hKc hDc hN⟩ rfl rfl hl.1 rfl (lv_room (Nat.le_of_ble_eq_true rfl)) dX3_findWay_66 ⟨Nat.le_of_ble_eq_true rfl, Nat.le_of_ble_eq_true rfl⟩) hS (fun q _ h => hFc q h) hFc (fun r_55 u9 t9 H1 locs ht hvm hw hB hz1 hk1 hS => ?_)
            try dsimp only at hw
            subst hw
            obtain ⟨L_56, ka_57, ix_58, ad_59, S_60, f_61, hf_x_62, hf_x_63, hf_x_64, hf_x_65, hP1, hK1, hD1⟩ := hB
            rw [ht] at hP1
            have hK1 := va_K.moved hvm.symm hK1
            obtain ⟨hP, hD⟩ := va_joinP (X := []) (cx := []) (wr := []) (rx := []) (pl := va_pl L f_49) (pl1 := va_pl L_56 f_61) hP hD [] [] rfl rfl (by decide) (by decide) hk1 hFc hP1 hD1
            have hTo := hT
            have hT := hf_x_63
            have hl_66 := hf_x_62 _ _ _ (by decide) hk_h0
            have hl_67 := hf_x_62 _ _ _ (by decide) (hTo.kf (k := 33) (by decide))
            generalize H1 = H at hP hS ⊢
            have hP : va_P (dC, dI) vwCl ([] ++ va_pl L_56 f_61) H := hP
            have hD : va_D A ([] ++ va_pl L_56 f_61) := hD
            have hFr_68 := AG.tr hFr_51 hf_x_64
            refine W.widen (k := 1) (n := 12) (Nat.le_of_ble_eq_true rfl) (Nat.le_of_ble_eq_true rfl) ?_
            obtain ⟨q_69, j_70, rfl, hk_71, hl_72, hr_73⟩ := hf_x_65
            refine W.eq (g2 := F0 m 69 ls [.ref q_69]) rfl ?_
            have hP9 := hP.part (cx := []) [] rfl
            have hD9 := hD.part (cx := []) [] (by decide) rfl
            have hK9 := hK.sub (tys' := []) [] rfl
            refine W.widen (k := 1) (n := 12) (Nat.le_of_ble_eq_true rfl) (Nat.le_of_ble_eq_true rfl) ?_
            exact W.aret (v := .ref q_69) hx hb hr (by first | exact Or.inl ⟨_, rfl⟩ | exact Or.inr ⟨_, rfl⟩) (Or.inr ⟨_, rfl⟩) (fun t9 ht hW => ⟨⟨(some q_69), (some q_69), rfl, rfl, L_56, ka_57, ix_58, ad_59, S_60, f_61, hf_x_62, hT, hFr_68, (Or.inr ⟨_, j_70, (k + 1), rfl, hk_71, hl_72, by omega, uu9, vv9, gg9, huu9, hvv9, rfl, rfl, hL9, hX9, hf9, pp, k, rfl, by omega, hPT, (nI_inJ c_43 (by have h9 := hPT.2.2 k (Nat.le_refl _); omega) (by omega)), fun j9 hj9 => by rw [hr_73 j9 (by omega), eS_50, up3_a]; exact (if q : j9 = k then (by rw [q, up_s]) else (by rw [up_n q]; exact hRW j9 (by omega)))⟩), by rw [ht]; exact hP9, va_K.moved hW.alike hK9, hD9⟩, hS.F ht⟩) hS.2.2 dX3_findWay_69
          · refine lv_aload_n hx hb dX3_findWay_29 rfl (lv_at hl 0 rfl) ?_
            have hf_74 : f_11 h0 = .inr (3, [.ref (ad 24 0), .ref (ad 25 0), .ref (ad 31 0), .ref (ad 32 0), .ref (ad 33 0)]) := hT.get hk_h0
            obtain ⟨q_75, hq_75⟩ := pl_at (X := []) (f := f_11) (e := .inr (3, [.ref (ad 24 0), .ref (ad 25 0), .ref (ad 31 0), .ref (ad 32 0), .ref (ad 33 0)])) hk_h0.1 hf_74
            refine va_get (D := (dC, dI)) (ci := 3) (v := .ref (ad 33 0)) (C := RX3) (T := TX3) (N := 5) hx hb hts hin3 hown hK hP q_75 hq_75 rfl 4 (by decide) (hts (.fieldLink RX3 27 "YamRiders$Roads" "row" "[I") (by decide +kernel)) (fun _ h9 => h9) rfl dX3_findWay_30 ?_
            refine lv_iload_n hx hb dX3_findWay_33 rfl (lv_at hl 3 rfl) ?_
            refine lv_iload hx hb dX3_findWay_34 (lv_at hl 4 rfl) ?_
            have hf_76 : f_11 (ad 33 0) = .inl (cs 0, 12, .inl (S8 528 0)) := hT.get (hT.kf (k := 33) (by decide))
            obtain ⟨q_77, hq_77⟩ := pl_at (X := []) (f := f_11) (e := .inl (cs 0, 12, .inl (S8 528 0))) (hT.kf (k := 33) (by decide)).1 hf_76
            refine va_iast hx hb hK hP hD hS q_77 0 hq_77 rfl (vp_in_nI (by omega) (by omega)) dX3_findWay_36 (fun H locs hP9 hD9 hS => ?_)
            have hs_78 := pl_st (.inl (cs 0, 12, .inl (upd (S8 528 0) (nI k).toNatClampNeg (nI (pp k))))) hD (hT.kf (k := 33) (by decide)).1 hf_76 hq_77
            have hP9 : va_P (dC, dI) vwCl ((([] : va_W) ++ va_pl L f_11).set q_77 ((ad 33 0), .inl (cs 0, 12, .inl (upd (S8 528 0) (nI k).toNatClampNeg (nI (pp k)))))) H := hP9
            have hD9 : va_D A ((([] : va_W) ++ va_pl L f_11).set q_77 ((ad 33 0), .inl (cs 0, 12, .inl (upd (S8 528 0) (nI k).toNatClampNeg (nI (pp k)))))) := hD9
            rw [hs_78] at hP9 hD9
            have hT := hT.up (c := 528) (j := k) (v := (nI (pp k))) (e := .inl (cs 0, 12, .inl (upd (S8 528 0) (nI k).toNatClampNeg (nI (pp k))))) (hT.kf (k := 33) (by decide)) rfl (hT.2.2.up (by decide) (by decide) (by decide)) (by simp only [EN]; rw [up3_a, (nI_clamp (by omega))])
            have hP := hP9
            have hD := hD9
            clear hP9 hD9 hs_78
            obtain ⟨S_80, eS_80⟩ : ∃ S9 : Nat → Nat → Nat → Int32, S9 = up3 S8 528 0 k (nI (pp k)) := ⟨_, rfl⟩
            rw [← eS_80] at hT
            generalize va_up f_11 (ad 33 0) (.inl (cs 0, 12, .inl (upd (S8 528 0) (nI k).toNatClampNeg (nI (pp k))))) = f_79 at hP hD hT
            have hFr_81 : AG S S_80 := by rw [eS_80]; exact AG.up hFrS8 (by decide)
            refine lv_iinc (v := nI (k + 1)) (lv' := [(3, .int (nI (k + 1))), (0, .ref h0), (1, .int (nI uu9)), (2, .int (nI vv9)), (4, .int (nI (pp k)))]) hx hb dX3_findWay_37 hl (k := 3) rfl (by exact (nI_1 k)) (by decide) rfl (fun ls hl => ?_)
            refine lv_aload_n hx hb dX3_findWay_40 rfl (lv_at hl 1 rfl) ?_
            refine lv_iload hx hb dX3_findWay_41 (lv_at hl 4 rfl) ?_
            have hPc := hP.part (cx := []) [] rfl
            have hDc := hD.part (cx := []) [] (by decide) rfl
            have hKc := hK
            have hf_82 : f_79 h0 = .inr (3, [.ref (ad 24 0), .ref (ad 25 0), .ref (ad 31 0), .ref (ad 32 0), .ref (ad 33 0)]) := hT.get hk_h0
            obtain ⟨q_83, hq_83⟩ := pl_at (X := []) (f := f_79) (e := .inr (3, [.ref (ad 24 0), .ref (ad 25 0), .ref (ad 31 0), .ref (ad 32 0), .ref (ad 33 0)])) hk_h0.1 hf_82
            refine cs_i (va_runV (As := [.int (nI (pp k))]) (rest := []) ⟨hx, hb, hml, hown, hts⟩ (e_X3_stepFrom l dC dI cs L ka ix ad n0 n6 n2 S_80 f_79 h0 (pp k) H.size hT hk_h0 (by omega)) (cwV 1 hts gX3_findWay_X3_stepFrom rfl rfl rfl (by decide +kernel) ⟨Nat.le_of_ble_eq_true rfl, Nat.le_of_ble_eq_true rfl⟩) ⟨c_blind, va_recv hKc hPc (ci := 3) (q0 := q_83) rfl hq_83, c_pre hPc hKc hDc hN⟩ rfl rfl hl.1 rfl (lv_room (Nat.le_of_ble_eq_true rfl)) dX3_findWay_43 ⟨Nat.le_of_ble_eq_true rfl, Nat.le_of_ble_eq_true rfl⟩) (fun r_84 hr_84 => ?_)
            refine lv_istore (lv' := [(4, .int r_84), (3, .int (nI (k + 1))), (0, .ref h0), (1, .int (nI uu9)), (2, .int (nI vv9))]) hx hb dX3_findWay_46 hl (by decide) rfl (fun ls hl => ?_)
            refine lv_goto (tgt := 17) hx hb dX3_findWay_48 (by decide) ?_
            have hne8 : ¬ pp k = vv9 := fun q => c_43 (by rw [q])
            have hST := hr_84
            have hst8 : ∃ y, y < 12 ∧ r_84 = nI y ∧ NXs S gg9 (pp k) y := FW_y (AG.fr hFrS8) h496 (by rw [eS_80, up3_c (by decide)]) (by rw [eS_80]; exact FR.up FR.rf (by decide) (by decide)) hRg hL9 hX9 hPT hf9 hne8 hST
            obtain ⟨y8, hy8, ey8, hNX8⟩ := hst8
            exact ih (k + 1) r_84 (pnx pp k y8) S_80 (by omega) (by omega) hFr_81 (PT_s hPT hne8 hy8 hNX8) (by rw [pnx_s]; exact ey8) (fun j hj => by rw [eS_80, up3_a]; exact (if q : j = k then (by rw [q, up_s, pnx_o (Nat.le_refl _)]) else (by rw [up_n q, pnx_o (by omega)]; exact hRW j (by omega)))) (by rw [eS_80, up3_c (by decide)]; exact h496) _ _ _ hT (hP.part (cx := _) [] rfl) (hD.part (cx := _) [] (by decide) rfl) hS ls (lv_sub hl [2, 3, 4, 1, 0] rfl)
    exact HL 12 0 (nI uu9) (fun _ => uu9) S_4 (by omega) (by omega) hFr_9 (PT_0 huu9) rfl (fun _ w => absurd w (Nat.not_lt_zero _)) egg9 _ _ _ hT (hP.part (cx := _) [] rfl) (hD.part (cx := _) [] (by decide) rfl) hS ls (lv_sub hl [2, 3, 4, 1, 0] rfl)
  · refine lv_null hx hb dX3_findWay_10 ?_
    have hP9 := hP.part (cx := []) [] rfl
    have hD9 := hD.part (cx := []) [] (by decide) rfl
    have hK9 := hK.sub (tys' := []) [] rfl
    refine W.widen (k := 1) (n := 12) (Nat.le_of_ble_eq_true rfl) (Nat.le_of_ble_eq_true rfl) ?_
    exact W.aret (v := .null) hx hb hr (by first | exact Or.inl ⟨_, rfl⟩ | exact Or.inr ⟨_, rfl⟩) (Or.inl rfl) (fun t9 ht hW => ⟨⟨none, none, rfl, rfl, L, ka, ix, ad, S_4, f_5, (fun _ _ _ _ h => h), hT, hFr_9, (Or.inl ⟨rfl, LG_n hf_x_8 c_10⟩), by rw [ht]; exact hP9, va_K.moved hW.alike hK9, hD9⟩, hS.F ht⟩) hS.2.2 dX3_findWay_11

set_option maxHeartbeats 4000000 in
set_option maxRecDepth 100000 in
theorem e_X2_stationOfWayX (l : Launch) (dC : Nat → ClassId) (dI : Nat → Nat → Nat) (cs : Nat → ClassId) (L : List Nat) (ka : Nat → Nat) (ix : Nat → Nat) (ad : Nat → Nat → Nat) (n0 : Nat) (n6 : Nat) (n2 : Nat) (S : Nat → Nat → Nat → Int32) (f : Nat → va_E) (j9 : Nat) (h0 : Nat) (s1 : Nat) (s2 : Nat) (o_tablet : Int32) (o_rank : Int32) (o_state : Int32) (o_reached : Int32) (o_came : Int32) (o_left : Int32) (o_time : Int32) (w9 : Nat) (u0 : Nat) (sz : Nat) (hT : tB L ka ix ad cs n0 n6 n2 S f) (hk_s1 : tpx L ka ix 38 j9 s1) (hl38 : S 609 j9 0 = nI w9) (hw38 : w9 ≤ 12) (hu0 : u0 < 12) (hw1 : 1 ≤ w9) (e0 : S 608 j9 0 = nI u0) : Met l yX2_stationOfWay wsX2_stationOfWay ({ frames := 0, cells := 0, slots := 0, locals := 0 }) (va_Pc [.ref h0, .int 0] (cP dC dI ([(h0, .inr (2, [.int o_tablet, .int o_rank, .ref s1, .ref s2, .int o_state, .int o_reached, .int o_came, .null, .int o_left, .int o_time]))] ++ va_pl L f) (tyC cs) sz)) (vp_Si (fun r => r = nI u0)) 0 0 (fun _ => False) := by
  refine Met.ofW (cc := cX2_stationOfWay) (maxL := 2) (ret := (some .int)) (by decide) rfl ?_
  intro p e s m args below meth c s₁ B hml hv
  obtain ⟨rfl, hsz, hP, hK, hD0, hN⟩ := hv
  have hx := B.exec
  have hb := B.bytes
  have hr := B.returns
  have hts := atoms_spec (ws := wsX2_stationOfWay) B.pre
  have hown : s.vm.findClass RX2 = some m.cls := findClass_of_methodNamed B.named
  have hlocks := B.notSynchronized
  subst hsz
  have hin2 : ∀ w ∈ u_ws RX2 TX2 10, w ∈ wsX2_stationOfWay := by decide +kernel
  have hD := hD0
  have hP : va_P (dC, dI) vwCl ([(h0, .inr (2, [.int o_tablet, .int o_rank, .ref s1, .ref s2, .int o_state, .int o_reached, .int o_came, .null, .int o_left, .int o_time]))] ++ va_pl L f) s.heap := hP
  have hl := lv_entry ([.ref h0, .int 0]) (n := 2) (Nat.le_of_ble_eq_true rfl)
  rw [lg_entry_eq]
  generalize (lg_sl ([.ref h0, .int 0]) ++ List.replicate (2 - (lg_sl ([.ref h0, .int 0])).length) Slot.unset).toArray = ls at hl ⊢
  have hl : lv_has ls 2 [(0, .ref h0), (1, .int 0)] := hl
  refine lv_iload_n hx hb dX2_stationOfWay_0 rfl (lv_at hl 1 rfl) ?_
  refine lv_if_lt (tgt := 22) hx hb dX2_stationOfWay_1 (by decide) (fun c_1 => by first | exact absurd c_1 (by decide) | exact absurd (by decide) c_1) (fun _ => ?_)
  refine lv_iload_n hx hb dX2_stationOfWay_4 rfl (lv_at hl 1 rfl) ?_
  refine lv_aload_n hx hb dX2_stationOfWay_5 rfl (lv_at hl 0 rfl) ?_
  refine va_get (D := (dC, dI)) (ci := 2) (v := .ref s1) (C := RX2) (T := TX2) (N := 10) hx hb hts hin2 hown hK hP 0 rfl rfl 2 (by decide) (hts (.fieldLink RX2 25 "YamRiders$Rider" "stations" "[I") (by decide +kernel)) (fun _ h9 => h9) rfl dX2_stationOfWay_6 ?_
  have hf_2 : f s1 = .inl (cs 0, w9, .inl (S 608 j9)) := (hT.get hk_s1).trans (by simp only [EN]; rw [hl38, nI_clamp (by omega)])
  obtain ⟨q_3, hq_3⟩ := pl_at (X := [(h0, .inr (2, [.int o_tablet, .int o_rank, .ref s1, .ref s2, .int o_state, .int o_reached, .int o_came, .null, .int o_left, .int o_time]))]) (f := f) (e := .inl (cs 0, w9, .inl (S 608 j9))) hk_s1.1 hf_2
  refine va_alen (v := nI w9) hx hb hK hP q_3 0 hq_3 rfl rfl dX2_stationOfWay_9 ?_
  refine lv_icmp_ge (tgt := 22) hx hb dX2_stationOfWay_10 (by decide) (fun c_4 => by first | exact absurd c_4 (fun w => absurd (nI_z w (by omega)) (by omega)) | exact absurd (fun w => absurd (nI_z w (by omega)) (by omega)) c_4) (fun _ => ?_)
  refine lv_aload_n hx hb dX2_stationOfWay_13 rfl (lv_at hl 0 rfl) ?_
  refine va_get (D := (dC, dI)) (ci := 2) (v := .ref s1) (C := RX2) (T := TX2) (N := 10) hx hb hts hin2 hown hK hP 0 rfl rfl 2 (by decide) (hts (.fieldLink RX2 25 "YamRiders$Rider" "stations" "[I") (by decide +kernel)) (fun _ h9 => h9) rfl dX2_stationOfWay_14 ?_
  refine lv_iload_n hx hb dX2_stationOfWay_17 rfl (lv_at hl 1 rfl) ?_
  obtain ⟨q_5, hq_5⟩ := pl_at (X := [(h0, .inr (2, [.int o_tablet, .int o_rank, .ref s1, .ref s2, .int o_state, .int o_reached, .int o_came, .null, .int o_left, .int o_time]))]) (f := f) (e := .inl (cs 0, w9, .inl (S 608 j9))) hk_s1.1 hf_2
  refine va_iald hx hb hK hP q_5 0 hq_5 rfl (show vp_in (nI 0) w9 from vp_in_nI (by omega) (by omega)) dX2_stationOfWay_18 ?_
  refine lv_topi (fun v_6 ev_6 => ?_)
  obtain rfl : v_6 = S 608 j9 0 := ev_6.trans rfl
  refine lv_goto (tgt := 23) hx hb dX2_stationOfWay_19 (by decide) ?_
  exact W.iret (v := S 608 j9 0) hx hb hr (fun t9 ht hW => ⟨_, rfl, e0, ht⟩) (fun q h => nomatch h) dX2_stationOfWay_23

set_option maxHeartbeats 4000000 in
set_option maxRecDepth 100000 in
theorem e_X2_nextStationX (l : Launch) (dC : Nat → ClassId) (dI : Nat → Nat → Nat) (cs : Nat → ClassId) (L : List Nat) (ka : Nat → Nat) (ix : Nat → Nat) (ad : Nat → Nat → Nat) (n0 : Nat) (n6 : Nat) (n2 : Nat) (S : Nat → Nat → Nat → Int32) (f : Nat → va_E) (j9 : Nat) (h0 : Nat) (s1 : Nat) (s2 : Nat) (o_tablet : Int32) (o_rank : Int32) (o_state : Int32) (o_came : Int32) (o_left : Int32) (o_time : Int32) (w9 : Nat) (u0 : Nat) (sz : Nat) (hT : tB L ka ix ad cs n0 n6 n2 S f) (hk_s1 : tpx L ka ix 38 j9 s1) (hl38 : S 609 j9 0 = nI w9) (hw38 : w9 ≤ 12) (hu0 : u0 < 12) (hw1 : 1 ≤ w9) (e0 : S 608 j9 0 = nI u0) : Met l yX2_nextStation wsX2_nextStation ({ frames := 1, cells := 0, slots := 0, locals := 21 }) (va_Pc [.ref h0] (cP dC dI ([(h0, .inr (2, [.int o_tablet, .int o_rank, .ref s1, .ref s2, .int o_state, .int 0, .int o_came, .null, .int o_left, .int o_time]))] ++ va_pl L f) (tyC cs) sz)) (vp_Si (fun r => r = nI u0)) 0 0 (fun _ => False) := by
  refine Met.ofW (cc := cX2_nextStation) (maxL := 1) (ret := (some .int)) (by decide) rfl ?_
  intro p e s m args below meth c s₁ B hml hv
  obtain ⟨rfl, hsz, hP, hK, hD0, hN⟩ := hv
  have hx := B.exec
  have hb := B.bytes
  have hr := B.returns
  have hts := atoms_spec (ws := wsX2_nextStation) B.pre
  have hown : s.vm.findClass RX2 = some m.cls := findClass_of_methodNamed B.named
  have hlocks := B.notSynchronized
  subst hsz
  have hin2 : ∀ w ∈ u_ws RX2 TX2 10, w ∈ wsX2_nextStation := by decide +kernel
  have hD := hD0
  have hP : va_P (dC, dI) vwCl ([(h0, .inr (2, [.int o_tablet, .int o_rank, .ref s1, .ref s2, .int o_state, .int 0, .int o_came, .null, .int o_left, .int o_time]))] ++ va_pl L f) s.heap := hP
  have hl := lv_entry ([.ref h0]) (n := 1) (Nat.le_of_ble_eq_true rfl)
  rw [lg_entry_eq]
  generalize (lg_sl ([.ref h0]) ++ List.replicate (1 - (lg_sl ([.ref h0])).length) Slot.unset).toArray = ls at hl ⊢
  have hl : lv_has ls 1 [(0, .ref h0)] := hl
  refine lv_aload_n hx hb dX2_nextStation_0 rfl (lv_at hl 0 rfl) ?_
  refine lv_aload_n hx hb dX2_nextStation_1 rfl (lv_at hl 0 rfl) ?_
  refine va_get (D := (dC, dI)) (ci := 2) (v := .int 0) (C := RX2) (T := TX2) (N := 10) hx hb hts hin2 hown hK hP 0 rfl rfl 5 (by decide) (hts (.fieldLink RX2 34 "YamRiders$Rider" "reached" "I") (by decide +kernel)) (fun _ h9 => h9) rfl dX2_nextStation_2 ?_
  have hPc := hP.part (cx := [(h0, .inr (2, [.int o_tablet, .int o_rank, .ref s1, .ref s2, .int o_state, .int 0, .int o_came, .null, .int o_left, .int o_time]))]) [0] rfl
  have hDc := hD.part (cx := [(h0, .inr (2, [.int o_tablet, .int o_rank, .ref s1, .ref s2, .int o_state, .int 0, .int o_came, .null, .int o_left, .int o_time]))]) [0] (by decide) rfl
  have hKc := hK
  refine cs_i (va_runV (As := [.int 0]) (rest := []) ⟨hx, hb, hml, hown, hts⟩ (e_X2_stationOfWayX l dC dI cs L ka ix ad n0 n6 n2 S f j9 h0 s1 s2 o_tablet o_rank o_state 0 o_came o_left o_time w9 u0 s.heap.size hT hk_s1 hl38 (by omega) hu0 hw1 e0) (cwV 1 hts gX2_nextStation_X2_stationOfWay rfl rfl rfl (by decide +kernel) ⟨Nat.le_of_ble_eq_true rfl, Nat.le_of_ble_eq_true rfl⟩) ⟨c_blind, va_recv hKc hPc (ci := 2) (q0 := 0) rfl rfl, c_pre hPc hKc hDc hN⟩ rfl rfl hl.1 rfl (lv_room (Nat.le_of_ble_eq_true rfl)) dX2_nextStation_5 ⟨Nat.le_of_ble_eq_true rfl, Nat.le_of_ble_eq_true rfl⟩) (fun r_1 hr_1 => ?_)
  subst hr_1
  exact W.iret (v := nI u0) hx hb hr (fun t9 ht hW => ⟨_, rfl, rfl, ht⟩) (fun q h => nomatch h) dX2_nextStation_8

set_option maxHeartbeats 4000000 in
set_option maxRecDepth 100000 in
theorem e_X2_comeToX (l : Launch) (dC : Nat → ClassId) (dI : Nat → Nat → Nat) (cs : Nat → ClassId) (L : List Nat) (ka : Nat → Nat) (ix : Nat → Nat) (ad : Nat → Nat → Nat) (n0 : Nat) (n6 : Nat) (n2 : Nat) (S : Nat → Nat → Nat → Int32) (f : Nat → va_E) (j9 : Nat) (h0 : Nat) (s1 : Nat) (s2 : Nat) (o_tablet : Int32) (o_rank : Int32) (o_state : Int32) (o_came : Int32) (o_left : Int32) (o_time : Int32) (a_v : Nat → Int32) (w9 : Nat) (u0 : Nat) (p0 : Int32) (sz : Nat) (hT : tB L ka ix ad cs n0 n6 n2 S f) (hk_s1 : tpx L ka ix 38 j9 s1) (hl38 : S 609 j9 0 = nI w9) (hw38 : w9 ≤ 12) (hu0 : u0 < 12) (hw1 : 1 ≤ w9) (e0 : S 608 j9 0 = nI u0) : Met l yX2_comeToNextStation wsX2_comeToNextStation ({ frames := 2, cells := 0, slots := 0, locals := 41 }) (va_Pc [.ref h0, .int p0] (cP dC dI ([(h0, .inr (2, [.int o_tablet, .int o_rank, .ref s1, .ref s2, .int o_state, .int 0, .int o_came, .null, .int o_left, .int o_time])), (s2, .inl (cs 0, 12, .inl a_v))] ++ va_pl L f) (tyC cs) sz)) (va_Qv (fun (_ : Unit) => True) (fun (_ : Unit) t9 => ∃ (v4 : Int32) (g_v : Nat → Int32), (v4 = (if nI w9 ≤ 1 then 2 else 0) ∧ g_v = upd a_v u0 p0) ∧ cQ dC dI ([(h0, .inr (2, [.int o_tablet, .int o_rank, .ref s1, .ref s2, .int v4, .int 1, .int p0, .null, .int o_left, .int o_time])), (s2, .inl (cs 0, 12, .inl g_v))] ++ va_pl L f) [] (va_A ([(h0, .inr (2, [.int o_tablet, .int o_rank, .ref s1, .ref s2, .int o_state, .int 0, .int o_came, .null, .int o_left, .int o_time])), (s2, .inl (cs 0, 12, .inl a_v))] ++ va_pl L f) sz) t9) (va_A ([(h0, .inr (2, [.int o_tablet, .int o_rank, .ref s1, .ref s2, .int o_state, .int 0, .int o_came, .null, .int o_left, .int o_time])), (s2, .inl (cs 0, 12, .inl a_v))] ++ va_pl L f) sz)) 0 0 (va_A ([(h0, .inr (2, [.int o_tablet, .int o_rank, .ref s1, .ref s2, .int o_state, .int 0, .int o_came, .null, .int o_left, .int o_time])), (s2, .inl (cs 0, 12, .inl a_v))] ++ va_pl L f) sz) := by
  refine Met.ofW (cc := cX2_comeToNextStation) (maxL := 3) (ret := none) (by decide) rfl ?_
  intro p e s m args below meth c s₁ B hml hv
  obtain ⟨rfl, hsz, hP, hK, hD0, hN⟩ := hv
  have hx := B.exec
  have hb := B.bytes
  have hr := B.returns
  have hts := atoms_spec (ws := wsX2_comeToNextStation) B.pre
  have hown : s.vm.findClass RX2 = some m.cls := findClass_of_methodNamed B.named
  have hlocks := B.notSynchronized
  subst hsz
  have hin2 : ∀ w ∈ u_ws RX2 TX2 10, w ∈ wsX2_comeToNextStation := by decide +kernel
  have hD := hD0.self (sz := s.heap.size)
  generalize hAe : va_A ([(h0, .inr (2, [.int o_tablet, .int o_rank, .ref s1, .ref s2, .int o_state, .int 0, .int o_came, .null, .int o_left, .int o_time])), (s2, .inl (cs 0, 12, .inl a_v))] ++ va_pl L f) s.heap.size = A at hD ⊢
  have hA : ∀ q : Nat, s.heap.size ≤ q → A q := fun q h => by rw [← hAe]; exact Or.inr h
  have hS : va_S A s.heap s.heap [] := va_S.rf
  have hP : va_P (dC, dI) vwCl ([(h0, .inr (2, [.int o_tablet, .int o_rank, .ref s1, .ref s2, .int o_state, .int 0, .int o_came, .null, .int o_left, .int o_time])), (s2, .inl (cs 0, 12, .inl a_v))] ++ va_pl L f) s.heap := hP
  have hl := lv_entry ([.ref h0, .int p0]) (n := 3) (Nat.le_of_ble_eq_true rfl)
  rw [lg_entry_eq]
  generalize (lg_sl ([.ref h0, .int p0]) ++ List.replicate (3 - (lg_sl ([.ref h0, .int p0])).length) Slot.unset).toArray = ls at hl ⊢
  have hl : lv_has ls 3 [(0, .ref h0), (1, .int p0)] := hl
  refine lv_aload_n hx hb dX2_comeToNextStation_0 rfl (lv_at hl 0 rfl) ?_
  have hPc := hP.part (cx := [(h0, .inr (2, [.int o_tablet, .int o_rank, .ref s1, .ref s2, .int o_state, .int 0, .int o_came, .null, .int o_left, .int o_time]))]) [0] rfl
  have hDc := hD.part (cx := [(h0, .inr (2, [.int o_tablet, .int o_rank, .ref s1, .ref s2, .int o_state, .int 0, .int o_came, .null, .int o_left, .int o_time]))]) [0] (by decide) rfl
  have hKc := hK
  refine cs_i (va_runV (As := []) (rest := []) ⟨hx, hb, hml, hown, hts⟩ (e_X2_nextStationX l dC dI cs L ka ix ad n0 n6 n2 S f j9 h0 s1 s2 o_tablet o_rank o_state o_came o_left o_time w9 u0 s.heap.size hT hk_s1 hl38 (by omega) hu0 hw1 e0) (cwV 0 hts gX2_comeToNextStation_X2_nextStation rfl rfl rfl (by decide +kernel) ⟨Nat.le_of_ble_eq_true rfl, Nat.le_of_ble_eq_true rfl⟩) ⟨c_blind, va_recv hKc hPc (ci := 2) (q0 := 0) rfl rfl, c_pre hPc hKc hDc hN⟩ rfl rfl hl.1 rfl (lv_room (Nat.le_of_ble_eq_true rfl)) dX2_comeToNextStation_1 ⟨Nat.le_of_ble_eq_true rfl, Nat.le_of_ble_eq_true rfl⟩) (fun r_1 hr_1 => ?_)
  subst hr_1
  refine lv_istore_n (lv' := [(2, .int (nI u0)), (0, .ref h0), (1, .int p0)]) hx hb dX2_comeToNextStation_4 rfl hl (by decide) rfl (fun ls hl => ?_)
  refine lv_iload_n hx hb dX2_comeToNextStation_5 rfl (lv_at hl 0 rfl) ?_
  have hPc := hP.sub (ws' := []) [] rfl
  have hDc := hD.sub (ws' := []) [] (by decide) rfl
  have hKc := hK.sub (tys' := []) [] rfl
  refine cs_i (va_runSN (As := [.int (nI u0)]) (rest := []) ⟨hx, hb, hml, hown, hts⟩ (c_X8_isStation l dC dI (nI u0) s.heap.size) ⟨va_cnB 1 hts ggX2_comeToNextStation_X8_isStation rfl rfl rfl (hN.1 (.methodLinkNest RX2 41 yX8_isStation "YamRiders") (by decide +kernel)) (hts (.initialized RX8) (by decide +kernel)) (by decide +kernel) ⟨Nat.le_of_ble_eq_true rfl, Nat.le_of_ble_eq_true rfl⟩, hts (.static yX8_isStation) (by decide +kernel), trivial⟩ ⟨c_blind, c_pre hPc hKc hDc hN⟩ rfl rfl hl.1 rfl (lv_room (Nat.le_of_ble_eq_true rfl)) dX2_comeToNextStation_6 ⟨Nat.le_of_ble_eq_true rfl, Nat.le_of_ble_eq_true rfl⟩) (fun r_2 hr_2 => ?_)
  subst hr_2
  refine lv_if_ne (tgt := 13) hx hb dX2_comeToNextStation_9 (by decide) (fun _ => ?_) (fun c_3 => by first | exact absurd c_3 (st_nz (by omega)) | exact absurd (st_nz (by omega)) c_3)
  refine lv_aload_n hx hb dX2_comeToNextStation_13 rfl (lv_at hl 1 rfl) ?_
  refine va_get (D := (dC, dI)) (ci := 2) (v := .ref s2) (C := RX2) (T := TX2) (N := 10) hx hb hts hin2 hown hK hP 0 rfl rfl 3 (by decide) (hts (.fieldLink RX2 9 "YamRiders$Rider" "newsSince" "[I") (by decide +kernel)) (fun _ h9 => h9) rfl dX2_comeToNextStation_14 ?_
  refine lv_iload_n hx hb dX2_comeToNextStation_17 rfl (lv_at hl 0 rfl) ?_
  refine lv_iload_n hx hb dX2_comeToNextStation_18 rfl (lv_at hl 2 rfl) ?_
  refine va_iast hx hb hK hP hD hS 1 0 rfl rfl (vp_in_nI (by omega) (by omega)) dX2_comeToNextStation_19 (fun H locs hP hD hS => ?_)
  have hP : va_P (dC, dI) vwCl ([(h0, .inr (2, [.int o_tablet, .int o_rank, .ref s1, .ref s2, .int o_state, .int 0, .int o_came, .null, .int o_left, .int o_time])), (s2, .inl (cs 0, 12, .inl (upd a_v (nI u0).toNatClampNeg p0)))] ++ va_pl L f) H := hP
  have hD : va_D A ([(h0, .inr (2, [.int o_tablet, .int o_rank, .ref s1, .ref s2, .int o_state, .int 0, .int o_came, .null, .int o_left, .int o_time])), (s2, .inl (cs 0, 12, .inl (upd a_v (nI u0).toNatClampNeg p0)))] ++ va_pl L f) := hD
  obtain ⟨f_4, ef_4⟩ : ∃ w9 : Nat → Int32, w9 = upd a_v (nI u0).toNatClampNeg p0 := ⟨_, rfl⟩
  rw [← ef_4] at hP hD
  refine lv_aload_n hx hb dX2_comeToNextStation_20 rfl (lv_at hl 1 rfl) ?_
  refine lv_iload_n hx hb dX2_comeToNextStation_21 rfl (lv_at hl 2 rfl) ?_
  refine va_put (D := (dC, dI)) (ci := 2) (v := .int p0) (ty := (tyX2 6)) (C := RX2) (T := TX2) (N := 10) hx hb hts hin2 tyX2 tyX2_ok nmX2 hown hK hP hD hS 0 rfl rfl 6 (by decide) (hts (.fieldLink RX2 64 "YamRiders$Rider" "came" "I") (by decide +kernel)) (fun _ h9 => h9) rfl (by decide +kernel) rfl rfl (Nat.le_of_ble_eq_true rfl) dX2_comeToNextStation_22 (fun H locs hP hD hS => ?_)
  have hP : va_P (dC, dI) vwCl ([(h0, .inr (2, [.int o_tablet, .int o_rank, .ref s1, .ref s2, .int o_state, .int 0, .int p0, .null, .int o_left, .int o_time])), (s2, .inl (cs 0, 12, .inl f_4))] ++ va_pl L f) H := hP
  have hD : va_D A ([(h0, .inr (2, [.int o_tablet, .int o_rank, .ref s1, .ref s2, .int o_state, .int 0, .int p0, .null, .int o_left, .int o_time])), (s2, .inl (cs 0, 12, .inl f_4))] ++ va_pl L f) := hD
  refine lv_aload_n hx hb dX2_comeToNextStation_25 rfl (lv_at hl 1 rfl) ?_
  refine lv_dup hx hb dX2_comeToNextStation_26 rfl ?_
  refine va_get (D := (dC, dI)) (ci := 2) (v := .int 0) (C := RX2) (T := TX2) (N := 10) hx hb hts hin2 hown hK hP 0 rfl rfl 5 (by decide) (hts (.fieldLink RX2 34 "YamRiders$Rider" "reached" "I") (by decide +kernel)) (fun _ h9 => h9) rfl dX2_comeToNextStation_27 ?_
  refine lv_iconst (v := 1) hx hb dX2_comeToNextStation_30 (by decide) ?_
  refine lv_iadd hx hb dX2_comeToNextStation_31 ?_
  refine lv_topi (fun y_5 ey_5 => ?_)
  obtain rfl : y_5 = 1 := ey_5.trans (by decide)
  refine va_put (D := (dC, dI)) (ci := 2) (v := .int 1) (ty := (tyX2 5)) (C := RX2) (T := TX2) (N := 10) hx hb hts hin2 tyX2 tyX2_ok nmX2 hown hK hP hD hS 0 rfl rfl 5 (by decide) (hts (.fieldLink RX2 34 "YamRiders$Rider" "reached" "I") (by decide +kernel)) (fun _ h9 => h9) rfl (by decide +kernel) rfl rfl (Nat.le_of_ble_eq_true rfl) dX2_comeToNextStation_32 (fun H locs hP hD hS => ?_)
  have hP : va_P (dC, dI) vwCl ([(h0, .inr (2, [.int o_tablet, .int o_rank, .ref s1, .ref s2, .int o_state, .int 1, .int p0, .null, .int o_left, .int o_time])), (s2, .inl (cs 0, 12, .inl f_4))] ++ va_pl L f) H := hP
  have hD : va_D A ([(h0, .inr (2, [.int o_tablet, .int o_rank, .ref s1, .ref s2, .int o_state, .int 1, .int p0, .null, .int o_left, .int o_time])), (s2, .inl (cs 0, 12, .inl f_4))] ++ va_pl L f) := hD
  refine lv_aload_n hx hb dX2_comeToNextStation_35 rfl (lv_at hl 1 rfl) ?_
  refine lv_aload_n hx hb dX2_comeToNextStation_36 rfl (lv_at hl 1 rfl) ?_
  refine va_get (D := (dC, dI)) (ci := 2) (v := .int 1) (C := RX2) (T := TX2) (N := 10) hx hb hts hin2 hown hK hP 0 rfl rfl 5 (by decide) (hts (.fieldLink RX2 34 "YamRiders$Rider" "reached" "I") (by decide +kernel)) (fun _ h9 => h9) rfl dX2_comeToNextStation_37 ?_
  refine lv_aload_n hx hb dX2_comeToNextStation_40 rfl (lv_at hl 1 rfl) ?_
  refine va_get (D := (dC, dI)) (ci := 2) (v := .ref s1) (C := RX2) (T := TX2) (N := 10) hx hb hts hin2 hown hK hP 0 rfl rfl 2 (by decide) (hts (.fieldLink RX2 25 "YamRiders$Rider" "stations" "[I") (by decide +kernel)) (fun _ h9 => h9) rfl dX2_comeToNextStation_41 ?_
  have hf_6 : f s1 = .inl (cs 0, w9, .inl (S 608 j9)) := (hT.get hk_s1).trans (by simp only [EN]; rw [hl38, nI_clamp (by omega)])
  obtain ⟨q_7, hq_7⟩ := pl_at (X := [(h0, .inr (2, [.int o_tablet, .int o_rank, .ref s1, .ref s2, .int o_state, .int 1, .int p0, .null, .int o_left, .int o_time])), (s2, .inl (cs 0, 12, .inl f_4))]) (f := f) (e := .inl (cs 0, w9, .inl (S 608 j9))) hk_s1.1 hf_6
  refine va_alen (v := nI w9) hx hb hK hP q_7 0 hq_7 rfl rfl dX2_comeToNextStation_44 ?_
  refine lv_icmp_ge (tgt := 52) hx hb dX2_comeToNextStation_45 (by decide) (fun c_8 => ?_) (fun c_8 => ?_)
  · refine lv_iconst (v := 2) hx hb dX2_comeToNextStation_52 (by decide) ?_
    refine va_put (D := (dC, dI)) (ci := 2) (v := .int 2) (ty := (tyX2 4)) (C := RX2) (T := TX2) (N := 10) hx hb hts hin2 tyX2 tyX2_ok nmX2 hown hK hP hD hS 0 rfl rfl 4 (by decide) (hts (.fieldLink RX2 15 "YamRiders$Rider" "state" "I") (by decide +kernel)) (fun _ h9 => h9) rfl (by decide +kernel) rfl rfl (Nat.le_of_ble_eq_true rfl) dX2_comeToNextStation_53 (fun H locs hP hD hS => ?_)
    have hP : va_P (dC, dI) vwCl ([(h0, .inr (2, [.int o_tablet, .int o_rank, .ref s1, .ref s2, .int 2, .int 1, .int p0, .null, .int o_left, .int o_time])), (s2, .inl (cs 0, 12, .inl f_4))] ++ va_pl L f) H := hP
    have hD : va_D A ([(h0, .inr (2, [.int o_tablet, .int o_rank, .ref s1, .ref s2, .int 2, .int 1, .int p0, .null, .int o_left, .int o_time])), (s2, .inl (cs 0, 12, .inl f_4))] ++ va_pl L f) := hD
    have hP9 := hP.part (cx := [(h0, .inr (2, [.int o_tablet, .int o_rank, .ref s1, .ref s2, .int 2, .int 1, .int p0, .null, .int o_left, .int o_time])), (s2, .inl (cs 0, 12, .inl f_4))]) [0, 1] rfl
    have hD9 := hD.part (cx := [(h0, .inr (2, [.int o_tablet, .int o_rank, .ref s1, .ref s2, .int 2, .int 1, .int p0, .null, .int o_left, .int o_time])), (s2, .inl (cs 0, 12, .inl f_4))]) [0, 1] (by decide) rfl
    have hK9 := hK.sub (tys' := []) [] rfl
    refine W.widen (k := 0) (n := 0) (Nat.le_of_ble_eq_true rfl) (Nat.le_of_ble_eq_true rfl) ?_
    exact W.vret hx hb hr (fun t9 ht hW => ⟨⟨(), rfl, trivial, 2, f_4, ⟨by rw [if_pos c_8], by rw [ef_4, nI_clamp (by omega)]⟩, by rw [ht]; exact hP9, va_K.moved hW.alike hK9, hD9⟩, hS.F ht⟩) hS.2.2 dX2_comeToNextStation_56
  · refine lv_iconst (v := 0) hx hb dX2_comeToNextStation_48 (by decide) ?_
    refine lv_goto (tgt := 53) hx hb dX2_comeToNextStation_49 (by decide) ?_
    refine va_put (D := (dC, dI)) (ci := 2) (v := .int 0) (ty := (tyX2 4)) (C := RX2) (T := TX2) (N := 10) hx hb hts hin2 tyX2 tyX2_ok nmX2 hown hK hP hD hS 0 rfl rfl 4 (by decide) (hts (.fieldLink RX2 15 "YamRiders$Rider" "state" "I") (by decide +kernel)) (fun _ h9 => h9) rfl (by decide +kernel) rfl rfl (Nat.le_of_ble_eq_true rfl) dX2_comeToNextStation_53 (fun H locs hP hD hS => ?_)
    have hP : va_P (dC, dI) vwCl ([(h0, .inr (2, [.int o_tablet, .int o_rank, .ref s1, .ref s2, .int 0, .int 1, .int p0, .null, .int o_left, .int o_time])), (s2, .inl (cs 0, 12, .inl f_4))] ++ va_pl L f) H := hP
    have hD : va_D A ([(h0, .inr (2, [.int o_tablet, .int o_rank, .ref s1, .ref s2, .int 0, .int 1, .int p0, .null, .int o_left, .int o_time])), (s2, .inl (cs 0, 12, .inl f_4))] ++ va_pl L f) := hD
    have hP9 := hP.part (cx := [(h0, .inr (2, [.int o_tablet, .int o_rank, .ref s1, .ref s2, .int 0, .int 1, .int p0, .null, .int o_left, .int o_time])), (s2, .inl (cs 0, 12, .inl f_4))]) [0, 1] rfl
    have hD9 := hD.part (cx := [(h0, .inr (2, [.int o_tablet, .int o_rank, .ref s1, .ref s2, .int 0, .int 1, .int p0, .null, .int o_left, .int o_time])), (s2, .inl (cs 0, 12, .inl f_4))]) [0, 1] (by decide) rfl
    have hK9 := hK.sub (tys' := []) [] rfl
    refine W.widen (k := 0) (n := 0) (Nat.le_of_ble_eq_true rfl) (Nat.le_of_ble_eq_true rfl) ?_
    exact W.vret hx hb hr (fun t9 ht hW => ⟨⟨(), rfl, trivial, 0, f_4, ⟨by rw [if_neg c_8], by rw [ef_4, nI_clamp (by omega)]⟩, by rw [ht]; exact hP9, va_K.moved hW.alike hK9, hD9⟩, hS.F ht⟩) hS.2.2 dX2_comeToNextStation_56

def NRb (S T : Nat → Nat → Nat → Int32) (n : Nat) (p0 rk hr p1 p2 : Int32) : Prop := ∃ (w u0 : Nat) (a : Nat → Int32), WYS S p1 p2 w a ∧ u0 < 12 ∧ a 0 = nI u0 ∧ w ≤ 12 ∧ (∀ c i, ¬ c / 16 ∈ [28, 31, 32, 33, 38, 41, 43, 44, 45] → ¬ (i = n ∧ (c / 16 = 2 ∨ c / 16 = 36 ∨ c / 16 = 37)) → T c i = S c i) ∧ T 32 n 0 = p0 ∧ T 33 n 0 = rk ∧ T 36 n 0 = (if nI w ≤ 1 then 2 else 0) ∧ T 37 n 0 = 1 ∧ T 38 n 0 = hr ∧ T 39 n 0 = -1 ∧ T 40 n 0 = 0 ∧ T 41 n 0 = 0 ∧ (∀ s, s < 12 → T 576 n s = if s = u0 then hr else -1) ∧ T 592 n = a ∧ T 593 n 0 = nI w
theorem NR_i {S T U V : Nat → Nat → Nat → Int32} {n js j1 w u0 : Nat} {f g : Nat → Int32} {p0 rk hr p1 p2 x4 : Int32} (hag : AG S T) (hw : WYS S p1 p2 w (V 608 js)) (hu : u0 < 12) (e0 : V 608 js 0 = nI u0) (hw12 : w ≤ 12) (hV : T 608 js = V 608 js) (hl : T 609 js 0 = nI w) (hg : T 608 j1 = g) (hf : ∀ i, i < 12 → f i = -1) (h4 : x4 = (if nI w ≤ 1 then 2 else 0) ∧ g = upd f u0 hr) (e : U = newR T n p0 rk x4 1 hr 0 0 js j1) : NRb S U n p0 rk hr p1 p2 := by
  subst e
  refine ⟨w, u0, V 608 js, hw, hu, e0, hw12, fun c i h1 h2 => ?_, ?_, ?_, ?_, ?_, ?_, ?_, ?_, ?_, fun s hs => ?_, ?_, ?_⟩
  · rw [newR_o (fun z => ⟨fun y => h2 ⟨z, Or.inl y⟩, fun y => h2 ⟨z, Or.inr (Or.inl y)⟩, fun y => h2 ⟨z, Or.inr (Or.inr y)⟩⟩), hag c h1]
  · simp [newR]
  · simp [newR]
  · simp [newR]; exact h4.1
  · simp [newR]
  · simp [newR]
  · simp [newR]
  · simp [newR]
  · simp [newR]
  · show newR T n p0 rk x4 1 hr 0 0 js j1 576 n s = _
    have e9 : newR T n p0 rk x4 1 hr 0 0 js j1 576 n = T 608 j1 := by simp [newR]
    rw [e9, hg, h4.2]
    by_cases q : s = u0
    · rw [q, up_s, if_pos rfl]
    · rw [up_n q, if_neg q]; exact hf s hs
  · have e9 : newR T n p0 rk x4 1 hr 0 0 js j1 592 n = T 608 js := by simp [newR]
    rw [e9, hV]
  · have e9 : newR T n p0 rk x4 1 hr 0 0 js j1 593 n = T 609 js := by simp [newR]
    rw [e9, hl]
def RDc (S T : Nat → Nat → Nat → Int32) (n2 m2 n6 : Nat) (p0 p1 p2 hr rv : Int32) : Prop := (m2 = n2 ∧ rv = -1 ∧ AG S T ∧ (n2 = 60 ∨ hOf n6 p0 = -1 ∨ (∃ q, q < n2 ∧ S 32 q 0 = p0 ∧ ¬ sUW S q = 0) ∨ NOW S p1 p2)) ∨ (m2 = n2 + 1 ∧ rv = nI n2 ∧ n2 < 60 ∧ (∃ t, t < n6 ∧ hOf n6 p0 = nI t ∧ NRb S T n2 p0 (S 96 t 0) hr p1 p2) ∧ ∀ q, q < n2 → S 32 q 0 = p0 → sUW S q = 0)
theorem RDc.fr {S T : Nat → Nat → Nat → Int32} {n2 m2 n6 : Nat} {p0 p1 p2 hr rv : Int32} (h : RDc S T n2 m2 n6 p0 p1 p2 hr rv) : FR S T := by
  rcases h with ⟨_, _, h, _⟩ | ⟨_, _, _, ⟨t, _, _, w, u0, a, _, _, _, _, h, _⟩, _⟩
  · exact h.fr
  · exact ⟨funext fun i => h 416 i (by decide) (fun w => w.2.elim (by decide) (fun z => z.elim (by decide) (by decide))), funext fun i => h 432 i (by decide) (fun w => w.2.elim (by decide) (fun z => z.elim (by decide) (by decide)))⟩

set_option maxHeartbeats 4000000 in
set_option maxRecDepth 100000 in
theorem e_X8_ride (l : Launch) (dC : Nat → ClassId) (dI : Nat → Nat → Nat) (cs : Nat → ClassId) (L : List Nat) (ka : Nat → Nat) (ix : Nat → Nat) (ad : Nat → Nat → Nat) (n0 : Nat) (n6 : Nat) (n2 : Nat) (S : Nat → Nat → Nat → Int32) (f : Nat → va_E) (gq : Nat) (h0 : Nat) (a1 : Nat) (a2 : Nat) (a3 : Nat) (a4 : Nat) (a5 : Nat) (a6 : Nat) (a7 : Nat) (a8 : Nat) (a9 : Nat) (j_faultKind : Int32) (j_horseCount : Int32) (j_tabletCount : Int32) (j_lineLength : Int32) (j_hour : Int32) (p0 : Int32) (p1 : Int32) (p2 : Int32) (sz : Nat) (hT : tB L ka ix ad cs n0 n6 n2 S f) (hY : yX L ka ix ad gq a2 a3 a4 a5 a6 a7 a8 a9) (hSy : Sy S) (hRg : RgS S) : Met l yX8_ride wsX8_ride ({ frames := 6, cells := 3, slots := 34, locals := 134 }) (va_Pc [.ref h0, .int p0, .int p1, .int p2] (cP dC dI ([(h0, .inr (8, [.ref a1, .ref a2, .ref a3, .ref a4, .ref a5, .ref a6, .ref a7, .ref a8, .ref a9, .int j_faultKind, .int j_horseCount, .int j_tabletCount, .int (nI n2), .int j_lineLength, .int j_hour]))] ++ va_pl L f) (tyC cs) sz)) (va_Qi (fun (r rv : Int32) => r = rv) (fun (rv : Int32) t9 => ∃ (L2 : List Nat) (ka2 : Nat → Nat) (ix2 : Nat → Nat) (ad2 : Nat → Nat → Nat) (S2 : Nat → Nat → Nat → Int32) (f2 : Nat → va_E) (m2 : Nat), (eX L ka ix L2 ka2 ix2) ∧ (tB L2 ka2 ix2 ad2 cs n0 n6 m2 S2 f2) ∧ (m2 ≤ 60) ∧ (RDc S S2 n2 m2 n6 p0 p1 p2 j_hour rv) ∧ cQ dC dI ([(h0, .inr (8, [.ref a1, .ref a2, .ref a3, .ref a4, .ref a5, .ref a6, .ref a7, .ref a8, .ref a9, .int j_faultKind, .int j_horseCount, .int j_tabletCount, .int (nI m2), .int j_lineLength, .int j_hour]))] ++ va_pl L2 f2) [] (va_A ([(h0, .inr (8, [.ref a1, .ref a2, .ref a3, .ref a4, .ref a5, .ref a6, .ref a7, .ref a8, .ref a9, .int j_faultKind, .int j_horseCount, .int j_tabletCount, .int (nI n2), .int j_lineLength, .int j_hour]))] ++ va_pl L f) sz) t9) (va_A ([(h0, .inr (8, [.ref a1, .ref a2, .ref a3, .ref a4, .ref a5, .ref a6, .ref a7, .ref a8, .ref a9, .int j_faultKind, .int j_horseCount, .int j_tabletCount, .int (nI n2), .int j_lineLength, .int j_hour]))] ++ va_pl L f) sz)) 3 34 (va_A ([(h0, .inr (8, [.ref a1, .ref a2, .ref a3, .ref a4, .ref a5, .ref a6, .ref a7, .ref a8, .ref a9, .int j_faultKind, .int j_horseCount, .int j_tabletCount, .int (nI n2), .int j_lineLength, .int j_hour]))] ++ va_pl L f) sz) := by
  refine Met.ofW (cc := cX8_ride) (maxL := 7) (ret := (some .int)) (by decide) rfl ?_
  intro p e s m args below meth c s₁ B hml hv
  obtain ⟨rfl, hsz, hP, hK, hD0, hN⟩ := hv
  have hx := B.exec
  have hb := B.bytes
  have hr := B.returns
  have hts := atoms_spec (ws := wsX8_ride) B.pre
  have hown : s.vm.findClass RX8 = some m.cls := findClass_of_methodNamed B.named
  have hlocks := B.notSynchronized
  subst hsz
  have hin2 : ∀ w ∈ u_ws RX2 TX2 10, w ∈ wsX8_ride := by decide +kernel
  have hin6 : ∀ w ∈ u_ws RX6 TX6 2, w ∈ wsX8_ride := by decide +kernel
  have hin8 : ∀ w ∈ u_ws RX8 TX8 15, w ∈ wsX8_ride := by decide +kernel
  have hD := hD0.self (sz := s.heap.size)
  generalize hAe : va_A ([(h0, .inr (8, [.ref a1, .ref a2, .ref a3, .ref a4, .ref a5, .ref a6, .ref a7, .ref a8, .ref a9, .int j_faultKind, .int j_horseCount, .int j_tabletCount, .int (nI n2), .int j_lineLength, .int j_hour]))] ++ va_pl L f) s.heap.size = A at hD ⊢
  have hA : ∀ q : Nat, s.heap.size ≤ q → A q := fun q h => by rw [← hAe]; exact Or.inr h
  have hS : va_S A s.heap s.heap [] := va_S.rf
  have hP : va_P (dC, dI) vwCl ([(h0, .inr (8, [.ref a1, .ref a2, .ref a3, .ref a4, .ref a5, .ref a6, .ref a7, .ref a8, .ref a9, .int j_faultKind, .int j_horseCount, .int j_tabletCount, .int (nI n2), .int j_lineLength, .int j_hour]))] ++ va_pl L f) s.heap := hP
  have hl := lv_entry ([.ref h0, .int p0, .int p1, .int p2]) (n := 7) (Nat.le_of_ble_eq_true rfl)
  rw [lg_entry_eq]
  generalize (lg_sl ([.ref h0, .int p0, .int p1, .int p2]) ++ List.replicate (7 - (lg_sl ([.ref h0, .int p0, .int p1, .int p2])).length) Slot.unset).toArray = ls at hl ⊢
  have hl : lv_has ls 7 [(0, .ref h0), (1, .int p0), (2, .int p1), (3, .int p2)] := hl
  refine lv_aload_n hx hb dX8_ride_0 rfl (lv_at hl 0 rfl) ?_
  refine lv_iload_n hx hb dX8_ride_1 rfl (lv_at hl 1 rfl) ?_
  have hPc := hP.part (cx := [(h0, .inr (8, [.ref a1, .ref a2, .ref a3, .ref a4, .ref a5, .ref a6, .ref a7, .ref a8, .ref a9, .int j_faultKind, .int j_horseCount, .int j_tabletCount, .int (nI n2), .int j_lineLength, .int j_hour]))]) [0] rfl
  have hDc := hD.part (cx := [(h0, .inr (8, [.ref a1, .ref a2, .ref a3, .ref a4, .ref a5, .ref a6, .ref a7, .ref a8, .ref a9, .int j_faultKind, .int j_horseCount, .int j_tabletCount, .int (nI n2), .int j_lineLength, .int j_hour]))]) [0] (by decide) rfl
  have hKc := hK
  refine cs_q (va_runV (As := [.int p0]) (rest := []) ⟨hx, hb, hml, hown, hts⟩ (e_X8_tabletOf l dC dI cs L ka ix ad n0 n6 n2 S f gq h0 a1 a2 a3 a4 a5 a6 a7 a8 a9 j_faultKind j_horseCount j_tabletCount (nI n2) j_lineLength j_hour p0 s.heap.size hT hY) (cwV 1 hts gX8_ride_X8_tabletOf rfl rfl rfl (by decide +kernel) ⟨Nat.le_of_ble_eq_true rfl, Nat.le_of_ble_eq_true rfl⟩) ⟨c_blind, va_recv hKc hPc (ci := 8) (q0 := 0) rfl rfl, c_pre hPc hKc hDc hN⟩ rfl rfl hl.1 rfl (lv_room (Nat.le_of_ble_eq_true rfl)) dX8_ride_2 ⟨Nat.le_of_ble_eq_true rfl, Nat.le_of_ble_eq_true rfl⟩) (fun o_1 ho_1 => ?_)
  subst ho_1
  by_cases c_2 : hOf n6 p0 = -1
  · rw [show oq ad 6 (hOf n6 p0) = none from oq_n c_2]
    refine W.eq (g2 := F0 m 5 ls [.null]) rfl ?_
    refine lv_astoreN (lv' := [(4, .null), (0, .ref h0), (1, .int p0), (2, .int p1), (3, .int p2)]) hx hb dX8_ride_5 hl (by decide) rfl (fun ls hl => ?_)
    refine lv_aload_n hx hb dX8_ride_7 rfl (lv_at hl 1 rfl) ?_
    refine va_get (D := (dC, dI)) (ci := 8) (v := .int (nI n2)) (C := RX8) (T := TX8) (N := 15) hx hb hts hin8 hown hK hP 0 rfl rfl 12 (by decide) (hts (.fieldLink RX8 124 "YamRiders" "riderCount" "I") (by decide +kernel)) (fun _ h9 => h9) rfl dX8_ride_8 ?_
    refine lv_bipush (v := 60) hx hb dX8_ride_11 (by decide) ?_
    refine lv_icmp_ge (tgt := 29) hx hb dX8_ride_13 (by decide) (fun c_3 => ?_) (fun c_3 => ?_)
    · refine lv_iconst (v := (-1)) hx hb dX8_ride_29 (by decide) ?_
      have hP9 := hP.part (cx := [(h0, .inr (8, [.ref a1, .ref a2, .ref a3, .ref a4, .ref a5, .ref a6, .ref a7, .ref a8, .ref a9, .int j_faultKind, .int j_horseCount, .int j_tabletCount, .int (nI n2), .int j_lineLength, .int j_hour]))]) [0] rfl
      have hD9 := hD.part (cx := [(h0, .inr (8, [.ref a1, .ref a2, .ref a3, .ref a4, .ref a5, .ref a6, .ref a7, .ref a8, .ref a9, .int j_faultKind, .int j_horseCount, .int j_tabletCount, .int (nI n2), .int j_lineLength, .int j_hour]))]) [0] (by decide) rfl
      have hK9 := hK.sub (tys' := []) [] rfl
      refine W.widen (k := 3) (n := 34) (Nat.le_of_ble_eq_true rfl) (Nat.le_of_ble_eq_true rfl) ?_
      exact W.iret (v := (-1)) hx hb hr (fun t9 ht hW => ⟨⟨_, (-1), rfl, rfl, L, ka, ix, ad, S, f, n2, (fun _ _ _ _ h => h), hT, (by have h9 := hT.b2; omega), (Or.inl ⟨rfl, rfl, AG.rf, (Or.inl (by have h9 := hT.b2; have h8 := (nI_leI (a := 60) (b := n2) (by decide) (by omega)).mp c_3; omega))⟩), by rw [ht]; exact hP9, va_K.moved hW.alike hK9, hD9⟩, hS.F ht⟩) hS.2.2 dX8_ride_30
    · have hn9 := hT.b2
      have rc60 : n2 < 60 := nI_nleq (n := 60) c_3 (by omega)
      refine lv_aloadN hx hb dX8_ride_16 (lv_at hl 0 rfl) ?_
      refine lv_ifnullN (tgt := 29) hx hb dX8_ride_18 (by decide) ?_
      refine lv_iconst (v := (-1)) hx hb dX8_ride_29 (by decide) ?_
      have hP9 := hP.part (cx := [(h0, .inr (8, [.ref a1, .ref a2, .ref a3, .ref a4, .ref a5, .ref a6, .ref a7, .ref a8, .ref a9, .int j_faultKind, .int j_horseCount, .int j_tabletCount, .int (nI n2), .int j_lineLength, .int j_hour]))]) [0] rfl
      have hD9 := hD.part (cx := [(h0, .inr (8, [.ref a1, .ref a2, .ref a3, .ref a4, .ref a5, .ref a6, .ref a7, .ref a8, .ref a9, .int j_faultKind, .int j_horseCount, .int j_tabletCount, .int (nI n2), .int j_lineLength, .int j_hour]))]) [0] (by decide) rfl
      have hK9 := hK.sub (tys' := []) [] rfl
      refine W.widen (k := 3) (n := 34) (Nat.le_of_ble_eq_true rfl) (Nat.le_of_ble_eq_true rfl) ?_
      exact W.iret (v := (-1)) hx hb hr (fun t9 ht hW => ⟨⟨_, (-1), rfl, rfl, L, ka, ix, ad, S, f, n2, (fun _ _ _ _ h => h), hT, (by have h9 := hT.b2; omega), (Or.inl ⟨rfl, rfl, AG.rf, (Or.inr (Or.inl c_2))⟩), by rw [ht]; exact hP9, va_K.moved hW.alike hK9, hD9⟩, hS.F ht⟩) hS.2.2 dX8_ride_30
  · obtain ⟨u_4, hu_4, eu_4⟩ := hOf_o (by have h9 := hT.b6; omega) c_2
    have hn9 := hT.b6
    rw [show oq ad 6 (hOf n6 p0) = some (ad 6 u_4) from by rw [eu_4]; exact oq_s (by omega)]
    refine W.eq (g2 := F0 m 5 ls [.ref (ad 6 u_4)]) rfl ?_
    refine lv_astore (lv' := [(4, .ref (ad 6 u_4)), (0, .ref h0), (1, .int p0), (2, .int p1), (3, .int p2)]) hx hb dX8_ride_5 hl (by decide) rfl (fun ls hl => ?_)
    refine lv_aload_n hx hb dX8_ride_7 rfl (lv_at hl 1 rfl) ?_
    refine va_get (D := (dC, dI)) (ci := 8) (v := .int (nI n2)) (C := RX8) (T := TX8) (N := 15) hx hb hts hin8 hown hK hP 0 rfl rfl 12 (by decide) (hts (.fieldLink RX8 124 "YamRiders" "riderCount" "I") (by decide +kernel)) (fun _ h9 => h9) rfl dX8_ride_8 ?_
    refine lv_bipush (v := 60) hx hb dX8_ride_11 (by decide) ?_
    refine lv_icmp_ge (tgt := 29) hx hb dX8_ride_13 (by decide) (fun c_5 => ?_) (fun c_5 => ?_)
    · refine lv_iconst (v := (-1)) hx hb dX8_ride_29 (by decide) ?_
      have hP9 := hP.part (cx := [(h0, .inr (8, [.ref a1, .ref a2, .ref a3, .ref a4, .ref a5, .ref a6, .ref a7, .ref a8, .ref a9, .int j_faultKind, .int j_horseCount, .int j_tabletCount, .int (nI n2), .int j_lineLength, .int j_hour]))]) [0] rfl
      have hD9 := hD.part (cx := [(h0, .inr (8, [.ref a1, .ref a2, .ref a3, .ref a4, .ref a5, .ref a6, .ref a7, .ref a8, .ref a9, .int j_faultKind, .int j_horseCount, .int j_tabletCount, .int (nI n2), .int j_lineLength, .int j_hour]))]) [0] (by decide) rfl
      have hK9 := hK.sub (tys' := []) [] rfl
      refine W.widen (k := 3) (n := 34) (Nat.le_of_ble_eq_true rfl) (Nat.le_of_ble_eq_true rfl) ?_
      exact W.iret (v := (-1)) hx hb hr (fun t9 ht hW => ⟨⟨_, (-1), rfl, rfl, L, ka, ix, ad, S, f, n2, (fun _ _ _ _ h => h), hT, (by have h9 := hT.b2; omega), (Or.inl ⟨rfl, rfl, AG.rf, (Or.inl (by have h9 := hT.b2; have h8 := (nI_leI (a := 60) (b := n2) (by decide) (by omega)).mp c_5; omega))⟩), by rw [ht]; exact hP9, va_K.moved hW.alike hK9, hD9⟩, hS.F ht⟩) hS.2.2 dX8_ride_30
    · have hn9 := hT.b2
      have rc60 : n2 < 60 := nI_nleq (n := 60) c_5 (by omega)
      refine lv_aload hx hb dX8_ride_16 (lv_at hl 0 rfl) ?_
      refine lv_ifnull hx hb dX8_ride_18 ?_
      refine lv_aload_n hx hb dX8_ride_21 rfl (lv_at hl 1 rfl) ?_
      refine lv_iload_n hx hb dX8_ride_22 rfl (lv_at hl 2 rfl) ?_
      have hPc := hP.part (cx := [(h0, .inr (8, [.ref a1, .ref a2, .ref a3, .ref a4, .ref a5, .ref a6, .ref a7, .ref a8, .ref a9, .int j_faultKind, .int j_horseCount, .int j_tabletCount, .int (nI n2), .int j_lineLength, .int j_hour]))]) [0] rfl
      have hDc := hD.part (cx := [(h0, .inr (8, [.ref a1, .ref a2, .ref a3, .ref a4, .ref a5, .ref a6, .ref a7, .ref a8, .ref a9, .int j_faultKind, .int j_horseCount, .int j_tabletCount, .int (nI n2), .int j_lineLength, .int j_hour]))]) [0] (by decide) rfl
      have hKc := hK
      refine cs_i (va_runV (As := [.int p0]) (rest := []) ⟨hx, hb, hml, hown, hts⟩ (e_X8_isHad l dC dI cs L ka ix ad n0 n6 n2 S f gq h0 a1 a2 a3 a4 a5 a6 a7 a8 a9 j_faultKind j_horseCount j_tabletCount (nI n2) j_lineLength j_hour p0 s.heap.size hT hY) (cwV 1 hts gX8_ride_X8_isHad rfl rfl rfl (by decide +kernel) ⟨Nat.le_of_ble_eq_true rfl, Nat.le_of_ble_eq_true rfl⟩) ⟨c_blind, va_recv hKc hPc (ci := 8) (q0 := 0) rfl rfl, c_pre hPc hKc hDc hN⟩ rfl rfl hl.1 rfl (lv_room (Nat.le_of_ble_eq_true rfl)) dX8_ride_23 ⟨Nat.le_of_ble_eq_true rfl, Nat.le_of_ble_eq_true rfl⟩) (fun r_6 hr_6 => ?_)
      refine lv_if_eq (tgt := 31) hx hb dX8_ride_26 (by decide) (fun c_7 => ?_) (fun c_7 => ?_)
      · refine lv_aload_n hx hb dX8_ride_31 rfl (lv_at hl 1 rfl) ?_
        refine va_get (D := (dC, dI)) (ci := 8) (v := .ref a2) (C := RX8) (T := TX8) (N := 15) hx hb hts hin8 hown hK hP 0 rfl rfl 1 (by decide) (hts (.fieldLink RX8 19 "YamRiders" "roads" "LYamRiders$Roads;") (by decide +kernel)) (fun _ h9 => h9) rfl dX8_ride_32 ?_
        refine lv_iload_n hx hb dX8_ride_35 rfl (lv_at hl 3 rfl) ?_
        refine lv_iload_n hx hb dX8_ride_36 rfl (lv_at hl 4 rfl) ?_
        have hPc := hP.part (cx := []) [] rfl
        have hDc := hD.part (cx := []) [] (by decide) rfl
        have hKc := hK
        have hFc := va_freeP (cx := []) hD hS hA [] rfl
        have hf_8 : f a2 = .inr (3, [.ref (ad 24 0), .ref (ad 25 0), .ref (ad 31 0), .ref (ad 32 0), .ref (ad 33 0)]) := hT.get hY.1
        obtain ⟨q_9, hq_9⟩ := pl_at (X := []) (f := f) (e := .inr (3, [.ref (ad 24 0), .ref (ad 25 0), .ref (ad 31 0), .ref (ad 32 0), .ref (ad 33 0)])) hY.1.1 hf_8
        refine va_callq (va_runV (As := [.int p1, .int p2]) (rest := []) ⟨hx, hb, hml, hown, hts⟩ (e_X3_findWay l dC dI cs L ka ix ad n0 n6 n2 S f a2 p1 p2 s.heap.size hT hY.1 hSy hRg) (cwV 2 hts gX8_ride_X3_findWay rfl rfl rfl (by decide +kernel) ⟨Nat.le_of_ble_eq_true rfl, Nat.le_of_ble_eq_true rfl⟩) ⟨c_blind, va_recv hKc hPc (ci := 3) (q0 := q_9) rfl hq_9, c_pre hPc hKc hDc hN⟩ rfl rfl hl.1 rfl (lv_room (Nat.le_of_ble_eq_true rfl)) dX8_ride_37 ⟨Nat.le_of_ble_eq_true rfl, Nat.le_of_ble_eq_true rfl⟩) hS (fun q _ h => hFc q h) hFc (fun r_10 u9 t9 H1 locs ht hvm hw hB hz1 hk1 hS => ?_)
        try dsimp only at hw
        subst hw
        obtain ⟨L_11, ka_12, ix_13, ad_14, S_15, f_16, hf_x_17, hf_x_18, hf_x_19, hf_x_20, hP1, hK1, hD1⟩ := hB
        rw [ht] at hP1
        have hK1 := va_K.moved hvm.symm hK1
        obtain ⟨hP, hD⟩ := va_joinP (X := [(h0, .inr (8, [.ref a1, .ref a2, .ref a3, .ref a4, .ref a5, .ref a6, .ref a7, .ref a8, .ref a9, .int j_faultKind, .int j_horseCount, .int j_tabletCount, .int (nI n2), .int j_lineLength, .int j_hour]))]) (cx := []) (wr := [(h0, .inr (8, [.ref a1, .ref a2, .ref a3, .ref a4, .ref a5, .ref a6, .ref a7, .ref a8, .ref a9, .int j_faultKind, .int j_horseCount, .int j_tabletCount, .int (nI n2), .int j_lineLength, .int j_hour]))]) (rx := []) (pl := va_pl L f) (pl1 := va_pl L_11 f_16) hP hD [] [0] rfl rfl (by decide) (by decide) hk1 hFc hP1 hD1
        have hTo := hT
        have hT := hf_x_18
        have hl_21 := hf_x_17 _ _ _ (by decide) hY.1
        have hl_22 := hf_x_17 _ _ _ (by decide) hY.2.1
        have hl_23 := hf_x_17 _ _ _ (by decide) hY.2.2.1
        have hl_24 := hf_x_17 _ _ _ (by decide) hY.2.2.2.1
        have hl_25 := hf_x_17 _ _ _ (by decide) hY.2.2.2.2.1
        have hl_26 := hf_x_17 _ _ _ (by decide) hY.2.2.2.2.2.1
        have hl_27 := hf_x_17 _ _ _ (by decide) hY.2.2.2.2.2.2.1
        have hl_28 := hf_x_17 _ _ _ (by decide) hY.2.2.2.2.2.2.2.1
        have hl_29 := hf_x_17 _ _ _ (by decide) hY.2.2.2.2.2.2.2.2
        have hl_30 := hf_x_17 _ _ _ (by decide) (hTo.k6 (i := u_4) (by omega))
        have hY_31 := yX.up hf_x_17 hT hY
        generalize H1 = H at hP hS ⊢
        have hP : va_P (dC, dI) vwCl ([(h0, .inr (8, [.ref a1, .ref a2, .ref a3, .ref a4, .ref a5, .ref a6, .ref a7, .ref a8, .ref a9, .int j_faultKind, .int j_horseCount, .int j_tabletCount, .int (nI n2), .int j_lineLength, .int j_hour]))] ++ va_pl L_11 f_16) H := hP
        have hD : va_D A ([(h0, .inr (8, [.ref a1, .ref a2, .ref a3, .ref a4, .ref a5, .ref a6, .ref a7, .ref a8, .ref a9, .int j_faultKind, .int j_horseCount, .int j_tabletCount, .int (nI n2), .int j_lineLength, .int j_hour]))] ++ va_pl L_11 f_16) := hD
        have hFr_32 := AG.tr AG.rf hf_x_19
        refine W.widen (k := 1) (n := 12) (Nat.le_of_ble_eq_true rfl) (Nat.le_of_ble_eq_true rfl) ?_
        rcases hf_x_20 with ⟨rfl, hn_40⟩ | ⟨q_33, j_34, w_35, rfl, hk_36, hl_37, hw_38, hy_39⟩
        · refine W.eq (g2 := F0 m 40 ls [.null]) rfl ?_
          refine lv_astoreN (lv' := [(5, .null), (4, .ref (ad 6 u_4)), (0, .ref h0), (1, .int p0), (2, .int p1), (3, .int p2)]) hx hb dX8_ride_40 hl (by decide) rfl (fun ls hl => ?_)
          refine lv_aloadN hx hb dX8_ride_42 (lv_at hl 0 rfl) ?_
          refine lv_ifnonnullN hx hb dX8_ride_44 ?_
          refine lv_iconst (v := (-1)) hx hb dX8_ride_47 (by decide) ?_
          have hP9 := hP.part (cx := [(h0, .inr (8, [.ref a1, .ref a2, .ref a3, .ref a4, .ref a5, .ref a6, .ref a7, .ref a8, .ref a9, .int j_faultKind, .int j_horseCount, .int j_tabletCount, .int (nI n2), .int j_lineLength, .int j_hour]))]) [0] rfl
          have hD9 := hD.part (cx := [(h0, .inr (8, [.ref a1, .ref a2, .ref a3, .ref a4, .ref a5, .ref a6, .ref a7, .ref a8, .ref a9, .int j_faultKind, .int j_horseCount, .int j_tabletCount, .int (nI n2), .int j_lineLength, .int j_hour]))]) [0] (by decide) rfl
          have hK9 := hK.sub (tys' := []) [] rfl
          refine W.widen (k := 3) (n := 34) (Nat.le_of_ble_eq_true rfl) (Nat.le_of_ble_eq_true rfl) ?_
          exact W.iret (v := (-1)) hx hb hr (fun t9 ht hW => ⟨⟨_, (-1), rfl, rfl, L_11, ka_12, ix_13, ad_14, S_15, f_16, n2, hf_x_17, hT, (by have h9 := hT.b2; omega), (Or.inl ⟨rfl, rfl, hFr_32, (Or.inr (Or.inr (Or.inr hn_40)))⟩), by rw [ht]; exact hP9, va_K.moved hW.alike hK9, hD9⟩, hS.F ht⟩) hS.2.2 dX8_ride_48
        · obtain ⟨u7, hu7, hw7, e7⟩ := WYS_0 hy_39
          refine W.eq (g2 := F0 m 40 ls [.ref q_33]) rfl ?_
          refine lv_astore (lv' := [(5, .ref q_33), (4, .ref (ad 6 u_4)), (0, .ref h0), (1, .int p0), (2, .int p1), (3, .int p2)]) hx hb dX8_ride_40 hl (by decide) rfl (fun ls hl => ?_)
          refine lv_aload hx hb dX8_ride_42 (lv_at hl 0 rfl) ?_
          refine lv_ifnonnull (tgt := 49) hx hb dX8_ride_44 (by decide) ?_
          refine va_new (ci := 2) (fs := [.int 0, .int 0, .null, .null, .int 0, .int 0, .int 0, .null, .int 0, .int 0]) (C := RX2) (T := TX2) (N := 10) hx hb hts hin2 tyX2 tyX2_ok hown (hts (.classLink RX8 46 RX2) (by decide +kernel)) (hts (.instantiable RX2 10) (by decide +kernel)) (hts (.initialized RX2) (by decide +kernel)) hK hP hD hS hA rfl (by decide +kernel) (Nat.le_of_ble_eq_true rfl) (Nat.le_of_ble_eq_true rfl) dX8_ride_49 (fun q_41 H hP hD hS => ?_)
          refine W.widen (k := 2) (n := 22) (Nat.le_of_ble_eq_true rfl) (Nat.le_of_ble_eq_true rfl) ?_
          have hP := va_P.swap (a := [(h0, .inr (8, [.ref a1, .ref a2, .ref a3, .ref a4, .ref a5, .ref a6, .ref a7, .ref a8, .ref a9, .int j_faultKind, .int j_horseCount, .int j_tabletCount, .int (nI n2), .int j_lineLength, .int j_hour]))]) hP
          have hD := va_D.swap (a := [(h0, .inr (8, [.ref a1, .ref a2, .ref a3, .ref a4, .ref a5, .ref a6, .ref a7, .ref a8, .ref a9, .int j_faultKind, .int j_horseCount, .int j_tabletCount, .int (nI n2), .int j_lineLength, .int j_hour]))]) hD
          have hP : va_P (dC, dI) vwCl ([(h0, .inr (8, [.ref a1, .ref a2, .ref a3, .ref a4, .ref a5, .ref a6, .ref a7, .ref a8, .ref a9, .int j_faultKind, .int j_horseCount, .int j_tabletCount, .int (nI n2), .int j_lineLength, .int j_hour])), (q_41, .inr (2, [.int 0, .int 0, .null, .null, .int 0, .int 0, .int 0, .null, .int 0, .int 0]))] ++ va_pl L_11 f_16) H := hP
          have hD : va_D A ([(h0, .inr (8, [.ref a1, .ref a2, .ref a3, .ref a4, .ref a5, .ref a6, .ref a7, .ref a8, .ref a9, .int j_faultKind, .int j_horseCount, .int j_tabletCount, .int (nI n2), .int j_lineLength, .int j_hour])), (q_41, .inr (2, [.int 0, .int 0, .null, .null, .int 0, .int 0, .int 0, .null, .int 0, .int 0]))] ++ va_pl L_11 f_16) := hD
          refine lv_dup hx hb dX8_ride_52 rfl ?_
          refine lv_iload_n hx hb dX8_ride_53 rfl (lv_at hl 3 rfl) ?_
          refine lv_aload hx hb dX8_ride_54 (lv_at hl 1 rfl) ?_
          have hf_42 : f_16 (ad 6 u_4) = .inr (6, [.int (S_15 96 u_4 0), .ref (ad_14 35 u_4)]) := hT.get hl_30
          obtain ⟨q_43, hq_43⟩ := pl_at (X := [(h0, .inr (8, [.ref a1, .ref a2, .ref a3, .ref a4, .ref a5, .ref a6, .ref a7, .ref a8, .ref a9, .int j_faultKind, .int j_horseCount, .int j_tabletCount, .int (nI n2), .int j_lineLength, .int j_hour])), (q_41, .inr (2, [.int 0, .int 0, .null, .null, .int 0, .int 0, .int 0, .null, .int 0, .int 0]))]) (f := f_16) (e := .inr (6, [.int (S_15 96 u_4 0), .ref (ad_14 35 u_4)])) hl_30.1 hf_42
          refine va_getN (D := (dC, dI)) (ci := 6) (v := .int (S_15 96 u_4 0)) (C := RX6) (T := TX6) (N := 2) hx hb hts hin6 hown hK hP q_43 hq_43 rfl 0 (by decide) (hN.nx (.fieldLinkNest RX8 134 "YamRiders$Tablet" "rank" "I" "YamRiders") (by decide +kernel)) (fun _ h9 => h9) rfl dX8_ride_56 ?_
          refine lv_aload hx hb dX8_ride_59 (lv_at hl 0 rfl) ?_
          have hPc := hP.sub (ws' := [(q_41, .inr (2, [.int 0, .int 0, .null, .null, .int 0, .int 0, .int 0, .null, .int 0, .int 0]))]) [1] rfl
          have hDc := hD.sub (ws' := [(q_41, .inr (2, [.int 0, .int 0, .null, .null, .int 0, .int 0, .int 0, .null, .int 0, .int 0]))]) [1] (by decide) rfl
          have hKc := hK.sub (tys' := []) [] rfl
          have hFc := va_free (wc := [(q_41, .inr (2, [.int 0, .int 0, .null, .null, .int 0, .int 0, .int 0, .null, .int 0, .int 0]))]) hD hS hA [1] rfl
          refine va_callv (va_runI (As := [.int p0, .int (S_15 96 u_4 0), .ref q_33]) (rest := [.ref q_41]) ⟨hx, hb, hml, hown, hts⟩ (g_X2_init l dC dI q_41 p0 (S_15 96 u_4 0) q_33 H.size) (cwI 3 hts gX8_ride_X2_init rfl rfl rfl (hts (.initialized RX2) (by decide +kernel)) (hts (.methodLink RX8 137 yX2_init) (by decide +kernel)) (hts (.instanceMethod yX2_init) (by decide +kernel)) rfl (by decide +kernel) ⟨Nat.le_of_ble_eq_true rfl, Nat.le_of_ble_eq_true rfl⟩) ⟨c_blind, c_pre hPc hKc hDc hN⟩ rfl rfl hl.1 rfl (lv_room (Nat.le_of_ble_eq_true rfl)) dX8_ride_61 ⟨Nat.le_of_ble_eq_true rfl, Nat.le_of_ble_eq_true rfl⟩) hS (fun q _ h => hFc q h) hFc (fun u9 t9 H1 locs ht hvm hw hB hz1 hk1 hS => ?_)
          obtain ⟨q_45, k_46, f_47, hf_x_48, hP1, hK1, hD1⟩ := hB
          rw [ht] at hP1
          have hK1 := va_K.moved hvm.symm hK1
          obtain ⟨hP, hD⟩ := va_joinQ (X := [(h0, .inr (8, [.ref a1, .ref a2, .ref a3, .ref a4, .ref a5, .ref a6, .ref a7, .ref a8, .ref a9, .int j_faultKind, .int j_horseCount, .int j_tabletCount, .int (nI n2), .int j_lineLength, .int j_hour])), (q_41, .inr (2, [.int 0, .int 0, .null, .null, .int 0, .int 0, .int 0, .null, .int 0, .int 0]))]) (cx := [(q_41, .inr (2, [.int 0, .int 0, .null, .null, .int 0, .int 0, .int 0, .null, .int 0, .int 0]))]) (wr := [(h0, .inr (8, [.ref a1, .ref a2, .ref a3, .ref a4, .ref a5, .ref a6, .ref a7, .ref a8, .ref a9, .int j_faultKind, .int j_horseCount, .int j_tabletCount, .int (nI n2), .int j_lineLength, .int j_hour]))]) (w1 := [(q_41, .inr (2, [.int p0, .int (S_15 96 u_4 0), .ref q_33, .ref q_45, .int 0, .int 0, .int 0, .null, .int 0, .int 0])), (q_45, .inl (k_46, 12, .inl f_47))]) (pl := va_pl L_11 f_16) hP hD [1] [0] rfl rfl (by decide) (by decide) hk1 hFc hP1 hD1
          have hK := hK.app hK1
          have hK : va_K (dC, dI) vwCl [(cs 0, .int), (cs 1, .boolean), (cs 2, .array .int), (cs 3, .object "YamRiders$Horse"), (cs 4, .object "YamRiders$Tablet"), (cs 5, .object "YamRiders$Rider"), (k_46, .int)] s := hK
          generalize H1 = H at hP hS ⊢
          have hP : va_P (dC, dI) vwCl ([(h0, .inr (8, [.ref a1, .ref a2, .ref a3, .ref a4, .ref a5, .ref a6, .ref a7, .ref a8, .ref a9, .int j_faultKind, .int j_horseCount, .int j_tabletCount, .int (nI n2), .int j_lineLength, .int j_hour])), (q_41, .inr (2, [.int p0, .int (S_15 96 u_4 0), .ref q_33, .ref q_45, .int 0, .int 0, .int 0, .null, .int 0, .int 0])), (q_45, .inl (k_46, 12, .inl f_47))] ++ va_pl L_11 f_16) H := hP
          have hD : va_D A ([(h0, .inr (8, [.ref a1, .ref a2, .ref a3, .ref a4, .ref a5, .ref a6, .ref a7, .ref a8, .ref a9, .int j_faultKind, .int j_horseCount, .int j_tabletCount, .int (nI n2), .int j_lineLength, .int j_hour])), (q_41, .inr (2, [.int p0, .int (S_15 96 u_4 0), .ref q_33, .ref q_45, .int 0, .int 0, .int 0, .null, .int 0, .int 0])), (q_45, .inl (k_46, 12, .inl f_47))] ++ va_pl L_11 f_16) := hD
          refine W.widen (k := 3) (n := 34) (Nat.le_of_ble_eq_true rfl) (Nat.le_of_ble_eq_true rfl) ?_
          obtain rfl : k_46 = cs 0 := ka_eq hK 0 6 rfl rfl
          have hK := hK.sub (tys' := tyC cs) [0, 1, 2, 3, 4, 5] rfl
          have hP : va_P (dC, dI) vwCl ([(h0, .inr (8, [.ref a1, .ref a2, .ref a3, .ref a4, .ref a5, .ref a6, .ref a7, .ref a8, .ref a9, .int j_faultKind, .int j_horseCount, .int j_tabletCount, .int (nI n2), .int j_lineLength, .int j_hour])), (q_41, .inr (2, [.int p0, .int (S_15 96 u_4 0), .ref q_33, .ref q_45, .int 0, .int 0, .int 0, .null, .int 0, .int 0])), (q_45, .inl (cs 0, 12, .inl f_47))] ++ va_pl L_11 f_16) H := hP
          have hD : va_D A ([(h0, .inr (8, [.ref a1, .ref a2, .ref a3, .ref a4, .ref a5, .ref a6, .ref a7, .ref a8, .ref a9, .int j_faultKind, .int j_horseCount, .int j_tabletCount, .int (nI n2), .int j_lineLength, .int j_hour])), (q_41, .inr (2, [.int p0, .int (S_15 96 u_4 0), .ref q_33, .ref q_45, .int 0, .int 0, .int 0, .null, .int 0, .int 0])), (q_45, .inl (cs 0, 12, .inl f_47))] ++ va_pl L_11 f_16) := hD
          refine lv_astore (lv' := [(6, .ref q_41), (5, .ref q_33), (4, .ref (ad 6 u_4)), (0, .ref h0), (1, .int p0), (2, .int p1), (3, .int p2)]) hx hb dX8_ride_64 hl (by decide) rfl (fun ls hl => ?_)
          refine lv_aload hx hb dX8_ride_66 (lv_at hl 0 rfl) ?_
          refine lv_aload_n hx hb dX8_ride_68 rfl (lv_at hl 3 rfl) ?_
          refine va_get (D := (dC, dI)) (ci := 8) (v := .int j_hour) (C := RX8) (T := TX8) (N := 15) hx hb hts hin8 hown hK hP 0 rfl rfl 14 (by decide) (hts (.fieldLink RX8 140 "YamRiders" "hour" "I") (by decide +kernel)) (fun _ h9 => h9) rfl dX8_ride_69 ?_
          have hPc := hP.part (cx := [(q_41, .inr (2, [.int p0, .int (S_15 96 u_4 0), .ref q_33, .ref q_45, .int 0, .int 0, .int 0, .null, .int 0, .int 0])), (q_45, .inl (cs 0, 12, .inl f_47))]) [1, 2] rfl
          have hDc := hD.part (cx := [(q_41, .inr (2, [.int p0, .int (S_15 96 u_4 0), .ref q_33, .ref q_45, .int 0, .int 0, .int 0, .null, .int 0, .int 0])), (q_45, .inl (cs 0, 12, .inl f_47))]) [1, 2] (by decide) rfl
          have hKc := hK
          have hFc := va_freeP (cx := [(q_41, .inr (2, [.int p0, .int (S_15 96 u_4 0), .ref q_33, .ref q_45, .int 0, .int 0, .int 0, .null, .int 0, .int 0])), (q_45, .inl (cs 0, 12, .inl f_47))]) hD hS hA [1, 2] rfl
          refine va_callv (va_runV (As := [.int j_hour]) (rest := []) ⟨hx, hb, hml, hown, hts⟩ (e_X2_comeToX l dC dI cs L_11 ka_12 ix_13 ad_14 n0 n6 n2 S_15 f_16 j_34 q_41 q_33 q_45 p0 (S_15 96 u_4 0) 0 0 0 0 f_47 w_35 u7 j_hour H.size hT hk_36 hl_37 (by omega) hu7 hw7 e7) (cwV 1 hts gX8_ride_X2_comeToNextStation rfl rfl rfl (by decide +kernel) ⟨Nat.le_of_ble_eq_true rfl, Nat.le_of_ble_eq_true rfl⟩) ⟨c_blind, va_recv hKc hPc (ci := 2) (q0 := 0) rfl rfl, c_pre hPc hKc hDc hN⟩ rfl rfl hl.1 rfl (lv_room (Nat.le_of_ble_eq_true rfl)) dX8_ride_72 ⟨Nat.le_of_ble_eq_true rfl, Nat.le_of_ble_eq_true rfl⟩) hS (fun q _ h => hFc q h) hFc (fun u9 t9 H1 locs ht hvm hw hB hz1 hk1 hS => ?_)
          obtain ⟨v_50, g_v_51, hf_x_52, hP1, hK1, hD1⟩ := hB
          rw [ht] at hP1
          have hK1 := va_K.moved hvm.symm hK1
          obtain ⟨hP, hD⟩ := va_joinP (X := [(h0, .inr (8, [.ref a1, .ref a2, .ref a3, .ref a4, .ref a5, .ref a6, .ref a7, .ref a8, .ref a9, .int j_faultKind, .int j_horseCount, .int j_tabletCount, .int (nI n2), .int j_lineLength, .int j_hour])), (q_41, .inr (2, [.int p0, .int (S_15 96 u_4 0), .ref q_33, .ref q_45, .int 0, .int 0, .int 0, .null, .int 0, .int 0])), (q_45, .inl (cs 0, 12, .inl f_47))]) (cx := [(q_41, .inr (2, [.int p0, .int (S_15 96 u_4 0), .ref q_33, .ref q_45, .int 0, .int 0, .int 0, .null, .int 0, .int 0])), (q_45, .inl (cs 0, 12, .inl f_47))]) (wr := [(h0, .inr (8, [.ref a1, .ref a2, .ref a3, .ref a4, .ref a5, .ref a6, .ref a7, .ref a8, .ref a9, .int j_faultKind, .int j_horseCount, .int j_tabletCount, .int (nI n2), .int j_lineLength, .int j_hour]))]) (rx := [(q_41, .inr (2, [.int p0, .int (S_15 96 u_4 0), .ref q_33, .ref q_45, .int v_50, .int 1, .int j_hour, .null, .int 0, .int 0])), (q_45, .inl (cs 0, 12, .inl g_v_51))]) (pl := va_pl L_11 f_16) (pl1 := va_pl L_11 f_16) hP hD [1, 2] [0] rfl rfl (by decide) (by decide) hk1 hFc hP1 hD1
          generalize H1 = H at hP hS ⊢
          have hP : va_P (dC, dI) vwCl ([(h0, .inr (8, [.ref a1, .ref a2, .ref a3, .ref a4, .ref a5, .ref a6, .ref a7, .ref a8, .ref a9, .int j_faultKind, .int j_horseCount, .int j_tabletCount, .int (nI n2), .int j_lineLength, .int j_hour])), (q_41, .inr (2, [.int p0, .int (S_15 96 u_4 0), .ref q_33, .ref q_45, .int v_50, .int 1, .int j_hour, .null, .int 0, .int 0])), (q_45, .inl (cs 0, 12, .inl g_v_51))] ++ va_pl L_11 f_16) H := hP
          have hD : va_D A ([(h0, .inr (8, [.ref a1, .ref a2, .ref a3, .ref a4, .ref a5, .ref a6, .ref a7, .ref a8, .ref a9, .int j_faultKind, .int j_horseCount, .int j_tabletCount, .int (nI n2), .int j_lineLength, .int j_hour])), (q_41, .inr (2, [.int p0, .int (S_15 96 u_4 0), .ref q_33, .ref q_45, .int v_50, .int 1, .int j_hour, .null, .int 0, .int 0])), (q_45, .inl (cs 0, 12, .inl g_v_51))] ++ va_pl L_11 f_16) := hD
          refine W.widen (k := 3) (n := 34) (Nat.le_of_ble_eq_true rfl) (Nat.le_of_ble_eq_true rfl) ?_
          refine lv_aload_n hx hb dX8_ride_75 rfl (lv_at hl 3 rfl) ?_
          refine va_get (D := (dC, dI)) (ci := 8) (v := .ref a7) (C := RX8) (T := TX8) (N := 15) hx hb hts hin8 hown hK hP 0 rfl rfl 6 (by decide) (hts (.fieldLink RX8 48 "YamRiders" "riders" "[LYamRiders$Rider;") (by decide +kernel)) (fun _ h9 => h9) rfl dX8_ride_76 ?_
          refine lv_aload_n hx hb dX8_ride_79 rfl (lv_at hl 3 rfl) ?_
          refine va_get (D := (dC, dI)) (ci := 8) (v := .int (nI n2)) (C := RX8) (T := TX8) (N := 15) hx hb hts hin8 hown hK hP 0 rfl rfl 12 (by decide) (hts (.fieldLink RX8 124 "YamRiders" "riderCount" "I") (by decide +kernel)) (fun _ h9 => h9) rfl dX8_ride_80 ?_
          refine lv_aload hx hb dX8_ride_83 (lv_at hl 0 rfl) ?_
          have hP := hP.part (cx := [(h0, .inr (8, [.ref a1, .ref a2, .ref a3, .ref a4, .ref a5, .ref a6, .ref a7, .ref a8, .ref a9, .int j_faultKind, .int j_horseCount, .int j_tabletCount, .int (nI n2), .int j_lineLength, .int j_hour])), (q_41, .inr (2, [.int p0, .int (S_15 96 u_4 0), .ref q_33, .ref q_45, .int v_50, .int 1, .int j_hour, .null, .int 0, .int 0]))] ++ [(q_45, .inl (cs 0, 12, .inl g_v_51))]) [0, 1, 2] rfl
          have hD := hD.part (cx := [(h0, .inr (8, [.ref a1, .ref a2, .ref a3, .ref a4, .ref a5, .ref a6, .ref a7, .ref a8, .ref a9, .int j_faultKind, .int j_horseCount, .int j_tabletCount, .int (nI n2), .int j_lineLength, .int j_hour])), (q_41, .inr (2, [.int p0, .int (S_15 96 u_4 0), .ref q_33, .ref q_45, .int v_50, .int 1, .int j_hour, .null, .int 0, .int 0]))] ++ [(q_45, .inl (cs 0, 12, .inl g_v_51))]) [0, 1, 2] (by decide) rfl
          have hTo := hT
          obtain ⟨L_53, ka_54, ix_55, ad_56, f_57, j_58, S_59, hX_60, hT, hk_61, hl_62, hg_63, hc_64, hj_65, hP, hD⟩ := e_push38 (X := [(h0, .inr (8, [.ref a1, .ref a2, .ref a3, .ref a4, .ref a5, .ref a6, .ref a7, .ref a8, .ref a9, .int j_faultKind, .int j_horseCount, .int j_tabletCount, .int (nI n2), .int j_lineLength, .int j_hour])), (q_41, .inr (2, [.int p0, .int (S_15 96 u_4 0), .ref q_33, .ref q_45, .int v_50, .int 1, .int j_hour, .null, .int 0, .int 0]))]) (q := q_45) (n := 12) (by omega) hT hP hD
          have hl_66 : S_59 609 j_34 0 = nI w_35 := by rw [hc_64 609 j_34 (fun w => hj_65 _ hk_36.1 (hk_36.2.2.trans w.2))]; exact hl_37
          have hFr_67 := AG.k hFr_32 hc_64
          have hl_68 := hX_60 _ _ _ hl_21
          have hl_69 := hX_60 _ _ _ hl_22
          have hl_70 := hX_60 _ _ _ hl_23
          have hl_71 := hX_60 _ _ _ hl_24
          have hl_72 := hX_60 _ _ _ hl_25
          have hl_73 := hX_60 _ _ _ hl_26
          have hl_74 := hX_60 _ _ _ hl_27
          have hl_75 := hX_60 _ _ _ hl_28
          have hl_76 := hX_60 _ _ _ hl_29
          have hl_77 := hX_60 _ _ _ hl_30
          have hl_78 := hX_60 _ _ _ hk_36
          have hY_79 := yX.up hX_60.x hT hY_31
          have hX_80 := eX.tr hf_x_17 hX_60.x
          have hP : va_P (dC, dI) vwCl ([(h0, .inr (8, [.ref a1, .ref a2, .ref a3, .ref a4, .ref a5, .ref a6, .ref a7, .ref a8, .ref a9, .int j_faultKind, .int j_horseCount, .int j_tabletCount, .int (nI n2), .int j_lineLength, .int j_hour])), (q_41, .inr (2, [.int p0, .int (S_15 96 u_4 0), .ref q_33, .ref q_45, .int v_50, .int 1, .int j_hour, .null, .int 0, .int 0]))] ++ va_pl L_53 f_57) H := hP
          have hD : va_D A ([(h0, .inr (8, [.ref a1, .ref a2, .ref a3, .ref a4, .ref a5, .ref a6, .ref a7, .ref a8, .ref a9, .int j_faultKind, .int j_horseCount, .int j_tabletCount, .int (nI n2), .int j_lineLength, .int j_hour])), (q_41, .inr (2, [.int p0, .int (S_15 96 u_4 0), .ref q_33, .ref q_45, .int v_50, .int 1, .int j_hour, .null, .int 0, .int 0]))] ++ va_pl L_53 f_57) := hD
          have hf_81 : f_57 a7 = .inl (cs 5, 60, .inr (.inr (.inr (.inr (gl ad_56 2 n2))))) := hT.get hl_73
          obtain ⟨q_82, hq_82⟩ := pl_at (X := [(h0, .inr (8, [.ref a1, .ref a2, .ref a3, .ref a4, .ref a5, .ref a6, .ref a7, .ref a8, .ref a9, .int j_faultKind, .int j_horseCount, .int j_tabletCount, .int (nI n2), .int j_lineLength, .int j_hour])), (q_41, .inr (2, [.int p0, .int (S_15 96 u_4 0), .ref q_33, .ref q_45, .int v_50, .int 1, .int j_hour, .null, .int 0, .int 0]))]) (f := f_57) (e := .inl (cs 5, 60, .inr (.inr (.inr (.inr (gl ad_56 2 n2)))))) hl_73.1 hf_81
          refine va_astq hx hb hK hP hD hS q_82 5 1 2 hq_82 rfl rfl rfl (vp_in_nI (by omega) (by omega)) dX8_ride_85 (fun H locs hP9 hD9 hS => ?_)
          have hs_84 := pl_st (.inl (cs 5, 60, .inr (.inr (.inr (.inr (va_up (gl ad_56 2 n2) (nI n2).toNatClampNeg (some q_41))))))) hD hl_73.1 hf_81 hq_82
          have hP9 : va_P (dC, dI) vwCl ((([(h0, .inr (8, [.ref a1, .ref a2, .ref a3, .ref a4, .ref a5, .ref a6, .ref a7, .ref a8, .ref a9, .int j_faultKind, .int j_horseCount, .int j_tabletCount, .int (nI n2), .int j_lineLength, .int j_hour])), (q_41, .inr (2, [.int p0, .int (S_15 96 u_4 0), .ref q_33, .ref q_45, .int v_50, .int 1, .int j_hour, .null, .int 0, .int 0]))] : va_W) ++ va_pl L_53 f_57).set q_82 (a7, .inl (cs 5, 60, .inr (.inr (.inr (.inr (va_up (gl ad_56 2 n2) (nI n2).toNatClampNeg (some q_41)))))))) H := hP9
          have hD9 : va_D A ((([(h0, .inr (8, [.ref a1, .ref a2, .ref a3, .ref a4, .ref a5, .ref a6, .ref a7, .ref a8, .ref a9, .int j_faultKind, .int j_horseCount, .int j_tabletCount, .int (nI n2), .int j_lineLength, .int j_hour])), (q_41, .inr (2, [.int p0, .int (S_15 96 u_4 0), .ref q_33, .ref q_45, .int v_50, .int 1, .int j_hour, .null, .int 0, .int 0]))] : va_W) ++ va_pl L_53 f_57).set q_82 (a7, .inl (cs 5, 60, .inr (.inr (.inr (.inr (va_up (gl ad_56 2 n2) (nI n2).toNatClampNeg (some q_41)))))))) := hD9
          rw [hs_84, nI_clamp (by omega)] at hP9 hD9
          have hP := hP9.part (cx := [(h0, .inr (8, [.ref a1, .ref a2, .ref a3, .ref a4, .ref a5, .ref a6, .ref a7, .ref a8, .ref a9, .int j_faultKind, .int j_horseCount, .int j_tabletCount, .int (nI n2), .int j_lineLength, .int j_hour]))] ++ [(q_41, .inr (2, [.int p0, .int (S_15 96 u_4 0), .ref q_33, .ref q_45, .int v_50, .int 1, .int j_hour, .null, .int 0, .int 0]))]) [0, 1] rfl
          have hD := hD9.part (cx := [(h0, .inr (8, [.ref a1, .ref a2, .ref a3, .ref a4, .ref a5, .ref a6, .ref a7, .ref a8, .ref a9, .int j_faultKind, .int j_horseCount, .int j_tabletCount, .int (nI n2), .int j_lineLength, .int j_hour]))] ++ [(q_41, .inr (2, [.int p0, .int (S_15 96 u_4 0), .ref q_33, .ref q_45, .int v_50, .int 1, .int j_hour, .null, .int 0, .int 0]))]) [0, 1] (by decide) rfl
          clear hP9 hD9 hs_84
          obtain ⟨L_85, ka_86, ix_87, ad_88, f_89, hX_90, hT, hP, hD⟩ := e_pushR (X := [(h0, .inr (8, [.ref a1, .ref a2, .ref a3, .ref a4, .ref a5, .ref a6, .ref a7, .ref a8, .ref a9, .int j_faultKind, .int j_horseCount, .int j_tabletCount, .int (nI n2), .int j_lineLength, .int j_hour]))]) (w := w_35) (by omega) hT hl_73 hk_61 hl_78 (fun w => hj_65 _ hk_36.1 (hk_36.2.2.trans w.symm)) hl_62 (by omega) hl_66 hP hD
          obtain ⟨S_91, eS_91⟩ : ∃ S9 : Nat → Nat → Nat → Int32, S9 = newR S_59 n2 p0 (S_15 96 u_4 0) v_50 1 j_hour 0 0 j_34 j_58 := ⟨_, rfl⟩
          rw [← eS_91] at hT
          have hl_92 := hX_90 _ _ _ (by decide) hl_68
          have hl_93 := hX_90 _ _ _ (by decide) hl_69
          have hl_94 := hX_90 _ _ _ (by decide) hl_70
          have hl_95 := hX_90 _ _ _ (by decide) hl_71
          have hl_96 := hX_90 _ _ _ (by decide) hl_72
          have hl_97 := hX_90 _ _ _ (by decide) hl_73
          have hl_98 := hX_90 _ _ _ (by decide) hl_74
          have hl_99 := hX_90 _ _ _ (by decide) hl_75
          have hl_100 := hX_90 _ _ _ (by decide) hl_76
          have hl_101 := hX_90 _ _ _ (by decide) hl_77
          have hY_104 := yX.up hX_90 hT hY_79
          have hX_105 := eX.tr hX_80 hX_90
          have hP : va_P (dC, dI) vwCl ([(h0, .inr (8, [.ref a1, .ref a2, .ref a3, .ref a4, .ref a5, .ref a6, .ref a7, .ref a8, .ref a9, .int j_faultKind, .int j_horseCount, .int j_tabletCount, .int (nI n2), .int j_lineLength, .int j_hour]))] ++ va_pl L_85 f_89) H := hP
          have hD : va_D A ([(h0, .inr (8, [.ref a1, .ref a2, .ref a3, .ref a4, .ref a5, .ref a6, .ref a7, .ref a8, .ref a9, .int j_faultKind, .int j_horseCount, .int j_tabletCount, .int (nI n2), .int j_lineLength, .int j_hour]))] ++ va_pl L_85 f_89) := hD
          refine lv_aload_n hx hb dX8_ride_86 rfl (lv_at hl 3 rfl) ?_
          refine lv_dup hx hb dX8_ride_87 rfl ?_
          refine va_get (D := (dC, dI)) (ci := 8) (v := .int (nI n2)) (C := RX8) (T := TX8) (N := 15) hx hb hts hin8 hown hK hP 0 rfl rfl 12 (by decide) (hts (.fieldLink RX8 124 "YamRiders" "riderCount" "I") (by decide +kernel)) (fun _ h9 => h9) rfl dX8_ride_88 ?_
          refine lv_iconst (v := 1) hx hb dX8_ride_91 (by decide) ?_
          refine lv_iadd hx hb dX8_ride_92 ?_
          refine lv_topi (fun y_106 ey_106 => ?_)
          obtain rfl : y_106 = nI (n2 + 1) := ey_106.trans (nI_1 n2)
          refine va_put (D := (dC, dI)) (ci := 8) (v := .int (nI (n2 + 1))) (ty := (tyX8 12)) (C := RX8) (T := TX8) (N := 15) hx hb hts hin8 tyX8 tyX8_ok nmX8 hown hK hP hD hS 0 rfl rfl 12 (by decide) (hts (.fieldLink RX8 124 "YamRiders" "riderCount" "I") (by decide +kernel)) (fun _ h9 => h9) rfl (by decide +kernel) rfl rfl (Nat.le_of_ble_eq_true rfl) dX8_ride_93 (fun H locs hP hD hS => ?_)
          have hP : va_P (dC, dI) vwCl ([(h0, .inr (8, [.ref a1, .ref a2, .ref a3, .ref a4, .ref a5, .ref a6, .ref a7, .ref a8, .ref a9, .int j_faultKind, .int j_horseCount, .int j_tabletCount, .int (nI (n2 + 1)), .int j_lineLength, .int j_hour]))] ++ va_pl L_85 f_89) H := hP
          have hD : va_D A ([(h0, .inr (8, [.ref a1, .ref a2, .ref a3, .ref a4, .ref a5, .ref a6, .ref a7, .ref a8, .ref a9, .int j_faultKind, .int j_horseCount, .int j_tabletCount, .int (nI (n2 + 1)), .int j_lineLength, .int j_hour]))] ++ va_pl L_85 f_89) := hD
          refine lv_aload_n hx hb dX8_ride_96 rfl (lv_at hl 3 rfl) ?_
          refine va_get (D := (dC, dI)) (ci := 8) (v := .int (nI (n2 + 1))) (C := RX8) (T := TX8) (N := 15) hx hb hts hin8 hown hK hP 0 rfl rfl 12 (by decide) (hts (.fieldLink RX8 124 "YamRiders" "riderCount" "I") (by decide +kernel)) (fun _ h9 => h9) rfl dX8_ride_97 ?_
          refine lv_iconst (v := 1) hx hb dX8_ride_100 (by decide) ?_
          refine lv_isub hx hb dX8_ride_101 ?_
          have hP9 := hP.part (cx := [(h0, .inr (8, [.ref a1, .ref a2, .ref a3, .ref a4, .ref a5, .ref a6, .ref a7, .ref a8, .ref a9, .int j_faultKind, .int j_horseCount, .int j_tabletCount, .int (nI (n2 + 1)), .int j_lineLength, .int j_hour]))]) [0] rfl
          have hD9 := hD.part (cx := [(h0, .inr (8, [.ref a1, .ref a2, .ref a3, .ref a4, .ref a5, .ref a6, .ref a7, .ref a8, .ref a9, .int j_faultKind, .int j_horseCount, .int j_tabletCount, .int (nI (n2 + 1)), .int j_lineLength, .int j_hour]))]) [0] (by decide) rfl
          have hK9 := hK.sub (tys' := []) [] rfl
          refine W.widen (k := 3) (n := 34) (Nat.le_of_ble_eq_true rfl) (Nat.le_of_ble_eq_true rfl) ?_
          exact W.iret (v := (nI (n2 + 1)) - 1) hx hb hr (fun t9 ht hW => ⟨⟨_, (nI (n2 + 1)) - 1, rfl, rfl, L_85, ka_86, ix_87, ad_88, S_91, f_89, (n2 + 1), hX_105, hT, (by have h9 := hT.b2; omega), (Or.inr ⟨rfl, nI_pred n2, rc60, ⟨u_4, hu_4, eu_4, NR_i hFr_67 hy_39 hu7 e7 (by omega) (by rw [hc_64 608 j_34 (fun w => (fun w => hj_65 _ hk_36.1 (hk_36.2.2.trans w.symm)) w.2.symm)]) hl_66 hg_63 hf_x_48 hf_x_52 (eS_91.trans (by rw [hf_x_19 96 (by decide)]))⟩, hr_6.elim (fun q => absurd (q.1.symm.trans c_7) (by decide)) (fun q => q.2)⟩), by rw [ht]; exact hP9, va_K.moved hW.alike hK9, hD9⟩, hS.F ht⟩) hS.2.2 dX8_ride_102
      · refine lv_iconst (v := (-1)) hx hb dX8_ride_29 (by decide) ?_
        have hP9 := hP.part (cx := [(h0, .inr (8, [.ref a1, .ref a2, .ref a3, .ref a4, .ref a5, .ref a6, .ref a7, .ref a8, .ref a9, .int j_faultKind, .int j_horseCount, .int j_tabletCount, .int (nI n2), .int j_lineLength, .int j_hour]))]) [0] rfl
        have hD9 := hD.part (cx := [(h0, .inr (8, [.ref a1, .ref a2, .ref a3, .ref a4, .ref a5, .ref a6, .ref a7, .ref a8, .ref a9, .int j_faultKind, .int j_horseCount, .int j_tabletCount, .int (nI n2), .int j_lineLength, .int j_hour]))]) [0] (by decide) rfl
        have hK9 := hK.sub (tys' := []) [] rfl
        refine W.widen (k := 3) (n := 34) (Nat.le_of_ble_eq_true rfl) (Nat.le_of_ble_eq_true rfl) ?_
        exact W.iret (v := (-1)) hx hb hr (fun t9 ht hW => ⟨⟨_, (-1), rfl, rfl, L, ka, ix, ad, S, f, n2, (fun _ _ _ _ h => h), hT, (by have h9 := hT.b2; omega), (Or.inl ⟨rfl, rfl, AG.rf, (Or.inr (Or.inr (Or.inl (hr_6.elim (fun q => q.2) (fun q => absurd q.1 c_7)))))⟩), by rw [ht]; exact hP9, va_K.moved hW.alike hK9, hD9⟩, hS.F ht⟩) hS.2.2 dX8_ride_30
