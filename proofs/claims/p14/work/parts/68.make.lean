set_option maxHeartbeats 4000000 in
set_option maxRecDepth 100000 in
theorem g_X0_init (l : Launch) (dC : Nat → ClassId) (dI : Nat → Nat → Nat) (h0 : Nat) (p0 : Int32) (p1 : Int32) (p2 : Int32) (sz : Nat) : Met l yX0_init wsX0_init ({ frames := 1, cells := 0, slots := 0, locals := 20 }) (va_Pc [.ref h0, .int p0, .int p1, .int p2] (cP dC dI [(h0, .inr (0, [.int 0, .int 0, .int 0]))] [] sz)) (va_Qv (fun (_ : Unit) => True) (fun (_ : Unit) t9 => cQ dC dI [(h0, .inr (0, [.int p0, .int p1, .int p2]))] [] (va_A [(h0, .inr (0, [.int 0, .int 0, .int 0]))] sz) t9) (va_A [(h0, .inr (0, [.int 0, .int 0, .int 0]))] sz)) 0 0 (va_A [(h0, .inr (0, [.int 0, .int 0, .int 0]))] sz) := by
  refine Met.ofW (cc := cX0_init) (maxL := 4) (ret := none) (by decide) rfl ?_
  intro p e s m args below meth c s₁ B hml hv
  obtain ⟨rfl, hsz, hP, hK, hD0, hN⟩ := hv
  have hx := B.exec
  have hb := B.bytes
  have hr := B.returns
  have hts := atoms_spec (ws := wsX0_init) B.pre
  have hown : s.vm.findClass RX0 = some m.cls := findClass_of_methodNamed B.named
  have hlocks := B.notSynchronized
  have hin : meth.name = "<init>" := (name_of_methodNamed B.named B.method).1
  subst hsz
  have hin0 : ∀ w ∈ u_ws RX0 TX0 3, w ∈ wsX0_init := by decide +kernel
  have hD := hD0.self (sz := s.heap.size)
  generalize hAe : va_A [(h0, .inr (0, [.int 0, .int 0, .int 0]))] s.heap.size = A at hD ⊢
  have hA : ∀ q : Nat, s.heap.size ≤ q → A q := fun q h => by rw [← hAe]; exact Or.inr h
  have hS : va_S A s.heap s.heap [] := va_S.rf
  have hP : va_P (dC, dI) vwCl [(h0, .inr (0, [.int 0, .int 0, .int 0]))] s.heap := hP
  have hl := lv_entry ([.ref h0, .int p0, .int p1, .int p2]) (n := 4) (Nat.le_of_ble_eq_true rfl)
  rw [lg_entry_eq]
  generalize (lg_sl ([.ref h0, .int p0, .int p1, .int p2]) ++ List.replicate (4 - (lg_sl ([.ref h0, .int p0, .int p1, .int p2])).length) Slot.unset).toArray = ls at hl ⊢
  have hl : lv_has ls 4 [(0, .ref h0), (1, .int p0), (2, .int p1), (3, .int p2)] := hl
  refine lv_aload_n hx hb dX0_init_0 rfl (lv_at hl 0 rfl) ?_
  refine W.objInit hx hb hown (hts (.methodLink RX0 1 objectInit) (by decide +kernel)) (hts (.instanceMethod objectInit) (by decide +kernel)) (hts (.code objectInit ⟨#[0xb1]⟩ 1 none) (by decide +kernel)) rfl (by rw [hml]; exact hl.1) rfl dX0_init_1 (Nat.le_of_ble_eq_true rfl) (Nat.le_of_ble_eq_true rfl) ?_
  refine W.eq (g2 := F0 m 4 ls []) rfl ?_
  refine lv_aload_n hx hb dX0_init_4 rfl (lv_at hl 0 rfl) ?_
  refine lv_iload_n hx hb dX0_init_5 rfl (lv_at hl 1 rfl) ?_
  refine va_putF (D := (dC, dI)) (ci := 0) (v := .int p0) (ty := (tyX0 0)) (C := RX0) (T := TX0) (N := 3) hx hb hts hin0 tyX0 tyX0_ok nmX0 hown hK hP hD hS 0 rfl rfl 0 (by decide) (hts (.fieldLink RX0 7 "YamRiders$Horse" "number" "I") (by decide +kernel)) (fun _ h9 => h9) rfl hin rfl (by decide +kernel) rfl rfl (Nat.le_of_ble_eq_true rfl) dX0_init_6 (fun H locs hP hD hS => ?_)
  have hP : va_P (dC, dI) vwCl [(h0, .inr (0, [.int p0, .int 0, .int 0]))] H := hP
  have hD : va_D A [(h0, .inr (0, [.int p0, .int 0, .int 0]))] := hD
  refine lv_aload_n hx hb dX0_init_9 rfl (lv_at hl 0 rfl) ?_
  refine lv_iload_n hx hb dX0_init_10 rfl (lv_at hl 2 rfl) ?_
  refine va_put (D := (dC, dI)) (ci := 0) (v := .int p1) (ty := (tyX0 1)) (C := RX0) (T := TX0) (N := 3) hx hb hts hin0 tyX0 tyX0_ok nmX0 hown hK hP hD hS 0 rfl rfl 1 (by decide) (hts (.fieldLink RX0 13 "YamRiders$Horse" "station" "I") (by decide +kernel)) (fun _ h9 => h9) rfl (by decide +kernel) rfl rfl (Nat.le_of_ble_eq_true rfl) dX0_init_11 (fun H locs hP hD hS => ?_)
  have hP : va_P (dC, dI) vwCl [(h0, .inr (0, [.int p0, .int p1, .int 0]))] H := hP
  have hD : va_D A [(h0, .inr (0, [.int p0, .int p1, .int 0]))] := hD
  refine lv_aload_n hx hb dX0_init_14 rfl (lv_at hl 0 rfl) ?_
  refine lv_iload_n hx hb dX0_init_15 rfl (lv_at hl 3 rfl) ?_
  refine va_put (D := (dC, dI)) (ci := 0) (v := .int p2) (ty := (tyX0 2)) (C := RX0) (T := TX0) (N := 3) hx hb hts hin0 tyX0 tyX0_ok nmX0 hown hK hP hD hS 0 rfl rfl 2 (by decide) (hts (.fieldLink RX0 16 "YamRiders$Horse" "strength" "I") (by decide +kernel)) (fun _ h9 => h9) rfl (by decide +kernel) rfl rfl (Nat.le_of_ble_eq_true rfl) dX0_init_16 (fun H locs hP hD hS => ?_)
  have hP : va_P (dC, dI) vwCl [(h0, .inr (0, [.int p0, .int p1, .int p2]))] H := hP
  have hD : va_D A [(h0, .inr (0, [.int p0, .int p1, .int p2]))] := hD
  have hP9 := hP.sub (ws' := [(h0, .inr (0, [.int p0, .int p1, .int p2]))]) [0] rfl
  have hD9 := hD.sub (ws' := [(h0, .inr (0, [.int p0, .int p1, .int p2]))]) [0] (by decide) rfl
  have hK9 := hK.sub (tys' := []) [] rfl
  refine W.widen (k := 0) (n := 0) (Nat.le_of_ble_eq_true rfl) (Nat.le_of_ble_eq_true rfl) ?_
  exact W.vret hx hb hr (fun t9 ht hW => ⟨⟨(), rfl, trivial, by rw [ht]; exact hP9, va_K.moved hW.alike hK9, hD9⟩, hS.F ht⟩) hS.2.2 dX0_init_19

set_option maxHeartbeats 4000000 in
set_option maxRecDepth 100000 in
theorem c_J7_fill (l : Launch) (dC : Nat → ClassId) (dI : Nat → Nat → Nat) (b1 : Nat) (k1 : ClassId) (f1 : Nat → Int32) (p0 : Int32) (sz : Nat) : Met l yJ7_fill_53178 wsJ7_fill_53178 ({ frames := 0, cells := 0, slots := 0, locals := 0 }) (va_Pc [.ref b1, .int p0] (cP dC dI [(b1, .inl (k1, 12, .inl f1))] [(k1, .int)] sz)) (va_Qv (fun (_ : Unit) => True) (fun (_ : Unit) t9 => ∃ (f2 : Nat → Int32), cQ dC dI [(b1, .inl (k1, 12, .inl f2))] [] (va_A [(b1, .inl (k1, 12, .inl f1))] sz) t9) (va_A [(b1, .inl (k1, 12, .inl f1))] sz)) 0 0 (va_A [(b1, .inl (k1, 12, .inl f1))] sz) := by
  refine Met.ofW (cc := cJ7_fill_53178) (maxL := 4) (ret := none) (by decide) rfl ?_
  intro p e s m args below meth c s₁ B hml hv
  obtain ⟨rfl, hsz, hP, hK, hD0, hN⟩ := hv
  have hx := B.exec
  have hb := B.bytes
  have hr := B.returns
  have hts := atoms_spec (ws := wsJ7_fill_53178) B.pre
  have hown : s.vm.findClass RJ7 = some m.cls := findClass_of_methodNamed B.named
  have hlocks := B.notSynchronized
  subst hsz
  have hD := hD0.self (sz := s.heap.size)
  generalize hAe : va_A [(b1, .inl (k1, 12, .inl f1))] s.heap.size = A at hD ⊢
  have hA : ∀ q : Nat, s.heap.size ≤ q → A q := fun q h => by rw [← hAe]; exact Or.inr h
  have hS : va_S A s.heap s.heap [] := va_S.rf
  have hP : va_P (dC, dI) vwCl [(b1, .inl (k1, 12, .inl f1))] s.heap := hP
  have hl := lv_entry ([.ref b1, .int p0]) (n := 4) (Nat.le_of_ble_eq_true rfl)
  rw [lg_entry_eq]
  generalize (lg_sl ([.ref b1, .int p0]) ++ List.replicate (4 - (lg_sl ([.ref b1, .int p0])).length) Slot.unset).toArray = ls at hl ⊢
  have hl : lv_has ls 4 [(0, .ref b1), (1, .int p0)] := hl
  refine lv_iconst (v := 0) hx hb dJ7_fill_53178_0 (by decide) ?_
  refine lv_istore_n (lv' := [(2, .int 0), (0, .ref b1), (1, .int p0)]) hx hb dJ7_fill_53178_1 rfl hl (by decide) rfl (fun ls hl => ?_)
  refine lv_aload_n hx hb dJ7_fill_53178_2 rfl (lv_at hl 1 rfl) ?_
  refine va_alen (v := 12) hx hb hK hP 0 0 rfl rfl rfl dJ7_fill_53178_3 ?_
  refine lv_istore_n (lv' := [(3, .int 12), (2, .int 0), (0, .ref b1), (1, .int p0)]) hx hb dJ7_fill_53178_4 rfl hl (by decide) rfl (fun ls hl => ?_)
  have HL : ∀ (n k : Nat) (f : Nat → Int32), k ≤ 12 → 12 + 1 ≤ k + n → ∀ (H : Heap) (locs : List Loc), va_P (dC, dI) vwCl [(b1, .inl (k1, 12, .inl f))] H → va_D A [(b1, .inl (k1, 12, .inl f))] → va_S A s.heap H locs → ∀ ls : Array Slot, lv_has ls 4 [(0, .ref b1), (1, .int p0), (2, .int (nI k)), (3, .int 12)] → W p l e (headSpec wsJ7_fill_53178 ({ frames := 0, cells := 0, slots := 0, locals := 0 })).room s m ([.ref b1, .int p0]).toArray below meth c H locs 0 0 (MQ below (va_Qv (fun (_ : Unit) => True) (fun (_ : Unit) t9 => ∃ (f2 : Nat → Int32), cQ dC dI [(b1, .inl (k1, 12, .inl f2))] [] A t9) A) ([.ref b1, .int p0]).toArray s 0 0 A) (F0 m 5 ls []) := by
    intro n
    induction n with
    | zero => intro k f h1 h2; exact absurd h2 (by omega)
    | succ n ih =>
      intro k f hk hn H locs hP hD hS ls hl
      refine lv_iload_n hx hb dJ7_fill_53178_5 rfl (lv_at hl 2 rfl) ?_
      refine lv_iload_n hx hb dJ7_fill_53178_6 rfl (lv_at hl 3 rfl) ?_
      refine lv_icmp_ge (tgt := 20) hx hb dJ7_fill_53178_7 (by decide) (fun c_1 => ?_) (fun c_1 => ?_)
      · have hke : k = 12 := by
          rcases Nat.lt_or_ge k 12 with q | q
          · exact absurd c_1 (nI_ge q (by decide))
          · omega
        have hP9 := hP.sub (ws' := [(b1, .inl (k1, 12, .inl f))]) [0] rfl
        have hD9 := hD.sub (ws' := [(b1, .inl (k1, 12, .inl f))]) [0] (by decide) rfl
        have hK9 := hK.sub (tys' := []) [] rfl
        refine W.widen (k := 0) (n := 0) (Nat.le_of_ble_eq_true rfl) (Nat.le_of_ble_eq_true rfl) ?_
        exact W.vret hx hb hr (fun t9 ht hW => ⟨⟨(), rfl, trivial, f, by rw [ht]; exact hP9, va_K.moved hW.alike hK9, hD9⟩, hS.F ht⟩) hS.2.2 dJ7_fill_53178_20
      · have hlt : k < 12 := by
          rcases Nat.lt_or_ge k 12 with q | q
          · exact q
          · exact absurd (show nI 12 ≤ nI k from nI_le q (by omega)) c_1
        refine lv_aload_n hx hb dJ7_fill_53178_10 rfl (lv_at hl 0 rfl) ?_
        refine lv_iload_n hx hb dJ7_fill_53178_11 rfl (lv_at hl 2 rfl) ?_
        refine lv_iload_n hx hb dJ7_fill_53178_12 rfl (lv_at hl 1 rfl) ?_
        refine va_iast hx hb hK hP hD hS 0 0 rfl rfl (vp_in_nI hlt (by decide)) dJ7_fill_53178_13 (fun H locs hP hD hS => ?_)
        have hP : va_P (dC, dI) vwCl [(b1, .inl (k1, 12, .inl (upd f (nI k).toNatClampNeg p0)))] H := hP
        have hD : va_D A [(b1, .inl (k1, 12, .inl (upd f (nI k).toNatClampNeg p0)))] := hD
        obtain ⟨f_2, ef_2⟩ : ∃ w9 : Nat → Int32, w9 = upd f (nI k).toNatClampNeg p0 := ⟨_, rfl⟩
        rw [← ef_2] at hP hD
        refine lv_iinc (v := nI (k + 1)) (lv' := [(2, .int (nI (k + 1))), (0, .ref b1), (1, .int p0), (3, .int 12)]) hx hb dJ7_fill_53178_14 hl (k := 2) rfl (by exact (nI_1 k)) (by decide) rfl (fun ls hl => ?_)
        refine lv_goto (tgt := 5) hx hb dJ7_fill_53178_17 (by decide) ?_
        exact ih (k + 1) f_2 (by omega) (by omega) _ _ (hP.sub [0] rfl) (hD.sub [0] (by decide) rfl) hS ls (lv_sub hl [1, 2, 0, 3] rfl)
  exact HL 13 0 f1 (by omega) (by omega) _ _ (hP.sub [0] rfl) (hD.sub [0] (by decide) rfl) hS ls (lv_sub hl [2, 3, 1, 0] rfl)

set_option maxHeartbeats 4000000 in
set_option maxRecDepth 100000 in
theorem g_X6_init (l : Launch) (dC : Nat → ClassId) (dI : Nat → Nat → Nat) (h0 : Nat) (p0 : Int32) (sz : Nat) : Met l yX6_init wsX6_init ({ frames := 1, cells := 1, slots := 12, locals := 23 }) (va_Pc [.ref h0, .int p0] (cP dC dI [(h0, .inr (6, [.int 0, .null]))] [] sz)) (va_Qv (fun (_ : Unit) => True) (fun (_ : Unit) t9 => ∃ (q1 : Nat) (k1 : ClassId) (f1 : Nat → Int32), cQ dC dI [(h0, .inr (6, [.int p0, .ref q1])), (q1, .inl (k1, 12, .inl f1))] [(k1, .int)] (va_A [(h0, .inr (6, [.int 0, .null]))] sz) t9) (va_A [(h0, .inr (6, [.int 0, .null]))] sz)) 1 12 (va_A [(h0, .inr (6, [.int 0, .null]))] sz) := by
  refine Met.ofW (cc := cX6_init) (maxL := 2) (ret := none) (by decide) rfl ?_
  intro p e s m args below meth c s₁ B hml hv
  obtain ⟨rfl, hsz, hP, hK, hD0, hN⟩ := hv
  have hx := B.exec
  have hb := B.bytes
  have hr := B.returns
  have hts := atoms_spec (ws := wsX6_init) B.pre
  have hown : s.vm.findClass RX6 = some m.cls := findClass_of_methodNamed B.named
  have hlocks := B.notSynchronized
  have hin : meth.name = "<init>" := (name_of_methodNamed B.named B.method).1
  subst hsz
  have hin6 : ∀ w ∈ u_ws RX6 TX6 2, w ∈ wsX6_init := by decide +kernel
  have hD := hD0.self (sz := s.heap.size)
  generalize hAe : va_A [(h0, .inr (6, [.int 0, .null]))] s.heap.size = A at hD ⊢
  have hA : ∀ q : Nat, s.heap.size ≤ q → A q := fun q h => by rw [← hAe]; exact Or.inr h
  have hS : va_S A s.heap s.heap [] := va_S.rf
  have hP : va_P (dC, dI) vwCl [(h0, .inr (6, [.int 0, .null]))] s.heap := hP
  have hl := lv_entry ([.ref h0, .int p0]) (n := 2) (Nat.le_of_ble_eq_true rfl)
  rw [lg_entry_eq]
  generalize (lg_sl ([.ref h0, .int p0]) ++ List.replicate (2 - (lg_sl ([.ref h0, .int p0])).length) Slot.unset).toArray = ls at hl ⊢
  have hl : lv_has ls 2 [(0, .ref h0), (1, .int p0)] := hl
  refine lv_aload_n hx hb dX6_init_0 rfl (lv_at hl 0 rfl) ?_
  refine W.objInit hx hb hown (hts (.methodLink RX6 3 objectInit) (by decide +kernel)) (hts (.instanceMethod objectInit) (by decide +kernel)) (hts (.code objectInit ⟨#[0xb1]⟩ 1 none) (by decide +kernel)) rfl (by rw [hml]; exact hl.1) rfl dX6_init_1 (Nat.le_of_ble_eq_true rfl) (Nat.le_of_ble_eq_true rfl) ?_
  refine W.eq (g2 := F0 m 4 ls []) rfl ?_
  refine lv_aload_n hx hb dX6_init_4 rfl (lv_at hl 0 rfl) ?_
  refine lv_bipush (v := 12) hx hb dX6_init_5 (by decide) ?_
  refine va_newa (atype := .int) (ty := .int) (a0 := (12, .inl (fun _ => 0))) (N' := 12) hx hb (hts (.arrayClass .int) (by decide +kernel)) rfl hK hP hD hS hA (fun _ => rfl) (by decide) (by decide) (by decide) (Nat.le_of_ble_eq_true rfl) (Nat.le_of_ble_eq_true rfl) dX6_init_7 (fun q_1 k_2 H hK hP hD hS => ?_)
  refine W.widen (k := 1) (n := 12) (Nat.le_of_ble_eq_true rfl) (Nat.le_of_ble_eq_true rfl) ?_
  have hK : va_K (dC, dI) vwCl [(k_2, .int)] s := hK
  have hP : va_P (dC, dI) vwCl [(h0, .inr (6, [.int 0, .null])), (q_1, .inl (k_2, 12, .inl (fun _ => 0)))] H := hP
  have hD : va_D A [(h0, .inr (6, [.int 0, .null])), (q_1, .inl (k_2, 12, .inl (fun _ => 0)))] := hD
  refine va_putF (D := (dC, dI)) (ci := 6) (v := .ref q_1) (ty := (tyX6 1)) (C := RX6) (T := TX6) (N := 2) hx hb hts hin6 tyX6 tyX6_ok nmX6 hown hK hP hD hS 0 rfl rfl 1 (by decide) (hts (.fieldLink RX6 9 "YamRiders$Tablet" "since" "[I") (by decide +kernel)) (fun _ h9 => h9) rfl hin rfl (by decide +kernel) rfl rfl (Nat.le_of_ble_eq_true rfl) dX6_init_9 (fun H locs hP hD hS => ?_)
  have hP : va_P (dC, dI) vwCl [(h0, .inr (6, [.int 0, .ref q_1])), (q_1, .inl (k_2, 12, .inl (fun _ => 0)))] H := hP
  have hD : va_D A [(h0, .inr (6, [.int 0, .ref q_1])), (q_1, .inl (k_2, 12, .inl (fun _ => 0)))] := hD
  refine lv_aload_n hx hb dX6_init_12 rfl (lv_at hl 0 rfl) ?_
  refine lv_iload_n hx hb dX6_init_13 rfl (lv_at hl 1 rfl) ?_
  refine va_putF (D := (dC, dI)) (ci := 6) (v := .int p0) (ty := (tyX6 0)) (C := RX6) (T := TX6) (N := 2) hx hb hts hin6 tyX6 tyX6_ok nmX6 hown hK hP hD hS 0 rfl rfl 0 (by decide) (hts (.fieldLink RX6 15 "YamRiders$Tablet" "rank" "I") (by decide +kernel)) (fun _ h9 => h9) rfl hin rfl (by decide +kernel) rfl rfl (Nat.le_of_ble_eq_true rfl) dX6_init_14 (fun H locs hP hD hS => ?_)
  have hP : va_P (dC, dI) vwCl [(h0, .inr (6, [.int p0, .ref q_1])), (q_1, .inl (k_2, 12, .inl (fun _ => 0)))] H := hP
  have hD : va_D A [(h0, .inr (6, [.int p0, .ref q_1])), (q_1, .inl (k_2, 12, .inl (fun _ => 0)))] := hD
  refine lv_aload_n hx hb dX6_init_17 rfl (lv_at hl 0 rfl) ?_
  refine va_get (D := (dC, dI)) (ci := 6) (v := .ref q_1) (C := RX6) (T := TX6) (N := 2) hx hb hts hin6 hown hK hP 0 rfl rfl 1 (by decide) (hts (.fieldLink RX6 9 "YamRiders$Tablet" "since" "[I") (by decide +kernel)) (fun _ h9 => h9) rfl dX6_init_18 ?_
  refine lv_iconst (v := (-1)) hx hb dX6_init_21 (by decide) ?_
  have hPc := hP.sub (ws' := [(q_1, .inl (k_2, 12, .inl (fun _ => 0)))]) [1] rfl
  have hDc := hD.sub (ws' := [(q_1, .inl (k_2, 12, .inl (fun _ => 0)))]) [1] (by decide) rfl
  have hKc := hK.sub (tys' := [(k_2, .int)]) [0] rfl
  have hFc := va_free (wc := [(q_1, .inl (k_2, 12, .inl (fun _ => 0)))]) hD hS hA [1] rfl
  refine va_callv (va_runS (As := [.ref q_1, .int (-1)]) (rest := []) ⟨hx, hb, hml, hown, hts⟩ (c_J7_fill l dC dI q_1 k_2 (fun _ => 0) (-1) H.size) (va_cwS 2 hts gX6_init_J7_fill_53178 rfl rfl rfl (by decide +kernel) ⟨Nat.le_of_ble_eq_true rfl, Nat.le_of_ble_eq_true rfl⟩) ⟨c_blind, c_pre hPc hKc hDc hN⟩ rfl rfl hl.1 rfl (lv_room (Nat.le_of_ble_eq_true rfl)) dX6_init_22 ⟨Nat.le_of_ble_eq_true rfl, Nat.le_of_ble_eq_true rfl⟩) hS (fun q _ h => hFc q h) hFc (fun u9 t9 H1 locs ht hvm hw hB hz1 hk1 hS => ?_)
  obtain ⟨f_4, hP1, hK1, hD1⟩ := hB
  rw [ht] at hP1
  have hK1 := va_K.moved hvm.symm hK1
  obtain ⟨hP, hD⟩ := va_join (wr := [(h0, .inr (6, [.int p0, .ref q_1]))]) (w1 := [(q_1, .inl (k_2, 12, .inl f_4))]) hP hD [1] [0] rfl rfl (by decide) (by decide) hk1 hFc hP1 hD1
  have hK := (hK.sub (tys' := [(k_2, .int)]) [0] rfl).app hK1
  generalize H1 = H at hP hS ⊢
  have hK : va_K (dC, dI) vwCl [(k_2, .int)] s := hK
  have hP : va_P (dC, dI) vwCl [(h0, .inr (6, [.int p0, .ref q_1])), (q_1, .inl (k_2, 12, .inl f_4))] H := hP
  have hD : va_D A [(h0, .inr (6, [.int p0, .ref q_1])), (q_1, .inl (k_2, 12, .inl f_4))] := hD
  refine W.widen (k := 1) (n := 12) (Nat.le_of_ble_eq_true rfl) (Nat.le_of_ble_eq_true rfl) ?_
  have hP9 := hP.sub (ws' := [(h0, .inr (6, [.int p0, .ref q_1])), (q_1, .inl (k_2, 12, .inl f_4))]) [0, 1] rfl
  have hD9 := hD.sub (ws' := [(h0, .inr (6, [.int p0, .ref q_1])), (q_1, .inl (k_2, 12, .inl f_4))]) [0, 1] (by decide) rfl
  have hK9 := hK.sub (tys' := [(k_2, .int)]) [0] rfl
  refine W.widen (k := 1) (n := 12) (Nat.le_of_ble_eq_true rfl) (Nat.le_of_ble_eq_true rfl) ?_
  exact W.vret hx hb hr (fun t9 ht hW => ⟨⟨(), rfl, trivial, q_1, k_2, f_4, by rw [ht]; exact hP9, va_K.moved hW.alike hK9, hD9⟩, hS.F ht⟩) hS.2.2 dX6_init_25

set_option maxHeartbeats 4000000 in
set_option maxRecDepth 100000 in
theorem g_X2_init (l : Launch) (dC : Nat → ClassId) (dI : Nat → Nat → Nat) (h0 : Nat) (p0 : Int32) (p1 : Int32) (s1 : Nat) (sz : Nat) : Met l yX2_init wsX2_init ({ frames := 1, cells := 1, slots := 12, locals := 23 }) (va_Pc [.ref h0, .int p0, .int p1, .ref s1] (cP dC dI [(h0, .inr (2, [.int 0, .int 0, .null, .null, .int 0, .int 0, .int 0, .null, .int 0, .int 0]))] [] sz)) (va_Qv (fun (_ : Unit) => True) (fun (_ : Unit) t9 => ∃ (q1 : Nat) (k1 : ClassId) (f1 : Nat → Int32), cQ dC dI [(h0, .inr (2, [.int p0, .int p1, .ref s1, .ref q1, .int 0, .int 0, .int 0, .null, .int 0, .int 0])), (q1, .inl (k1, 12, .inl f1))] [(k1, .int)] (va_A [(h0, .inr (2, [.int 0, .int 0, .null, .null, .int 0, .int 0, .int 0, .null, .int 0, .int 0]))] sz) t9) (va_A [(h0, .inr (2, [.int 0, .int 0, .null, .null, .int 0, .int 0, .int 0, .null, .int 0, .int 0]))] sz)) 1 12 (va_A [(h0, .inr (2, [.int 0, .int 0, .null, .null, .int 0, .int 0, .int 0, .null, .int 0, .int 0]))] sz) := by
  refine Met.ofW (cc := cX2_init) (maxL := 4) (ret := none) (by decide) rfl ?_
  intro p e s m args below meth c s₁ B hml hv
  obtain ⟨rfl, hsz, hP, hK, hD0, hN⟩ := hv
  have hx := B.exec
  have hb := B.bytes
  have hr := B.returns
  have hts := atoms_spec (ws := wsX2_init) B.pre
  have hown : s.vm.findClass RX2 = some m.cls := findClass_of_methodNamed B.named
  have hlocks := B.notSynchronized
  have hin : meth.name = "<init>" := (name_of_methodNamed B.named B.method).1
  subst hsz
  have hin2 : ∀ w ∈ u_ws RX2 TX2 10, w ∈ wsX2_init := by decide +kernel
  have hD := hD0.self (sz := s.heap.size)
  generalize hAe : va_A [(h0, .inr (2, [.int 0, .int 0, .null, .null, .int 0, .int 0, .int 0, .null, .int 0, .int 0]))] s.heap.size = A at hD ⊢
  have hA : ∀ q : Nat, s.heap.size ≤ q → A q := fun q h => by rw [← hAe]; exact Or.inr h
  have hS : va_S A s.heap s.heap [] := va_S.rf
  have hP : va_P (dC, dI) vwCl [(h0, .inr (2, [.int 0, .int 0, .null, .null, .int 0, .int 0, .int 0, .null, .int 0, .int 0]))] s.heap := hP
  have hl := lv_entry ([.ref h0, .int p0, .int p1, .ref s1]) (n := 4) (Nat.le_of_ble_eq_true rfl)
  rw [lg_entry_eq]
  generalize (lg_sl ([.ref h0, .int p0, .int p1, .ref s1]) ++ List.replicate (4 - (lg_sl ([.ref h0, .int p0, .int p1, .ref s1])).length) Slot.unset).toArray = ls at hl ⊢
  have hl : lv_has ls 4 [(0, .ref h0), (1, .int p0), (2, .int p1), (3, .ref s1)] := hl
  refine lv_aload_n hx hb dX2_init_0 rfl (lv_at hl 0 rfl) ?_
  refine W.objInit hx hb hown (hts (.methodLink RX2 3 objectInit) (by decide +kernel)) (hts (.instanceMethod objectInit) (by decide +kernel)) (hts (.code objectInit ⟨#[0xb1]⟩ 1 none) (by decide +kernel)) rfl (by rw [hml]; exact hl.1) rfl dX2_init_1 (Nat.le_of_ble_eq_true rfl) (Nat.le_of_ble_eq_true rfl) ?_
  refine W.eq (g2 := F0 m 4 ls []) rfl ?_
  refine lv_aload_n hx hb dX2_init_4 rfl (lv_at hl 0 rfl) ?_
  refine lv_bipush (v := 12) hx hb dX2_init_5 (by decide) ?_
  refine va_newa (atype := .int) (ty := .int) (a0 := (12, .inl (fun _ => 0))) (N' := 12) hx hb (hts (.arrayClass .int) (by decide +kernel)) rfl hK hP hD hS hA (fun _ => rfl) (by decide) (by decide) (by decide) (Nat.le_of_ble_eq_true rfl) (Nat.le_of_ble_eq_true rfl) dX2_init_7 (fun q_1 k_2 H hK hP hD hS => ?_)
  refine W.widen (k := 1) (n := 12) (Nat.le_of_ble_eq_true rfl) (Nat.le_of_ble_eq_true rfl) ?_
  have hK : va_K (dC, dI) vwCl [(k_2, .int)] s := hK
  have hP : va_P (dC, dI) vwCl [(h0, .inr (2, [.int 0, .int 0, .null, .null, .int 0, .int 0, .int 0, .null, .int 0, .int 0])), (q_1, .inl (k_2, 12, .inl (fun _ => 0)))] H := hP
  have hD : va_D A [(h0, .inr (2, [.int 0, .int 0, .null, .null, .int 0, .int 0, .int 0, .null, .int 0, .int 0])), (q_1, .inl (k_2, 12, .inl (fun _ => 0)))] := hD
  refine va_putF (D := (dC, dI)) (ci := 2) (v := .ref q_1) (ty := (tyX2 3)) (C := RX2) (T := TX2) (N := 10) hx hb hts hin2 tyX2 tyX2_ok nmX2 hown hK hP hD hS 0 rfl rfl 3 (by decide) (hts (.fieldLink RX2 9 "YamRiders$Rider" "newsSince" "[I") (by decide +kernel)) (fun _ h9 => h9) rfl hin rfl (by decide +kernel) rfl rfl (Nat.le_of_ble_eq_true rfl) dX2_init_9 (fun H locs hP hD hS => ?_)
  have hP : va_P (dC, dI) vwCl [(h0, .inr (2, [.int 0, .int 0, .null, .ref q_1, .int 0, .int 0, .int 0, .null, .int 0, .int 0])), (q_1, .inl (k_2, 12, .inl (fun _ => 0)))] H := hP
  have hD : va_D A [(h0, .inr (2, [.int 0, .int 0, .null, .ref q_1, .int 0, .int 0, .int 0, .null, .int 0, .int 0])), (q_1, .inl (k_2, 12, .inl (fun _ => 0)))] := hD
  refine lv_aload_n hx hb dX2_init_12 rfl (lv_at hl 0 rfl) ?_
  refine lv_iconst (v := 0) hx hb dX2_init_13 (by decide) ?_
  refine va_put (D := (dC, dI)) (ci := 2) (v := .int 0) (ty := (tyX2 4)) (C := RX2) (T := TX2) (N := 10) hx hb hts hin2 tyX2 tyX2_ok nmX2 hown hK hP hD hS 0 rfl rfl 4 (by decide) (hts (.fieldLink RX2 15 "YamRiders$Rider" "state" "I") (by decide +kernel)) (fun _ h9 => h9) rfl (by decide +kernel) rfl rfl (Nat.le_of_ble_eq_true rfl) dX2_init_14 (fun H locs hP hD hS => ?_)
  have hP : va_P (dC, dI) vwCl [(h0, .inr (2, [.int 0, .int 0, .null, .ref q_1, .int 0, .int 0, .int 0, .null, .int 0, .int 0])), (q_1, .inl (k_2, 12, .inl (fun _ => 0)))] H := hP
  have hD : va_D A [(h0, .inr (2, [.int 0, .int 0, .null, .ref q_1, .int 0, .int 0, .int 0, .null, .int 0, .int 0])), (q_1, .inl (k_2, 12, .inl (fun _ => 0)))] := hD
  refine lv_aload_n hx hb dX2_init_17 rfl (lv_at hl 0 rfl) ?_
  refine lv_iload_n hx hb dX2_init_18 rfl (lv_at hl 1 rfl) ?_
  refine va_putF (D := (dC, dI)) (ci := 2) (v := .int p0) (ty := (tyX2 0)) (C := RX2) (T := TX2) (N := 10) hx hb hts hin2 tyX2 tyX2_ok nmX2 hown hK hP hD hS 0 rfl rfl 0 (by decide) (hts (.fieldLink RX2 19 "YamRiders$Rider" "tablet" "I") (by decide +kernel)) (fun _ h9 => h9) rfl hin rfl (by decide +kernel) rfl rfl (Nat.le_of_ble_eq_true rfl) dX2_init_19 (fun H locs hP hD hS => ?_)
  have hP : va_P (dC, dI) vwCl [(h0, .inr (2, [.int p0, .int 0, .null, .ref q_1, .int 0, .int 0, .int 0, .null, .int 0, .int 0])), (q_1, .inl (k_2, 12, .inl (fun _ => 0)))] H := hP
  have hD : va_D A [(h0, .inr (2, [.int p0, .int 0, .null, .ref q_1, .int 0, .int 0, .int 0, .null, .int 0, .int 0])), (q_1, .inl (k_2, 12, .inl (fun _ => 0)))] := hD
  refine lv_aload_n hx hb dX2_init_22 rfl (lv_at hl 0 rfl) ?_
  refine lv_iload_n hx hb dX2_init_23 rfl (lv_at hl 2 rfl) ?_
  refine va_putF (D := (dC, dI)) (ci := 2) (v := .int p1) (ty := (tyX2 1)) (C := RX2) (T := TX2) (N := 10) hx hb hts hin2 tyX2 tyX2_ok nmX2 hown hK hP hD hS 0 rfl rfl 1 (by decide) (hts (.fieldLink RX2 22 "YamRiders$Rider" "rank" "I") (by decide +kernel)) (fun _ h9 => h9) rfl hin rfl (by decide +kernel) rfl rfl (Nat.le_of_ble_eq_true rfl) dX2_init_24 (fun H locs hP hD hS => ?_)
  have hP : va_P (dC, dI) vwCl [(h0, .inr (2, [.int p0, .int p1, .null, .ref q_1, .int 0, .int 0, .int 0, .null, .int 0, .int 0])), (q_1, .inl (k_2, 12, .inl (fun _ => 0)))] H := hP
  have hD : va_D A [(h0, .inr (2, [.int p0, .int p1, .null, .ref q_1, .int 0, .int 0, .int 0, .null, .int 0, .int 0])), (q_1, .inl (k_2, 12, .inl (fun _ => 0)))] := hD
  refine lv_aload_n hx hb dX2_init_27 rfl (lv_at hl 0 rfl) ?_
  refine lv_aload_n hx hb dX2_init_28 rfl (lv_at hl 3 rfl) ?_
  refine va_putF (D := (dC, dI)) (ci := 2) (v := .ref s1) (ty := (tyX2 2)) (C := RX2) (T := TX2) (N := 10) hx hb hts hin2 tyX2 tyX2_ok nmX2 hown hK hP hD hS 0 rfl rfl 2 (by decide) (hts (.fieldLink RX2 25 "YamRiders$Rider" "stations" "[I") (by decide +kernel)) (fun _ h9 => h9) rfl hin rfl (by decide +kernel) rfl rfl (Nat.le_of_ble_eq_true rfl) dX2_init_29 (fun H locs hP hD hS => ?_)
  have hP : va_P (dC, dI) vwCl [(h0, .inr (2, [.int p0, .int p1, .ref s1, .ref q_1, .int 0, .int 0, .int 0, .null, .int 0, .int 0])), (q_1, .inl (k_2, 12, .inl (fun _ => 0)))] H := hP
  have hD : va_D A [(h0, .inr (2, [.int p0, .int p1, .ref s1, .ref q_1, .int 0, .int 0, .int 0, .null, .int 0, .int 0])), (q_1, .inl (k_2, 12, .inl (fun _ => 0)))] := hD
  refine lv_aload_n hx hb dX2_init_32 rfl (lv_at hl 0 rfl) ?_
  refine va_get (D := (dC, dI)) (ci := 2) (v := .ref q_1) (C := RX2) (T := TX2) (N := 10) hx hb hts hin2 hown hK hP 0 rfl rfl 3 (by decide) (hts (.fieldLink RX2 9 "YamRiders$Rider" "newsSince" "[I") (by decide +kernel)) (fun _ h9 => h9) rfl dX2_init_33 ?_
  refine lv_iconst (v := (-1)) hx hb dX2_init_36 (by decide) ?_
  have hPc := hP.sub (ws' := [(q_1, .inl (k_2, 12, .inl (fun _ => 0)))]) [1] rfl
  have hDc := hD.sub (ws' := [(q_1, .inl (k_2, 12, .inl (fun _ => 0)))]) [1] (by decide) rfl
  have hKc := hK.sub (tys' := [(k_2, .int)]) [0] rfl
  have hFc := va_free (wc := [(q_1, .inl (k_2, 12, .inl (fun _ => 0)))]) hD hS hA [1] rfl
  refine va_callv (va_runS (As := [.ref q_1, .int (-1)]) (rest := []) ⟨hx, hb, hml, hown, hts⟩ (c_J7_fill l dC dI q_1 k_2 (fun _ => 0) (-1) H.size) (va_cwS 2 hts gX2_init_J7_fill_53178 rfl rfl rfl (by decide +kernel) ⟨Nat.le_of_ble_eq_true rfl, Nat.le_of_ble_eq_true rfl⟩) ⟨c_blind, c_pre hPc hKc hDc hN⟩ rfl rfl hl.1 rfl (lv_room (Nat.le_of_ble_eq_true rfl)) dX2_init_37 ⟨Nat.le_of_ble_eq_true rfl, Nat.le_of_ble_eq_true rfl⟩) hS (fun q _ h => hFc q h) hFc (fun u9 t9 H1 locs ht hvm hw hB hz1 hk1 hS => ?_)
  obtain ⟨f_4, hP1, hK1, hD1⟩ := hB
  rw [ht] at hP1
  have hK1 := va_K.moved hvm.symm hK1
  obtain ⟨hP, hD⟩ := va_join (wr := [(h0, .inr (2, [.int p0, .int p1, .ref s1, .ref q_1, .int 0, .int 0, .int 0, .null, .int 0, .int 0]))]) (w1 := [(q_1, .inl (k_2, 12, .inl f_4))]) hP hD [1] [0] rfl rfl (by decide) (by decide) hk1 hFc hP1 hD1
  have hK := (hK.sub (tys' := [(k_2, .int)]) [0] rfl).app hK1
  generalize H1 = H at hP hS ⊢
  have hK : va_K (dC, dI) vwCl [(k_2, .int)] s := hK
  have hP : va_P (dC, dI) vwCl [(h0, .inr (2, [.int p0, .int p1, .ref s1, .ref q_1, .int 0, .int 0, .int 0, .null, .int 0, .int 0])), (q_1, .inl (k_2, 12, .inl f_4))] H := hP
  have hD : va_D A [(h0, .inr (2, [.int p0, .int p1, .ref s1, .ref q_1, .int 0, .int 0, .int 0, .null, .int 0, .int 0])), (q_1, .inl (k_2, 12, .inl f_4))] := hD
  refine W.widen (k := 1) (n := 12) (Nat.le_of_ble_eq_true rfl) (Nat.le_of_ble_eq_true rfl) ?_
  have hP9 := hP.sub (ws' := [(h0, .inr (2, [.int p0, .int p1, .ref s1, .ref q_1, .int 0, .int 0, .int 0, .null, .int 0, .int 0])), (q_1, .inl (k_2, 12, .inl f_4))]) [0, 1] rfl
  have hD9 := hD.sub (ws' := [(h0, .inr (2, [.int p0, .int p1, .ref s1, .ref q_1, .int 0, .int 0, .int 0, .null, .int 0, .int 0])), (q_1, .inl (k_2, 12, .inl f_4))]) [0, 1] (by decide) rfl
  have hK9 := hK.sub (tys' := [(k_2, .int)]) [0] rfl
  refine W.widen (k := 1) (n := 12) (Nat.le_of_ble_eq_true rfl) (Nat.le_of_ble_eq_true rfl) ?_
  exact W.vret hx hb hr (fun t9 ht hW => ⟨⟨(), rfl, trivial, q_1, k_2, f_4, by rw [ht]; exact hP9, va_K.moved hW.alike hK9, hD9⟩, hS.F ht⟩) hS.2.2 dX2_init_40

set_option maxHeartbeats 4000000 in
set_option maxRecDepth 100000 in
theorem t_X8_horse (l : Launch) (dC : Nat → ClassId) (dI : Nat → Nat → Nat) (cs : Nat → ClassId) (L : List Nat) (ka : Nat → Nat) (f : Nat → va_E) (h0 : Nat) (a1 : Nat) (a2 : Nat) (a3 : Nat) (a4 : Nat) (a5 : Nat) (a6 : Nat) (a7 : Nat) (a8 : Nat) (a9 : Nat) (j_faultKind : Int32) (j_tabletCount : Int32) (j_riderCount : Int32) (j_lineLength : Int32) (j_hour : Int32) (p0 : Int32) (p1 : Int32) (hc9 : Nat) (sz : Nat) (hT : tO L ka cs f) (hY : yK L ka a2 a3 a4 a5 a6 a7 a8 a9) (hhc : hc9 ≤ 60) : Met l yX8_horse wsX8_horse ({ frames := 2, cells := 1, slots := 3, locals := 43 }) (va_Pc [.ref h0, .int p0, .int p1] (cP dC dI ([(h0, .inr (8, [.ref a1, .ref a2, .ref a3, .ref a4, .ref a5, .ref a6, .ref a7, .ref a8, .ref a9, .int j_faultKind, .int (nI hc9), .int j_tabletCount, .int j_riderCount, .int j_lineLength, .int j_hour]))] ++ va_pl L f) (tyC cs) sz)) (va_Qi (fun (r rv : Int32) => r = rv) (fun (rv : Int32) t9 => ∃ (L2 : List Nat) (ka2 : Nat → Nat) (f2 : Nat → va_E) (hc2 : Nat), (tX L ka L2 ka2) ∧ (tO L2 ka2 cs f2) ∧ (hc2 ≤ 60 ∧ FHo p0 p1 hc9 rv hc2) ∧ cQ dC dI ([(h0, .inr (8, [.ref a1, .ref a2, .ref a3, .ref a4, .ref a5, .ref a6, .ref a7, .ref a8, .ref a9, .int j_faultKind, .int (nI hc2), .int j_tabletCount, .int j_riderCount, .int j_lineLength, .int j_hour]))] ++ va_pl L2 f2) [] (va_A ([(h0, .inr (8, [.ref a1, .ref a2, .ref a3, .ref a4, .ref a5, .ref a6, .ref a7, .ref a8, .ref a9, .int j_faultKind, .int (nI hc9), .int j_tabletCount, .int j_riderCount, .int j_lineLength, .int j_hour]))] ++ va_pl L f) sz) t9) (va_A ([(h0, .inr (8, [.ref a1, .ref a2, .ref a3, .ref a4, .ref a5, .ref a6, .ref a7, .ref a8, .ref a9, .int j_faultKind, .int (nI hc9), .int j_tabletCount, .int j_riderCount, .int j_lineLength, .int j_hour]))] ++ va_pl L f) sz)) 1 3 (va_A ([(h0, .inr (8, [.ref a1, .ref a2, .ref a3, .ref a4, .ref a5, .ref a6, .ref a7, .ref a8, .ref a9, .int j_faultKind, .int (nI hc9), .int j_tabletCount, .int j_riderCount, .int j_lineLength, .int j_hour]))] ++ va_pl L f) sz) := by
  refine Met.ofW (cc := cX8_horse) (maxL := 3) (ret := (some .int)) (by decide) rfl ?_
  intro p e s m args below meth c s₁ B hml hv
  obtain ⟨rfl, hsz, hP, hK, hD0, hN⟩ := hv
  have hx := B.exec
  have hb := B.bytes
  have hr := B.returns
  have hts := atoms_spec (ws := wsX8_horse) B.pre
  have hown : s.vm.findClass RX8 = some m.cls := findClass_of_methodNamed B.named
  have hlocks := B.notSynchronized
  subst hsz
  have hin0 : ∀ w ∈ u_ws RX0 TX0 3, w ∈ wsX8_horse := by decide +kernel
  have hin8 : ∀ w ∈ u_ws RX8 TX8 15, w ∈ wsX8_horse := by decide +kernel
  have hD := hD0.self (sz := s.heap.size)
  generalize hAe : va_A ([(h0, .inr (8, [.ref a1, .ref a2, .ref a3, .ref a4, .ref a5, .ref a6, .ref a7, .ref a8, .ref a9, .int j_faultKind, .int (nI hc9), .int j_tabletCount, .int j_riderCount, .int j_lineLength, .int j_hour]))] ++ va_pl L f) s.heap.size = A at hD ⊢
  have hA : ∀ q : Nat, s.heap.size ≤ q → A q := fun q h => by rw [← hAe]; exact Or.inr h
  have hS : va_S A s.heap s.heap [] := va_S.rf
  have hP : va_P (dC, dI) vwCl ([(h0, .inr (8, [.ref a1, .ref a2, .ref a3, .ref a4, .ref a5, .ref a6, .ref a7, .ref a8, .ref a9, .int j_faultKind, .int (nI hc9), .int j_tabletCount, .int j_riderCount, .int j_lineLength, .int j_hour]))] ++ va_pl L f) s.heap := hP
  have hl := lv_entry ([.ref h0, .int p0, .int p1]) (n := 3) (Nat.le_of_ble_eq_true rfl)
  rw [lg_entry_eq]
  generalize (lg_sl ([.ref h0, .int p0, .int p1]) ++ List.replicate (3 - (lg_sl ([.ref h0, .int p0, .int p1])).length) Slot.unset).toArray = ls at hl ⊢
  have hl : lv_has ls 3 [(0, .ref h0), (1, .int p0), (2, .int p1)] := hl
  refine lv_aload_n hx hb dX8_horse_0 rfl (lv_at hl 0 rfl) ?_
  refine va_get (D := (dC, dI)) (ci := 8) (v := .int (nI hc9)) (C := RX8) (T := TX8) (N := 15) hx hb hts hin8 hown hK hP 0 rfl rfl 10 (by decide) (hts (.fieldLink RX8 110 "YamRiders" "horseCount" "I") (by decide +kernel)) (fun _ h9 => h9) rfl dX8_horse_1 ?_
  refine lv_bipush (v := 60) hx hb dX8_horse_4 (by decide) ?_
  refine lv_icmp_ge (tgt := 26) hx hb dX8_horse_6 (by decide) (fun c_1 => ?_) (fun c_1 => ?_)
  · refine lv_iconst (v := (-1)) hx hb dX8_horse_26 (by decide) ?_
    have hP9 := hP.part (cx := [(h0, .inr (8, [.ref a1, .ref a2, .ref a3, .ref a4, .ref a5, .ref a6, .ref a7, .ref a8, .ref a9, .int j_faultKind, .int (nI hc9), .int j_tabletCount, .int j_riderCount, .int j_lineLength, .int j_hour]))]) [0] rfl
    have hD9 := hD.part (cx := [(h0, .inr (8, [.ref a1, .ref a2, .ref a3, .ref a4, .ref a5, .ref a6, .ref a7, .ref a8, .ref a9, .int j_faultKind, .int (nI hc9), .int j_tabletCount, .int j_riderCount, .int j_lineLength, .int j_hour]))]) [0] (by decide) rfl
    have hK9 := hK.sub (tys' := []) [] rfl
    refine W.widen (k := 1) (n := 3) (Nat.le_of_ble_eq_true rfl) (Nat.le_of_ble_eq_true rfl) ?_
    exact W.iret (v := (-1)) hx hb hr (fun t9 ht hW => ⟨⟨_, (-1), rfl, rfl, L, ka, f, hc9, tX.rf, hT, ⟨by omega, (Or.inl ⟨rfl, rfl, (Or.inl (nI_geN (m := 60) c_1 (by decide) (by omega)))⟩)⟩, by rw [ht]; exact hP9, va_K.moved hW.alike hK9, hD9⟩, hS.F ht⟩) hS.2.2 dX8_horse_27
  · refine lv_iload_n hx hb dX8_horse_9 rfl (lv_at hl 1 rfl) ?_
    have hPc := hP.sub (ws' := []) [] rfl
    have hDc := hD.sub (ws' := []) [] (by decide) rfl
    have hKc := hK.sub (tys' := []) [] rfl
    refine cs_i (va_runS (As := [.int p0]) (rest := []) ⟨hx, hb, hml, hown, hts⟩ (c_X8_isStation l dC dI p0 s.heap.size) (va_cwS 1 hts gX8_horse_X8_isStation rfl rfl rfl (by decide +kernel) ⟨Nat.le_of_ble_eq_true rfl, Nat.le_of_ble_eq_true rfl⟩) ⟨c_blind, c_pre hPc hKc hDc hN⟩ rfl rfl hl.1 rfl (lv_room (Nat.le_of_ble_eq_true rfl)) dX8_horse_10 ⟨Nat.le_of_ble_eq_true rfl, Nat.le_of_ble_eq_true rfl⟩) (fun r_2 hr_2 => ?_)
    subst hr_2
    refine lv_if_eq (tgt := 26) hx hb dX8_horse_13 (by decide) (fun c_3 => ?_) (fun c_3 => ?_)
    · refine lv_iconst (v := (-1)) hx hb dX8_horse_26 (by decide) ?_
      have hP9 := hP.part (cx := [(h0, .inr (8, [.ref a1, .ref a2, .ref a3, .ref a4, .ref a5, .ref a6, .ref a7, .ref a8, .ref a9, .int j_faultKind, .int (nI hc9), .int j_tabletCount, .int j_riderCount, .int j_lineLength, .int j_hour]))]) [0] rfl
      have hD9 := hD.part (cx := [(h0, .inr (8, [.ref a1, .ref a2, .ref a3, .ref a4, .ref a5, .ref a6, .ref a7, .ref a8, .ref a9, .int j_faultKind, .int (nI hc9), .int j_tabletCount, .int j_riderCount, .int j_lineLength, .int j_hour]))]) [0] (by decide) rfl
      have hK9 := hK.sub (tys' := []) [] rfl
      refine W.widen (k := 1) (n := 3) (Nat.le_of_ble_eq_true rfl) (Nat.le_of_ble_eq_true rfl) ?_
      exact W.iret (v := (-1)) hx hb hr (fun t9 ht hW => ⟨⟨_, (-1), rfl, rfl, L, ka, f, hc9, tX.rf, hT, ⟨by omega, (Or.inl ⟨rfl, rfl, (Or.inr (Or.inl c_3))⟩)⟩, by rw [ht]; exact hP9, va_K.moved hW.alike hK9, hD9⟩, hS.F ht⟩) hS.2.2 dX8_horse_27
    · refine lv_iload_n hx hb dX8_horse_16 rfl (lv_at hl 2 rfl) ?_
      refine lv_if_lt (tgt := 26) hx hb dX8_horse_17 (by decide) (fun c_4 => ?_) (fun c_4 => ?_)
      · refine lv_iconst (v := (-1)) hx hb dX8_horse_26 (by decide) ?_
        have hP9 := hP.part (cx := [(h0, .inr (8, [.ref a1, .ref a2, .ref a3, .ref a4, .ref a5, .ref a6, .ref a7, .ref a8, .ref a9, .int j_faultKind, .int (nI hc9), .int j_tabletCount, .int j_riderCount, .int j_lineLength, .int j_hour]))]) [0] rfl
        have hD9 := hD.part (cx := [(h0, .inr (8, [.ref a1, .ref a2, .ref a3, .ref a4, .ref a5, .ref a6, .ref a7, .ref a8, .ref a9, .int j_faultKind, .int (nI hc9), .int j_tabletCount, .int j_riderCount, .int j_lineLength, .int j_hour]))]) [0] (by decide) rfl
        have hK9 := hK.sub (tys' := []) [] rfl
        refine W.widen (k := 1) (n := 3) (Nat.le_of_ble_eq_true rfl) (Nat.le_of_ble_eq_true rfl) ?_
        exact W.iret (v := (-1)) hx hb hr (fun t9 ht hW => ⟨⟨_, (-1), rfl, rfl, L, ka, f, hc9, tX.rf, hT, ⟨by omega, (Or.inl ⟨rfl, rfl, (Or.inr (Or.inr (Or.inl c_4)))⟩)⟩, by rw [ht]; exact hP9, va_K.moved hW.alike hK9, hD9⟩, hS.F ht⟩) hS.2.2 dX8_horse_27
      · refine lv_iload_n hx hb dX8_horse_20 rfl (lv_at hl 2 rfl) ?_
        refine lv_bipush (v := 100) hx hb dX8_horse_21 (by decide) ?_
        refine lv_icmp_le (tgt := 28) hx hb dX8_horse_23 (by decide) (fun c_5 => ?_) (fun c_5 => ?_)
        · have hc60 : hc9 < 60 := nI_nleq (n := 60) c_1 (by omega)
          refine lv_aload_n hx hb dX8_horse_28 rfl (lv_at hl 0 rfl) ?_
          refine va_get (D := (dC, dI)) (ci := 8) (v := .ref a5) (C := RX8) (T := TX8) (N := 15) hx hb hts hin8 hown hK hP 0 rfl rfl 4 (by decide) (hts (.fieldLink RX8 36 "YamRiders" "horses" "[LYamRiders$Horse;") (by decide +kernel)) (fun _ h9 => h9) rfl dX8_horse_29 ?_
          refine lv_aload_n hx hb dX8_horse_32 rfl (lv_at hl 0 rfl) ?_
          refine va_get (D := (dC, dI)) (ci := 8) (v := .int (nI hc9)) (C := RX8) (T := TX8) (N := 15) hx hb hts hin8 hown hK hP 0 rfl rfl 10 (by decide) (hts (.fieldLink RX8 110 "YamRiders" "horseCount" "I") (by decide +kernel)) (fun _ h9 => h9) rfl dX8_horse_33 ?_
          refine va_new (ci := 0) (fs := [.int 0, .int 0, .int 0]) (C := RX0) (T := TX0) (N := 3) hx hb hts hin0 tyX0 tyX0_ok hown (hts (.classLink RX8 34 RX0) (by decide +kernel)) (hts (.instantiable RX0 3) (by decide +kernel)) (hts (.initialized RX0) (by decide +kernel)) hK hP hD hS hA rfl (by decide +kernel) (Nat.le_of_ble_eq_true rfl) (Nat.le_of_ble_eq_true rfl) dX8_horse_36 (fun q_6 H hP hD hS => ?_)
          refine W.widen (k := 1) (n := 3) (Nat.le_of_ble_eq_true rfl) (Nat.le_of_ble_eq_true rfl) ?_
          have hP := va_P.swap (a := [(h0, .inr (8, [.ref a1, .ref a2, .ref a3, .ref a4, .ref a5, .ref a6, .ref a7, .ref a8, .ref a9, .int j_faultKind, .int (nI hc9), .int j_tabletCount, .int j_riderCount, .int j_lineLength, .int j_hour]))]) hP
          have hD := va_D.swap (a := [(h0, .inr (8, [.ref a1, .ref a2, .ref a3, .ref a4, .ref a5, .ref a6, .ref a7, .ref a8, .ref a9, .int j_faultKind, .int (nI hc9), .int j_tabletCount, .int j_riderCount, .int j_lineLength, .int j_hour]))]) hD
          have hP : va_P (dC, dI) vwCl ([(h0, .inr (8, [.ref a1, .ref a2, .ref a3, .ref a4, .ref a5, .ref a6, .ref a7, .ref a8, .ref a9, .int j_faultKind, .int (nI hc9), .int j_tabletCount, .int j_riderCount, .int j_lineLength, .int j_hour])), (q_6, .inr (0, [.int 0, .int 0, .int 0]))] ++ va_pl L f) H := hP
          have hD : va_D A ([(h0, .inr (8, [.ref a1, .ref a2, .ref a3, .ref a4, .ref a5, .ref a6, .ref a7, .ref a8, .ref a9, .int j_faultKind, .int (nI hc9), .int j_tabletCount, .int j_riderCount, .int j_lineLength, .int j_hour])), (q_6, .inr (0, [.int 0, .int 0, .int 0]))] ++ va_pl L f) := hD
          refine lv_dup hx hb dX8_horse_39 rfl ?_
          refine lv_aload_n hx hb dX8_horse_40 rfl (lv_at hl 0 rfl) ?_
          refine va_get (D := (dC, dI)) (ci := 8) (v := .int (nI hc9)) (C := RX8) (T := TX8) (N := 15) hx hb hts hin8 hown hK hP 0 rfl rfl 10 (by decide) (hts (.fieldLink RX8 110 "YamRiders" "horseCount" "I") (by decide +kernel)) (fun _ h9 => h9) rfl dX8_horse_41 ?_
          refine lv_iload_n hx hb dX8_horse_44 rfl (lv_at hl 1 rfl) ?_
          refine lv_iload_n hx hb dX8_horse_45 rfl (lv_at hl 2 rfl) ?_
          have hPc := hP.sub (ws' := [(q_6, .inr (0, [.int 0, .int 0, .int 0]))]) [1] rfl
          have hDc := hD.sub (ws' := [(q_6, .inr (0, [.int 0, .int 0, .int 0]))]) [1] (by decide) rfl
          have hKc := hK.sub (tys' := []) [] rfl
          have hFc := va_free (wc := [(q_6, .inr (0, [.int 0, .int 0, .int 0]))]) hD hS hA [1] rfl
          refine va_callv (va_runI (As := [.int (nI hc9), .int p0, .int p1]) (rest := [.ref q_6, .int (nI hc9), .ref a5]) ⟨hx, hb, hml, hown, hts⟩ (g_X0_init l dC dI q_6 (nI hc9) p0 p1 H.size) (cwI 3 hts gX8_horse_X0_init rfl rfl rfl (hts (.initialized RX0) (by decide +kernel)) (hts (.methodLink RX8 113 yX0_init) (by decide +kernel)) (hts (.instanceMethod yX0_init) (by decide +kernel)) rfl (by decide +kernel) ⟨Nat.le_of_ble_eq_true rfl, Nat.le_of_ble_eq_true rfl⟩) ⟨c_blind, c_pre hPc hKc hDc hN⟩ rfl rfl hl.1 rfl (lv_room (Nat.le_of_ble_eq_true rfl)) dX8_horse_46 ⟨Nat.le_of_ble_eq_true rfl, Nat.le_of_ble_eq_true rfl⟩) hS (fun q _ h => hFc q h) hFc (fun u9 t9 H1 locs ht hvm hw hB hz1 hk1 hS => ?_)
          obtain ⟨hP1, hK1, hD1⟩ := hB
          rw [ht] at hP1
          have hK1 := va_K.moved hvm.symm hK1
          obtain ⟨hP, hD⟩ := va_joinQ (X := [(h0, .inr (8, [.ref a1, .ref a2, .ref a3, .ref a4, .ref a5, .ref a6, .ref a7, .ref a8, .ref a9, .int j_faultKind, .int (nI hc9), .int j_tabletCount, .int j_riderCount, .int j_lineLength, .int j_hour])), (q_6, .inr (0, [.int 0, .int 0, .int 0]))]) (cx := [(q_6, .inr (0, [.int 0, .int 0, .int 0]))]) (wr := [(h0, .inr (8, [.ref a1, .ref a2, .ref a3, .ref a4, .ref a5, .ref a6, .ref a7, .ref a8, .ref a9, .int j_faultKind, .int (nI hc9), .int j_tabletCount, .int j_riderCount, .int j_lineLength, .int j_hour]))]) (w1 := [(q_6, .inr (0, [.int (nI hc9), .int p0, .int p1]))]) (pl := va_pl L f) hP hD [1] [0] rfl rfl (by decide) (by decide) hk1 hFc hP1 hD1
          generalize H1 = H at hP hS ⊢
          have hP : va_P (dC, dI) vwCl ([(h0, .inr (8, [.ref a1, .ref a2, .ref a3, .ref a4, .ref a5, .ref a6, .ref a7, .ref a8, .ref a9, .int j_faultKind, .int (nI hc9), .int j_tabletCount, .int j_riderCount, .int j_lineLength, .int j_hour])), (q_6, .inr (0, [.int (nI hc9), .int p0, .int p1]))] ++ va_pl L f) H := hP
          have hD : va_D A ([(h0, .inr (8, [.ref a1, .ref a2, .ref a3, .ref a4, .ref a5, .ref a6, .ref a7, .ref a8, .ref a9, .int j_faultKind, .int (nI hc9), .int j_tabletCount, .int j_riderCount, .int j_lineLength, .int j_hour])), (q_6, .inr (0, [.int (nI hc9), .int p0, .int p1]))] ++ va_pl L f) := hD
          refine W.widen (k := 1) (n := 3) (Nat.le_of_ble_eq_true rfl) (Nat.le_of_ble_eq_true rfl) ?_
          have hP := hP.part (cx := [(h0, .inr (8, [.ref a1, .ref a2, .ref a3, .ref a4, .ref a5, .ref a6, .ref a7, .ref a8, .ref a9, .int j_faultKind, .int (nI hc9), .int j_tabletCount, .int j_riderCount, .int j_lineLength, .int j_hour]))] ++ [(q_6, .inr (0, [.int (nI hc9), .int p0, .int p1]))]) [0, 1] rfl
          have hD := hD.part (cx := [(h0, .inr (8, [.ref a1, .ref a2, .ref a3, .ref a4, .ref a5, .ref a6, .ref a7, .ref a8, .ref a9, .int j_faultKind, .int (nI hc9), .int j_tabletCount, .int j_riderCount, .int j_lineLength, .int j_hour]))] ++ [(q_6, .inr (0, [.int (nI hc9), .int p0, .int p1]))]) [0, 1] (by decide) rfl
          obtain ⟨L_8, ka_9, f_10, hX_11, hT, hk_u_12, hP, hD⟩ := t_push (X := [(h0, .inr (8, [.ref a1, .ref a2, .ref a3, .ref a4, .ref a5, .ref a6, .ref a7, .ref a8, .ref a9, .int j_faultKind, .int (nI hc9), .int j_tabletCount, .int j_riderCount, .int j_lineLength, .int j_hour]))]) (q := q_6) 0 hT hP hD (fun _ _ h8 => ⟨nI hc9, p0, p1, rfl⟩)
          have hl_13 := hX_11.tp hY.1
          have hl_14 := hX_11.tp hY.2.1
          have hl_15 := hX_11.tp hY.2.2.1
          have hl_16 := hX_11.tp hY.2.2.2.1
          have hl_17 := hX_11.tp hY.2.2.2.2.1
          have hl_18 := hX_11.tp hY.2.2.2.2.2.1
          have hl_19 := hX_11.tp hY.2.2.2.2.2.2.1
          have hl_20 := hX_11.tp hY.2.2.2.2.2.2.2
          have hY_21 := yK.up hX_11 hY
          have hP : va_P (dC, dI) vwCl ([(h0, .inr (8, [.ref a1, .ref a2, .ref a3, .ref a4, .ref a5, .ref a6, .ref a7, .ref a8, .ref a9, .int j_faultKind, .int (nI hc9), .int j_tabletCount, .int j_riderCount, .int j_lineLength, .int j_hour]))] ++ va_pl L_8 f_10) H := hP
          have hD : va_D A ([(h0, .inr (8, [.ref a1, .ref a2, .ref a3, .ref a4, .ref a5, .ref a6, .ref a7, .ref a8, .ref a9, .int j_faultKind, .int (nI hc9), .int j_tabletCount, .int j_riderCount, .int j_lineLength, .int j_hour]))] ++ va_pl L_8 f_10) := hD
          obtain ⟨g_23, hf_22, hr_24⟩ := hT.get hl_16
          obtain ⟨q_25, hq_25⟩ := pl_at (X := [(h0, .inr (8, [.ref a1, .ref a2, .ref a3, .ref a4, .ref a5, .ref a6, .ref a7, .ref a8, .ref a9, .int j_faultKind, .int (nI hc9), .int j_tabletCount, .int j_riderCount, .int j_lineLength, .int j_hour]))]) (f := f_10) (e := .inl (cs 3, 60, .inr (.inr (.inr (.inr g_23))))) hl_16.1 hf_22
          obtain ⟨x_27, x_28, x_29, hf_26⟩ := hT.get hk_u_12
          obtain ⟨q_30, hq_30⟩ := pl_at (X := [(h0, .inr (8, [.ref a1, .ref a2, .ref a3, .ref a4, .ref a5, .ref a6, .ref a7, .ref a8, .ref a9, .int j_faultKind, .int (nI hc9), .int j_tabletCount, .int j_riderCount, .int j_lineLength, .int j_hour]))]) (f := f_10) (e := .inr (0, [.int x_27, .int x_28, .int x_29])) hk_u_12.1 hf_26
          refine va_astq hx hb hK hP hD hS q_25 3 q_30 0 hq_25 rfl hq_30 rfl (vp_in_nI (by omega) (by decide)) dX8_horse_49 (fun H locs hP9 hD9 hS => ?_)
          have hr_31 := tq_up (i := (nI hc9).toNatClampNeg) hr_24 hk_u_12
          have hs_32 := pl_st (.inl (cs 3, 60, .inr (.inr (.inr (.inr (va_up g_23 (nI hc9).toNatClampNeg (some q_6))))))) hD hl_16.1 hf_22 hq_25
          have hP9 : va_P (dC, dI) vwCl ((([(h0, .inr (8, [.ref a1, .ref a2, .ref a3, .ref a4, .ref a5, .ref a6, .ref a7, .ref a8, .ref a9, .int j_faultKind, .int (nI hc9), .int j_tabletCount, .int j_riderCount, .int j_lineLength, .int j_hour]))] : va_W) ++ va_pl L_8 f_10).set q_25 (a5, .inl (cs 3, 60, .inr (.inr (.inr (.inr (va_up g_23 (nI hc9).toNatClampNeg (some q_6)))))))) H := hP9
          have hD9 : va_D A ((([(h0, .inr (8, [.ref a1, .ref a2, .ref a3, .ref a4, .ref a5, .ref a6, .ref a7, .ref a8, .ref a9, .int j_faultKind, .int (nI hc9), .int j_tabletCount, .int j_riderCount, .int j_lineLength, .int j_hour]))] : va_W) ++ va_pl L_8 f_10).set q_25 (a5, .inl (cs 3, 60, .inr (.inr (.inr (.inr (va_up g_23 (nI hc9).toNatClampNeg (some q_6)))))))) := hD9
          rw [hs_32] at hP9 hD9
          have hT := hT.put (e := .inl (cs 3, 60, .inr (.inr (.inr (.inr (va_up g_23 (nI hc9).toNatClampNeg (some q_6))))))) hl_16 ⟨_, rfl, hr_31⟩
          have hf_33 : va_up f_10 a5 (.inl (cs 3, 60, .inr (.inr (.inr (.inr (va_up g_23 (nI hc9).toNatClampNeg (some q_6))))))) a5 = .inl (cs 3, 60, .inr (.inr (.inr (.inr (va_up g_23 (nI hc9).toNatClampNeg (some q_6)))))) := va_up_self _ _ _
          have hP := hP9
          have hD := hD9
          clear hP9 hD9 hs_32
          generalize va_up f_10 a5 (.inl (cs 3, 60, .inr (.inr (.inr (.inr (va_up g_23 (nI hc9).toNatClampNeg (some q_6))))))) = f_34 at hP hD hT hf_33
          generalize va_up g_23 (nI hc9).toNatClampNeg (some q_6) = g_35 at hf_33 hr_31
          refine lv_aload_n hx hb dX8_horse_50 rfl (lv_at hl 0 rfl) ?_
          refine lv_dup hx hb dX8_horse_51 rfl ?_
          refine va_get (D := (dC, dI)) (ci := 8) (v := .int (nI hc9)) (C := RX8) (T := TX8) (N := 15) hx hb hts hin8 hown hK hP 0 rfl rfl 10 (by decide) (hts (.fieldLink RX8 110 "YamRiders" "horseCount" "I") (by decide +kernel)) (fun _ h9 => h9) rfl dX8_horse_52 ?_
          refine lv_iconst (v := 1) hx hb dX8_horse_55 (by decide) ?_
          refine lv_iadd hx hb dX8_horse_56 ?_
          refine lv_topi (fun v_36 ev_36 => ?_)
          obtain rfl : v_36 = nI (hc9 + 1) := ev_36.trans (nI_1 hc9)
          refine va_put (D := (dC, dI)) (ci := 8) (v := .int (nI (hc9 + 1))) (ty := (tyX8 10)) (C := RX8) (T := TX8) (N := 15) hx hb hts hin8 tyX8 tyX8_ok nmX8 hown hK hP hD hS 0 rfl rfl 10 (by decide) (hts (.fieldLink RX8 110 "YamRiders" "horseCount" "I") (by decide +kernel)) (fun _ h9 => h9) rfl (by decide +kernel) rfl rfl (Nat.le_of_ble_eq_true rfl) dX8_horse_57 (fun H locs hP hD hS => ?_)
          have hP : va_P (dC, dI) vwCl ([(h0, .inr (8, [.ref a1, .ref a2, .ref a3, .ref a4, .ref a5, .ref a6, .ref a7, .ref a8, .ref a9, .int j_faultKind, .int (nI (hc9 + 1)), .int j_tabletCount, .int j_riderCount, .int j_lineLength, .int j_hour]))] ++ va_pl L_8 f_34) H := hP
          have hD : va_D A ([(h0, .inr (8, [.ref a1, .ref a2, .ref a3, .ref a4, .ref a5, .ref a6, .ref a7, .ref a8, .ref a9, .int j_faultKind, .int (nI (hc9 + 1)), .int j_tabletCount, .int j_riderCount, .int j_lineLength, .int j_hour]))] ++ va_pl L_8 f_34) := hD
          refine lv_aload_n hx hb dX8_horse_60 rfl (lv_at hl 0 rfl) ?_
          refine va_get (D := (dC, dI)) (ci := 8) (v := .int (nI (hc9 + 1))) (C := RX8) (T := TX8) (N := 15) hx hb hts hin8 hown hK hP 0 rfl rfl 10 (by decide) (hts (.fieldLink RX8 110 "YamRiders" "horseCount" "I") (by decide +kernel)) (fun _ h9 => h9) rfl dX8_horse_61 ?_
          refine lv_iconst (v := 1) hx hb dX8_horse_64 (by decide) ?_
          refine lv_isub hx hb dX8_horse_65 ?_
          refine lv_topi (fun v_37 ev_37 => ?_)
          have hP9 := hP.part (cx := [(h0, .inr (8, [.ref a1, .ref a2, .ref a3, .ref a4, .ref a5, .ref a6, .ref a7, .ref a8, .ref a9, .int j_faultKind, .int (nI (hc9 + 1)), .int j_tabletCount, .int j_riderCount, .int j_lineLength, .int j_hour]))]) [0] rfl
          have hD9 := hD.part (cx := [(h0, .inr (8, [.ref a1, .ref a2, .ref a3, .ref a4, .ref a5, .ref a6, .ref a7, .ref a8, .ref a9, .int j_faultKind, .int (nI (hc9 + 1)), .int j_tabletCount, .int j_riderCount, .int j_lineLength, .int j_hour]))]) [0] (by decide) rfl
          have hK9 := hK.sub (tys' := []) [] rfl
          refine W.widen (k := 1) (n := 3) (Nat.le_of_ble_eq_true rfl) (Nat.le_of_ble_eq_true rfl) ?_
          exact W.iret (v := v_37) hx hb hr (fun t9 ht hW => ⟨⟨_, v_37, rfl, rfl, L_8, ka_9, f_34, (hc9 + 1), hX_11, hT, ⟨by omega, (Or.inr ⟨(ev_37.trans (nI_s11 _)), rfl, by omega, c_3, c_4, (Int32.not_lt.mpr c_5)⟩)⟩, by rw [ht]; exact hP9, va_K.moved hW.alike hK9, hD9⟩, hS.F ht⟩) hS.2.2 dX8_horse_66
        · refine lv_iconst (v := (-1)) hx hb dX8_horse_26 (by decide) ?_
          have hP9 := hP.part (cx := [(h0, .inr (8, [.ref a1, .ref a2, .ref a3, .ref a4, .ref a5, .ref a6, .ref a7, .ref a8, .ref a9, .int j_faultKind, .int (nI hc9), .int j_tabletCount, .int j_riderCount, .int j_lineLength, .int j_hour]))]) [0] rfl
          have hD9 := hD.part (cx := [(h0, .inr (8, [.ref a1, .ref a2, .ref a3, .ref a4, .ref a5, .ref a6, .ref a7, .ref a8, .ref a9, .int j_faultKind, .int (nI hc9), .int j_tabletCount, .int j_riderCount, .int j_lineLength, .int j_hour]))]) [0] (by decide) rfl
          have hK9 := hK.sub (tys' := []) [] rfl
          refine W.widen (k := 1) (n := 3) (Nat.le_of_ble_eq_true rfl) (Nat.le_of_ble_eq_true rfl) ?_
          exact W.iret (v := (-1)) hx hb hr (fun t9 ht hW => ⟨⟨_, (-1), rfl, rfl, L, ka, f, hc9, tX.rf, hT, ⟨by omega, (Or.inl ⟨rfl, rfl, (Or.inr (Or.inr (Or.inr (Int32.not_le.mp c_5))))⟩)⟩, by rw [ht]; exact hP9, va_K.moved hW.alike hK9, hD9⟩, hS.F ht⟩) hS.2.2 dX8_horse_27

set_option maxHeartbeats 4000000 in
set_option maxRecDepth 100000 in
theorem t_X8_tablet (l : Launch) (dC : Nat → ClassId) (dI : Nat → Nat → Nat) (cs : Nat → ClassId) (L : List Nat) (ka : Nat → Nat) (f : Nat → va_E) (h0 : Nat) (a1 : Nat) (a2 : Nat) (a3 : Nat) (a4 : Nat) (a5 : Nat) (a6 : Nat) (a7 : Nat) (a8 : Nat) (a9 : Nat) (j_faultKind : Int32) (j_horseCount : Int32) (j_riderCount : Int32) (j_lineLength : Int32) (j_hour : Int32) (p0 : Int32) (tc9 : Nat) (sz : Nat) (hT : tO L ka cs f) (hY : yK L ka a2 a3 a4 a5 a6 a7 a8 a9) (htc : tc9 ≤ 20) : Met l yX8_tablet wsX8_tablet ({ frames := 2, cells := 2, slots := 14, locals := 44 }) (va_Pc [.ref h0, .int p0] (cP dC dI ([(h0, .inr (8, [.ref a1, .ref a2, .ref a3, .ref a4, .ref a5, .ref a6, .ref a7, .ref a8, .ref a9, .int j_faultKind, .int j_horseCount, .int (nI tc9), .int j_riderCount, .int j_lineLength, .int j_hour]))] ++ va_pl L f) (tyC cs) sz)) (va_Qi (fun (r rv : Int32) => r = rv) (fun (rv : Int32) t9 => ∃ (L2 : List Nat) (ka2 : Nat → Nat) (f2 : Nat → va_E) (tc2 : Nat), (tX L ka L2 ka2) ∧ (tO L2 ka2 cs f2) ∧ (tc2 ≤ 20 ∧ FTb p0 tc9 rv tc2) ∧ cQ dC dI ([(h0, .inr (8, [.ref a1, .ref a2, .ref a3, .ref a4, .ref a5, .ref a6, .ref a7, .ref a8, .ref a9, .int j_faultKind, .int j_horseCount, .int (nI tc2), .int j_riderCount, .int j_lineLength, .int j_hour]))] ++ va_pl L2 f2) [] (va_A ([(h0, .inr (8, [.ref a1, .ref a2, .ref a3, .ref a4, .ref a5, .ref a6, .ref a7, .ref a8, .ref a9, .int j_faultKind, .int j_horseCount, .int (nI tc9), .int j_riderCount, .int j_lineLength, .int j_hour]))] ++ va_pl L f) sz) t9) (va_A ([(h0, .inr (8, [.ref a1, .ref a2, .ref a3, .ref a4, .ref a5, .ref a6, .ref a7, .ref a8, .ref a9, .int j_faultKind, .int j_horseCount, .int (nI tc9), .int j_riderCount, .int j_lineLength, .int j_hour]))] ++ va_pl L f) sz)) 2 14 (va_A ([(h0, .inr (8, [.ref a1, .ref a2, .ref a3, .ref a4, .ref a5, .ref a6, .ref a7, .ref a8, .ref a9, .int j_faultKind, .int j_horseCount, .int (nI tc9), .int j_riderCount, .int j_lineLength, .int j_hour]))] ++ va_pl L f) sz) := by
  refine Met.ofW (cc := cX8_tablet) (maxL := 2) (ret := (some .int)) (by decide) rfl ?_
  intro p e s m args below meth c s₁ B hml hv
  obtain ⟨rfl, hsz, hP, hK, hD0, hN⟩ := hv
  have hx := B.exec
  have hb := B.bytes
  have hr := B.returns
  have hts := atoms_spec (ws := wsX8_tablet) B.pre
  have hown : s.vm.findClass RX8 = some m.cls := findClass_of_methodNamed B.named
  have hlocks := B.notSynchronized
  subst hsz
  have hin6 : ∀ w ∈ u_ws RX6 TX6 2, w ∈ wsX8_tablet := by decide +kernel
  have hin8 : ∀ w ∈ u_ws RX8 TX8 15, w ∈ wsX8_tablet := by decide +kernel
  have hD := hD0.self (sz := s.heap.size)
  generalize hAe : va_A ([(h0, .inr (8, [.ref a1, .ref a2, .ref a3, .ref a4, .ref a5, .ref a6, .ref a7, .ref a8, .ref a9, .int j_faultKind, .int j_horseCount, .int (nI tc9), .int j_riderCount, .int j_lineLength, .int j_hour]))] ++ va_pl L f) s.heap.size = A at hD ⊢
  have hA : ∀ q : Nat, s.heap.size ≤ q → A q := fun q h => by rw [← hAe]; exact Or.inr h
  have hS : va_S A s.heap s.heap [] := va_S.rf
  have hP : va_P (dC, dI) vwCl ([(h0, .inr (8, [.ref a1, .ref a2, .ref a3, .ref a4, .ref a5, .ref a6, .ref a7, .ref a8, .ref a9, .int j_faultKind, .int j_horseCount, .int (nI tc9), .int j_riderCount, .int j_lineLength, .int j_hour]))] ++ va_pl L f) s.heap := hP
  have hl := lv_entry ([.ref h0, .int p0]) (n := 2) (Nat.le_of_ble_eq_true rfl)
  rw [lg_entry_eq]
  generalize (lg_sl ([.ref h0, .int p0]) ++ List.replicate (2 - (lg_sl ([.ref h0, .int p0])).length) Slot.unset).toArray = ls at hl ⊢
  have hl : lv_has ls 2 [(0, .ref h0), (1, .int p0)] := hl
  refine lv_aload_n hx hb dX8_tablet_0 rfl (lv_at hl 0 rfl) ?_
  refine va_get (D := (dC, dI)) (ci := 8) (v := .int (nI tc9)) (C := RX8) (T := TX8) (N := 15) hx hb hts hin8 hown hK hP 0 rfl rfl 11 (by decide) (hts (.fieldLink RX8 115 "YamRiders" "tabletCount" "I") (by decide +kernel)) (fun _ h9 => h9) rfl dX8_tablet_1 ?_
  refine lv_bipush (v := 20) hx hb dX8_tablet_4 (by decide) ?_
  refine lv_icmp_ge (tgt := 19) hx hb dX8_tablet_6 (by decide) (fun c_1 => ?_) (fun c_1 => ?_)
  · refine lv_iconst (v := (-1)) hx hb dX8_tablet_19 (by decide) ?_
    have hP9 := hP.part (cx := [(h0, .inr (8, [.ref a1, .ref a2, .ref a3, .ref a4, .ref a5, .ref a6, .ref a7, .ref a8, .ref a9, .int j_faultKind, .int j_horseCount, .int (nI tc9), .int j_riderCount, .int j_lineLength, .int j_hour]))]) [0] rfl
    have hD9 := hD.part (cx := [(h0, .inr (8, [.ref a1, .ref a2, .ref a3, .ref a4, .ref a5, .ref a6, .ref a7, .ref a8, .ref a9, .int j_faultKind, .int j_horseCount, .int (nI tc9), .int j_riderCount, .int j_lineLength, .int j_hour]))]) [0] (by decide) rfl
    have hK9 := hK.sub (tys' := []) [] rfl
    refine W.widen (k := 2) (n := 14) (Nat.le_of_ble_eq_true rfl) (Nat.le_of_ble_eq_true rfl) ?_
    exact W.iret (v := (-1)) hx hb hr (fun t9 ht hW => ⟨⟨_, (-1), rfl, rfl, L, ka, f, tc9, tX.rf, hT, ⟨by omega, (Or.inl ⟨rfl, rfl, (Or.inl (nI_geN (m := 20) c_1 (by decide) (by omega)))⟩)⟩, by rw [ht]; exact hP9, va_K.moved hW.alike hK9, hD9⟩, hS.F ht⟩) hS.2.2 dX8_tablet_20
  · refine lv_iload_n hx hb dX8_tablet_9 rfl (lv_at hl 1 rfl) ?_
    refine lv_iconst (v := 1) hx hb dX8_tablet_10 (by decide) ?_
    refine lv_icmp_lt (tgt := 19) hx hb dX8_tablet_11 (by decide) (fun c_2 => ?_) (fun c_2 => ?_)
    · refine lv_iconst (v := (-1)) hx hb dX8_tablet_19 (by decide) ?_
      have hP9 := hP.part (cx := [(h0, .inr (8, [.ref a1, .ref a2, .ref a3, .ref a4, .ref a5, .ref a6, .ref a7, .ref a8, .ref a9, .int j_faultKind, .int j_horseCount, .int (nI tc9), .int j_riderCount, .int j_lineLength, .int j_hour]))]) [0] rfl
      have hD9 := hD.part (cx := [(h0, .inr (8, [.ref a1, .ref a2, .ref a3, .ref a4, .ref a5, .ref a6, .ref a7, .ref a8, .ref a9, .int j_faultKind, .int j_horseCount, .int (nI tc9), .int j_riderCount, .int j_lineLength, .int j_hour]))]) [0] (by decide) rfl
      have hK9 := hK.sub (tys' := []) [] rfl
      refine W.widen (k := 2) (n := 14) (Nat.le_of_ble_eq_true rfl) (Nat.le_of_ble_eq_true rfl) ?_
      exact W.iret (v := (-1)) hx hb hr (fun t9 ht hW => ⟨⟨_, (-1), rfl, rfl, L, ka, f, tc9, tX.rf, hT, ⟨by omega, (Or.inl ⟨rfl, rfl, (Or.inr (Or.inl c_2))⟩)⟩, by rw [ht]; exact hP9, va_K.moved hW.alike hK9, hD9⟩, hS.F ht⟩) hS.2.2 dX8_tablet_20
    · refine lv_iload_n hx hb dX8_tablet_14 rfl (lv_at hl 1 rfl) ?_
      refine lv_iconst (v := 3) hx hb dX8_tablet_15 (by decide) ?_
      refine lv_icmp_le (tgt := 21) hx hb dX8_tablet_16 (by decide) (fun c_3 => ?_) (fun c_3 => ?_)
      · have tc20 : tc9 < 20 := nI_nleq (n := 20) c_1 (by omega)
        refine lv_aload_n hx hb dX8_tablet_21 rfl (lv_at hl 0 rfl) ?_
        refine va_get (D := (dC, dI)) (ci := 8) (v := .ref a6) (C := RX8) (T := TX8) (N := 15) hx hb hts hin8 hown hK hP 0 rfl rfl 5 (by decide) (hts (.fieldLink RX8 42 "YamRiders" "tablets" "[LYamRiders$Tablet;") (by decide +kernel)) (fun _ h9 => h9) rfl dX8_tablet_22 ?_
        refine lv_aload_n hx hb dX8_tablet_25 rfl (lv_at hl 0 rfl) ?_
        refine va_get (D := (dC, dI)) (ci := 8) (v := .int (nI tc9)) (C := RX8) (T := TX8) (N := 15) hx hb hts hin8 hown hK hP 0 rfl rfl 11 (by decide) (hts (.fieldLink RX8 115 "YamRiders" "tabletCount" "I") (by decide +kernel)) (fun _ h9 => h9) rfl dX8_tablet_26 ?_
        refine va_new (ci := 6) (fs := [.int 0, .null]) (C := RX6) (T := TX6) (N := 2) hx hb hts hin6 tyX6 tyX6_ok hown (hts (.classLink RX8 40 RX6) (by decide +kernel)) (hts (.instantiable RX6 2) (by decide +kernel)) (hts (.initialized RX6) (by decide +kernel)) hK hP hD hS hA rfl (by decide +kernel) (Nat.le_of_ble_eq_true rfl) (Nat.le_of_ble_eq_true rfl) dX8_tablet_29 (fun q_4 H hP hD hS => ?_)
        refine W.widen (k := 1) (n := 2) (Nat.le_of_ble_eq_true rfl) (Nat.le_of_ble_eq_true rfl) ?_
        have hP := va_P.swap (a := [(h0, .inr (8, [.ref a1, .ref a2, .ref a3, .ref a4, .ref a5, .ref a6, .ref a7, .ref a8, .ref a9, .int j_faultKind, .int j_horseCount, .int (nI tc9), .int j_riderCount, .int j_lineLength, .int j_hour]))]) hP
        have hD := va_D.swap (a := [(h0, .inr (8, [.ref a1, .ref a2, .ref a3, .ref a4, .ref a5, .ref a6, .ref a7, .ref a8, .ref a9, .int j_faultKind, .int j_horseCount, .int (nI tc9), .int j_riderCount, .int j_lineLength, .int j_hour]))]) hD
        have hP : va_P (dC, dI) vwCl ([(h0, .inr (8, [.ref a1, .ref a2, .ref a3, .ref a4, .ref a5, .ref a6, .ref a7, .ref a8, .ref a9, .int j_faultKind, .int j_horseCount, .int (nI tc9), .int j_riderCount, .int j_lineLength, .int j_hour])), (q_4, .inr (6, [.int 0, .null]))] ++ va_pl L f) H := hP
        have hD : va_D A ([(h0, .inr (8, [.ref a1, .ref a2, .ref a3, .ref a4, .ref a5, .ref a6, .ref a7, .ref a8, .ref a9, .int j_faultKind, .int j_horseCount, .int (nI tc9), .int j_riderCount, .int j_lineLength, .int j_hour])), (q_4, .inr (6, [.int 0, .null]))] ++ va_pl L f) := hD
        refine lv_dup hx hb dX8_tablet_32 rfl ?_
        refine lv_iload_n hx hb dX8_tablet_33 rfl (lv_at hl 1 rfl) ?_
        have hPc := hP.sub (ws' := [(q_4, .inr (6, [.int 0, .null]))]) [1] rfl
        have hDc := hD.sub (ws' := [(q_4, .inr (6, [.int 0, .null]))]) [1] (by decide) rfl
        have hKc := hK.sub (tys' := []) [] rfl
        have hFc := va_free (wc := [(q_4, .inr (6, [.int 0, .null]))]) hD hS hA [1] rfl
        refine va_callv (va_runI (As := [.int p0]) (rest := [.ref q_4, .int (nI tc9), .ref a6]) ⟨hx, hb, hml, hown, hts⟩ (g_X6_init l dC dI q_4 p0 H.size) (cwI 1 hts gX8_tablet_X6_init rfl rfl rfl (hts (.initialized RX6) (by decide +kernel)) (hts (.methodLink RX8 118 yX6_init) (by decide +kernel)) (hts (.instanceMethod yX6_init) (by decide +kernel)) rfl (by decide +kernel) ⟨Nat.le_of_ble_eq_true rfl, Nat.le_of_ble_eq_true rfl⟩) ⟨c_blind, c_pre hPc hKc hDc hN⟩ rfl rfl hl.1 rfl (lv_room (Nat.le_of_ble_eq_true rfl)) dX8_tablet_34 ⟨Nat.le_of_ble_eq_true rfl, Nat.le_of_ble_eq_true rfl⟩) hS (fun q _ h => hFc q h) hFc (fun u9 t9 H1 locs ht hvm hw hB hz1 hk1 hS => ?_)
        obtain ⟨q_6, k_7, f_8, hP1, hK1, hD1⟩ := hB
        rw [ht] at hP1
        have hK1 := va_K.moved hvm.symm hK1
        obtain ⟨hP, hD⟩ := va_joinQ (X := [(h0, .inr (8, [.ref a1, .ref a2, .ref a3, .ref a4, .ref a5, .ref a6, .ref a7, .ref a8, .ref a9, .int j_faultKind, .int j_horseCount, .int (nI tc9), .int j_riderCount, .int j_lineLength, .int j_hour])), (q_4, .inr (6, [.int 0, .null]))]) (cx := [(q_4, .inr (6, [.int 0, .null]))]) (wr := [(h0, .inr (8, [.ref a1, .ref a2, .ref a3, .ref a4, .ref a5, .ref a6, .ref a7, .ref a8, .ref a9, .int j_faultKind, .int j_horseCount, .int (nI tc9), .int j_riderCount, .int j_lineLength, .int j_hour]))]) (w1 := [(q_4, .inr (6, [.int p0, .ref q_6])), (q_6, .inl (k_7, 12, .inl f_8))]) (pl := va_pl L f) hP hD [1] [0] rfl rfl (by decide) (by decide) hk1 hFc hP1 hD1
        have hK := hK.app hK1
        have hK : va_K (dC, dI) vwCl [(cs 0, .int), (cs 1, .boolean), (cs 2, .array .int), (cs 3, .object "YamRiders$Horse"), (cs 4, .object "YamRiders$Tablet"), (cs 5, .object "YamRiders$Rider"), (k_7, .int)] s := hK
        generalize H1 = H at hP hS ⊢
        have hP : va_P (dC, dI) vwCl ([(h0, .inr (8, [.ref a1, .ref a2, .ref a3, .ref a4, .ref a5, .ref a6, .ref a7, .ref a8, .ref a9, .int j_faultKind, .int j_horseCount, .int (nI tc9), .int j_riderCount, .int j_lineLength, .int j_hour])), (q_4, .inr (6, [.int p0, .ref q_6])), (q_6, .inl (k_7, 12, .inl f_8))] ++ va_pl L f) H := hP
        have hD : va_D A ([(h0, .inr (8, [.ref a1, .ref a2, .ref a3, .ref a4, .ref a5, .ref a6, .ref a7, .ref a8, .ref a9, .int j_faultKind, .int j_horseCount, .int (nI tc9), .int j_riderCount, .int j_lineLength, .int j_hour])), (q_4, .inr (6, [.int p0, .ref q_6])), (q_6, .inl (k_7, 12, .inl f_8))] ++ va_pl L f) := hD
        refine W.widen (k := 2) (n := 14) (Nat.le_of_ble_eq_true rfl) (Nat.le_of_ble_eq_true rfl) ?_
        obtain rfl : k_7 = cs 0 := ka_eq hK 0 6 rfl rfl
        have hK := hK.sub (tys' := tyC cs) [0, 1, 2, 3, 4, 5] rfl
        have hP : va_P (dC, dI) vwCl ([(h0, .inr (8, [.ref a1, .ref a2, .ref a3, .ref a4, .ref a5, .ref a6, .ref a7, .ref a8, .ref a9, .int j_faultKind, .int j_horseCount, .int (nI tc9), .int j_riderCount, .int j_lineLength, .int j_hour])), (q_4, .inr (6, [.int p0, .ref q_6])), (q_6, .inl (cs 0, 12, .inl f_8))] ++ va_pl L f) H := hP
        have hD : va_D A ([(h0, .inr (8, [.ref a1, .ref a2, .ref a3, .ref a4, .ref a5, .ref a6, .ref a7, .ref a8, .ref a9, .int j_faultKind, .int j_horseCount, .int (nI tc9), .int j_riderCount, .int j_lineLength, .int j_hour])), (q_4, .inr (6, [.int p0, .ref q_6])), (q_6, .inl (cs 0, 12, .inl f_8))] ++ va_pl L f) := hD
        have hP := hP.part (cx := [(h0, .inr (8, [.ref a1, .ref a2, .ref a3, .ref a4, .ref a5, .ref a6, .ref a7, .ref a8, .ref a9, .int j_faultKind, .int j_horseCount, .int (nI tc9), .int j_riderCount, .int j_lineLength, .int j_hour])), (q_4, .inr (6, [.int p0, .ref q_6]))] ++ [(q_6, .inl (cs 0, 12, .inl f_8))]) [0, 1, 2] rfl
        have hD := hD.part (cx := [(h0, .inr (8, [.ref a1, .ref a2, .ref a3, .ref a4, .ref a5, .ref a6, .ref a7, .ref a8, .ref a9, .int j_faultKind, .int j_horseCount, .int (nI tc9), .int j_riderCount, .int j_lineLength, .int j_hour])), (q_4, .inr (6, [.int p0, .ref q_6]))] ++ [(q_6, .inl (cs 0, 12, .inl f_8))]) [0, 1, 2] (by decide) rfl
        obtain ⟨L_9, ka_10, f_11, hX_12, hT, hk_u_13, hP, hD⟩ := t_push (X := [(h0, .inr (8, [.ref a1, .ref a2, .ref a3, .ref a4, .ref a5, .ref a6, .ref a7, .ref a8, .ref a9, .int j_faultKind, .int j_horseCount, .int (nI tc9), .int j_riderCount, .int j_lineLength, .int j_hour])), (q_4, .inr (6, [.int p0, .ref q_6]))]) (q := q_6) 10 hT hP hD (fun _ _ h8 => ⟨_, rfl⟩)
        have hl_14 := hX_12.tp hY.1
        have hl_15 := hX_12.tp hY.2.1
        have hl_16 := hX_12.tp hY.2.2.1
        have hl_17 := hX_12.tp hY.2.2.2.1
        have hl_18 := hX_12.tp hY.2.2.2.2.1
        have hl_19 := hX_12.tp hY.2.2.2.2.2.1
        have hl_20 := hX_12.tp hY.2.2.2.2.2.2.1
        have hl_21 := hX_12.tp hY.2.2.2.2.2.2.2
        have hY_22 := yK.up hX_12 hY
        have hP : va_P (dC, dI) vwCl ([(h0, .inr (8, [.ref a1, .ref a2, .ref a3, .ref a4, .ref a5, .ref a6, .ref a7, .ref a8, .ref a9, .int j_faultKind, .int j_horseCount, .int (nI tc9), .int j_riderCount, .int j_lineLength, .int j_hour])), (q_4, .inr (6, [.int p0, .ref q_6]))] ++ va_pl L_9 f_11) H := hP
        have hD : va_D A ([(h0, .inr (8, [.ref a1, .ref a2, .ref a3, .ref a4, .ref a5, .ref a6, .ref a7, .ref a8, .ref a9, .int j_faultKind, .int j_horseCount, .int (nI tc9), .int j_riderCount, .int j_lineLength, .int j_hour])), (q_4, .inr (6, [.int p0, .ref q_6]))] ++ va_pl L_9 f_11) := hD
        have hP := hP.part (cx := [(h0, .inr (8, [.ref a1, .ref a2, .ref a3, .ref a4, .ref a5, .ref a6, .ref a7, .ref a8, .ref a9, .int j_faultKind, .int j_horseCount, .int (nI tc9), .int j_riderCount, .int j_lineLength, .int j_hour]))] ++ [(q_4, .inr (6, [.int p0, .ref q_6]))]) [0, 1] rfl
        have hD := hD.part (cx := [(h0, .inr (8, [.ref a1, .ref a2, .ref a3, .ref a4, .ref a5, .ref a6, .ref a7, .ref a8, .ref a9, .int j_faultKind, .int j_horseCount, .int (nI tc9), .int j_riderCount, .int j_lineLength, .int j_hour]))] ++ [(q_4, .inr (6, [.int p0, .ref q_6]))]) [0, 1] (by decide) rfl
        obtain ⟨L_23, ka_24, f_25, hX_26, hT, hk_u_27, hP, hD⟩ := t_push (X := [(h0, .inr (8, [.ref a1, .ref a2, .ref a3, .ref a4, .ref a5, .ref a6, .ref a7, .ref a8, .ref a9, .int j_faultKind, .int j_horseCount, .int (nI tc9), .int j_riderCount, .int j_lineLength, .int j_hour]))]) (q := q_4) 6 hT hP hD (fun _ _ h8 => ⟨p0, q_6, rfl, (h8.tp hk_u_13)⟩)
        have hl_28 := hX_26.tp hl_14
        have hl_29 := hX_26.tp hl_15
        have hl_30 := hX_26.tp hl_16
        have hl_31 := hX_26.tp hl_17
        have hl_32 := hX_26.tp hl_18
        have hl_33 := hX_26.tp hl_19
        have hl_34 := hX_26.tp hl_20
        have hl_35 := hX_26.tp hl_21
        have hl_36 := hX_26.tp hk_u_13
        have hY_37 := yK.up hX_26 hY_22
        have hX_38 := hX_12.tr hX_26
        have hP : va_P (dC, dI) vwCl ([(h0, .inr (8, [.ref a1, .ref a2, .ref a3, .ref a4, .ref a5, .ref a6, .ref a7, .ref a8, .ref a9, .int j_faultKind, .int j_horseCount, .int (nI tc9), .int j_riderCount, .int j_lineLength, .int j_hour]))] ++ va_pl L_23 f_25) H := hP
        have hD : va_D A ([(h0, .inr (8, [.ref a1, .ref a2, .ref a3, .ref a4, .ref a5, .ref a6, .ref a7, .ref a8, .ref a9, .int j_faultKind, .int j_horseCount, .int (nI tc9), .int j_riderCount, .int j_lineLength, .int j_hour]))] ++ va_pl L_23 f_25) := hD
        obtain ⟨g_40, hf_39, hr_41⟩ := hT.get hl_32
        obtain ⟨q_42, hq_42⟩ := pl_at (X := [(h0, .inr (8, [.ref a1, .ref a2, .ref a3, .ref a4, .ref a5, .ref a6, .ref a7, .ref a8, .ref a9, .int j_faultKind, .int j_horseCount, .int (nI tc9), .int j_riderCount, .int j_lineLength, .int j_hour]))]) (f := f_25) (e := .inl (cs 4, 20, .inr (.inr (.inr (.inr g_40))))) hl_32.1 hf_39
        obtain ⟨x_44, o_45, hf_43, hk_o_45⟩ := hT.get hk_u_27
        obtain ⟨q_46, hq_46⟩ := pl_at (X := [(h0, .inr (8, [.ref a1, .ref a2, .ref a3, .ref a4, .ref a5, .ref a6, .ref a7, .ref a8, .ref a9, .int j_faultKind, .int j_horseCount, .int (nI tc9), .int j_riderCount, .int j_lineLength, .int j_hour]))]) (f := f_25) (e := .inr (6, [.int x_44, .ref o_45])) hk_u_27.1 hf_43
        refine va_astq hx hb hK hP hD hS q_42 4 q_46 6 hq_42 rfl hq_46 rfl (vp_in_nI (by omega) (by decide)) dX8_tablet_37 (fun H locs hP9 hD9 hS => ?_)
        have hr_47 := tq_up (i := (nI tc9).toNatClampNeg) hr_41 hk_u_27
        have hs_48 := pl_st (.inl (cs 4, 20, .inr (.inr (.inr (.inr (va_up g_40 (nI tc9).toNatClampNeg (some q_4))))))) hD hl_32.1 hf_39 hq_42
        have hP9 : va_P (dC, dI) vwCl ((([(h0, .inr (8, [.ref a1, .ref a2, .ref a3, .ref a4, .ref a5, .ref a6, .ref a7, .ref a8, .ref a9, .int j_faultKind, .int j_horseCount, .int (nI tc9), .int j_riderCount, .int j_lineLength, .int j_hour]))] : va_W) ++ va_pl L_23 f_25).set q_42 (a6, .inl (cs 4, 20, .inr (.inr (.inr (.inr (va_up g_40 (nI tc9).toNatClampNeg (some q_4)))))))) H := hP9
        have hD9 : va_D A ((([(h0, .inr (8, [.ref a1, .ref a2, .ref a3, .ref a4, .ref a5, .ref a6, .ref a7, .ref a8, .ref a9, .int j_faultKind, .int j_horseCount, .int (nI tc9), .int j_riderCount, .int j_lineLength, .int j_hour]))] : va_W) ++ va_pl L_23 f_25).set q_42 (a6, .inl (cs 4, 20, .inr (.inr (.inr (.inr (va_up g_40 (nI tc9).toNatClampNeg (some q_4)))))))) := hD9
        rw [hs_48] at hP9 hD9
        have hT := hT.put (e := .inl (cs 4, 20, .inr (.inr (.inr (.inr (va_up g_40 (nI tc9).toNatClampNeg (some q_4))))))) hl_32 ⟨_, rfl, hr_47⟩
        have hf_49 : va_up f_25 a6 (.inl (cs 4, 20, .inr (.inr (.inr (.inr (va_up g_40 (nI tc9).toNatClampNeg (some q_4))))))) a6 = .inl (cs 4, 20, .inr (.inr (.inr (.inr (va_up g_40 (nI tc9).toNatClampNeg (some q_4)))))) := va_up_self _ _ _
        have hP := hP9
        have hD := hD9
        clear hP9 hD9 hs_48
        generalize va_up f_25 a6 (.inl (cs 4, 20, .inr (.inr (.inr (.inr (va_up g_40 (nI tc9).toNatClampNeg (some q_4))))))) = f_50 at hP hD hT hf_49
        generalize va_up g_40 (nI tc9).toNatClampNeg (some q_4) = g_51 at hf_49 hr_47
        refine lv_aload_n hx hb dX8_tablet_38 rfl (lv_at hl 0 rfl) ?_
        refine lv_dup hx hb dX8_tablet_39 rfl ?_
        refine va_get (D := (dC, dI)) (ci := 8) (v := .int (nI tc9)) (C := RX8) (T := TX8) (N := 15) hx hb hts hin8 hown hK hP 0 rfl rfl 11 (by decide) (hts (.fieldLink RX8 115 "YamRiders" "tabletCount" "I") (by decide +kernel)) (fun _ h9 => h9) rfl dX8_tablet_40 ?_
        refine lv_iconst (v := 1) hx hb dX8_tablet_43 (by decide) ?_
        refine lv_iadd hx hb dX8_tablet_44 ?_
        refine lv_topi (fun v_52 ev_52 => ?_)
        obtain rfl : v_52 = nI (tc9 + 1) := ev_52.trans (nI_1 tc9)
        refine va_put (D := (dC, dI)) (ci := 8) (v := .int (nI (tc9 + 1))) (ty := (tyX8 11)) (C := RX8) (T := TX8) (N := 15) hx hb hts hin8 tyX8 tyX8_ok nmX8 hown hK hP hD hS 0 rfl rfl 11 (by decide) (hts (.fieldLink RX8 115 "YamRiders" "tabletCount" "I") (by decide +kernel)) (fun _ h9 => h9) rfl (by decide +kernel) rfl rfl (Nat.le_of_ble_eq_true rfl) dX8_tablet_45 (fun H locs hP hD hS => ?_)
        have hP : va_P (dC, dI) vwCl ([(h0, .inr (8, [.ref a1, .ref a2, .ref a3, .ref a4, .ref a5, .ref a6, .ref a7, .ref a8, .ref a9, .int j_faultKind, .int j_horseCount, .int (nI (tc9 + 1)), .int j_riderCount, .int j_lineLength, .int j_hour]))] ++ va_pl L_23 f_50) H := hP
        have hD : va_D A ([(h0, .inr (8, [.ref a1, .ref a2, .ref a3, .ref a4, .ref a5, .ref a6, .ref a7, .ref a8, .ref a9, .int j_faultKind, .int j_horseCount, .int (nI (tc9 + 1)), .int j_riderCount, .int j_lineLength, .int j_hour]))] ++ va_pl L_23 f_50) := hD
        refine lv_aload_n hx hb dX8_tablet_48 rfl (lv_at hl 0 rfl) ?_
        refine va_get (D := (dC, dI)) (ci := 8) (v := .int (nI (tc9 + 1))) (C := RX8) (T := TX8) (N := 15) hx hb hts hin8 hown hK hP 0 rfl rfl 11 (by decide) (hts (.fieldLink RX8 115 "YamRiders" "tabletCount" "I") (by decide +kernel)) (fun _ h9 => h9) rfl dX8_tablet_49 ?_
        refine lv_iconst (v := 1) hx hb dX8_tablet_52 (by decide) ?_
        refine lv_isub hx hb dX8_tablet_53 ?_
        refine lv_topi (fun v_53 ev_53 => ?_)
        have hP9 := hP.part (cx := [(h0, .inr (8, [.ref a1, .ref a2, .ref a3, .ref a4, .ref a5, .ref a6, .ref a7, .ref a8, .ref a9, .int j_faultKind, .int j_horseCount, .int (nI (tc9 + 1)), .int j_riderCount, .int j_lineLength, .int j_hour]))]) [0] rfl
        have hD9 := hD.part (cx := [(h0, .inr (8, [.ref a1, .ref a2, .ref a3, .ref a4, .ref a5, .ref a6, .ref a7, .ref a8, .ref a9, .int j_faultKind, .int j_horseCount, .int (nI (tc9 + 1)), .int j_riderCount, .int j_lineLength, .int j_hour]))]) [0] (by decide) rfl
        have hK9 := hK.sub (tys' := []) [] rfl
        refine W.widen (k := 2) (n := 14) (Nat.le_of_ble_eq_true rfl) (Nat.le_of_ble_eq_true rfl) ?_
        exact W.iret (v := v_53) hx hb hr (fun t9 ht hW => ⟨⟨_, v_53, rfl, rfl, L_23, ka_24, f_50, (tc9 + 1), hX_38, hT, ⟨by omega, (Or.inr ⟨(ev_53.trans (nI_s11 _)), rfl, by omega, c_2, (Int32.not_lt.mpr c_3)⟩)⟩, by rw [ht]; exact hP9, va_K.moved hW.alike hK9, hD9⟩, hS.F ht⟩) hS.2.2 dX8_tablet_54
      · refine lv_iconst (v := (-1)) hx hb dX8_tablet_19 (by decide) ?_
        have hP9 := hP.part (cx := [(h0, .inr (8, [.ref a1, .ref a2, .ref a3, .ref a4, .ref a5, .ref a6, .ref a7, .ref a8, .ref a9, .int j_faultKind, .int j_horseCount, .int (nI tc9), .int j_riderCount, .int j_lineLength, .int j_hour]))]) [0] rfl
        have hD9 := hD.part (cx := [(h0, .inr (8, [.ref a1, .ref a2, .ref a3, .ref a4, .ref a5, .ref a6, .ref a7, .ref a8, .ref a9, .int j_faultKind, .int j_horseCount, .int (nI tc9), .int j_riderCount, .int j_lineLength, .int j_hour]))]) [0] (by decide) rfl
        have hK9 := hK.sub (tys' := []) [] rfl
        refine W.widen (k := 2) (n := 14) (Nat.le_of_ble_eq_true rfl) (Nat.le_of_ble_eq_true rfl) ?_
        exact W.iret (v := (-1)) hx hb hr (fun t9 ht hW => ⟨⟨_, (-1), rfl, rfl, L, ka, f, tc9, tX.rf, hT, ⟨by omega, (Or.inl ⟨rfl, rfl, (Or.inr (Or.inr (Int32.not_le.mp c_3)))⟩)⟩, by rw [ht]; exact hP9, va_K.moved hW.alike hK9, hD9⟩, hS.F ht⟩) hS.2.2 dX8_tablet_20
