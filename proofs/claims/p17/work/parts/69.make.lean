set_option maxHeartbeats 4000000 in
set_option maxRecDepth 100000 in
theorem g_X0_init (l : Launch) (dC : Nat → ClassId) (dI : Nat → Nat → Nat) (h0 : Nat) (p0 : Int32) (p1 : Int32) (p2 : Int32) (sz : Nat) : Met l yX0_init wsX0_init ({ frames := 1, cells := 0, slots := 0, locals := 20 }) (va_Pc [.ref h0, .int p0, .int p1, .int p2] (cP dC dI [(h0, .inr (0, [.int 0, .int 0, .int 0]))] [] sz)) (va_Qv (fun (_ : Unit) => True) (fun (_ : Unit) t9 => cQ dC dI [(h0, .inr (0, [.int p0, .int p1, .int p2]))] [] (va_A [(h0, .inr (0, [.int 0, .int 0, .int 0]))] sz) t9) (va_A [(h0, .inr (0, [.int 0, .int 0, .int 0]))] sz)) 0 0 (va_A [(h0, .inr (0, [.int 0, .int 0, .int 0]))] sz) := by
  refine Met.ofW (cc := cX0_init) (maxL := 4) (ret := none) (by decide) rfl ?_
  intro p e s m args below meth c s₁ B hml hv
  obtain ⟨rfl, hsz, hP, hK, hD0, hN⟩ := hv
  have hx := B.exec
  have hb := B.bytes
  have hr := B.returns
  have hts := atoms_spec (ws := wsX0_init) B.pre
  have hown : s.vm.findClass RX0 = some m.cls := findClass_of_methodNamed B.named
  have hlocks := B.notSynchronized
  have hin : meth.name = "<init>" := (name_of_methodNamed B.named B.method).1
  subst hsz
  have hin0 : ∀ w ∈ u_ws RX0 TX0 3, w ∈ wsX0_init := by decide +kernel
  have hD := hD0.self (sz := s.heap.size)
  generalize hAe : va_A [(h0, .inr (0, [.int 0, .int 0, .int 0]))] s.heap.size = A at hD ⊢
  have hA : ∀ q : Nat, s.heap.size ≤ q → A q := fun q h => by rw [← hAe]; exact Or.inr h
  have hS : va_S A s.heap s.heap [] := va_S.rf
  have hP : va_P (dC, dI) vwCl [(h0, .inr (0, [.int 0, .int 0, .int 0]))] s.heap := hP
  have hl := lv_entry ([.ref h0, .int p0, .int p1, .int p2]) (n := 4) (Nat.le_of_ble_eq_true rfl)
  rw [lg_entry_eq]
  generalize (lg_sl ([.ref h0, .int p0, .int p1, .int p2]) ++ List.replicate (4 - (lg_sl ([.ref h0, .int p0, .int p1, .int p2])).length) Slot.unset).toArray = ls at hl ⊢
  have hl : lv_has ls 4 [(0, .ref h0), (1, .int p0), (2, .int p1), (3, .int p2)] := hl
  refine lv_aload_n hx hb dX0_init_0 rfl (lv_at hl 0 rfl) ?_
  refine W.objInit hx hb hown (hts (.methodLink RX0 1 objectInit) (by decide +kernel)) (hts (.instanceMethod objectInit) (by decide +kernel)) (hts (.code objectInit ⟨#[0xb1]⟩ 1 none) (by decide +kernel)) rfl (by rw [hml]; exact hl.1) rfl dX0_init_1 (Nat.le_of_ble_eq_true rfl) (Nat.le_of_ble_eq_true rfl) ?_
  refine W.eq (g2 := F0 m 4 ls []) rfl ?_
  refine lv_aload_n hx hb dX0_init_4 rfl (lv_at hl 0 rfl) ?_
  refine lv_iload_n hx hb dX0_init_5 rfl (lv_at hl 1 rfl) ?_
  refine va_putF (D := (dC, dI)) (ci := 0) (v := .int p0) (ty := (tyX0 0)) (C := RX0) (T := TX0) (N := 3) hx hb hts hin0 tyX0 tyX0_ok nmX0 hown hK hP hD hS 0 rfl rfl 0 (by decide) (hts (.fieldLink RX0 7 "YamRiders$Horse" "number" "I") (by decide +kernel)) (fun _ h9 => h9) rfl hin rfl (by decide +kernel) rfl rfl (Nat.le_of_ble_eq_true rfl) dX0_init_6 (fun H locs hP hD hS => ?_)
  have hP : va_P (dC, dI) vwCl [(h0, .inr (0, [.int p0, .int 0, .int 0]))] H := hP
  have hD : va_D A [(h0, .inr (0, [.int p0, .int 0, .int 0]))] := hD
  refine lv_aload_n hx hb dX0_init_9 rfl (lv_at hl 0 rfl) ?_
  refine lv_iload_n hx hb dX0_init_10 rfl (lv_at hl 2 rfl) ?_
  refine va_put (D := (dC, dI)) (ci := 0) (v := .int p1) (ty := (tyX0 1)) (C := RX0) (T := TX0) (N := 3) hx hb hts hin0 tyX0 tyX0_ok nmX0 hown hK hP hD hS 0 rfl rfl 1 (by decide) (hts (.fieldLink RX0 13 "YamRiders$Horse" "station" "I") (by decide +kernel)) (fun _ h9 => h9) rfl (by decide +kernel) rfl rfl (Nat.le_of_ble_eq_true rfl) dX0_init_11 (fun H locs hP hD hS => ?_)
  have hP : va_P (dC, dI) vwCl [(h0, .inr (0, [.int p0, .int p1, .int 0]))] H := hP
  have hD : va_D A [(h0, .inr (0, [.int p0, .int p1, .int 0]))] := hD
  refine lv_aload_n hx hb dX0_init_14 rfl (lv_at hl 0 rfl) ?_
  refine lv_iload_n hx hb dX0_init_15 rfl (lv_at hl 3 rfl) ?_
  refine va_put (D := (dC, dI)) (ci := 0) (v := .int p2) (ty := (tyX0 2)) (C := RX0) (T := TX0) (N := 3) hx hb hts hin0 tyX0 tyX0_ok nmX0 hown hK hP hD hS 0 rfl rfl 2 (by decide) (hts (.fieldLink RX0 16 "YamRiders$Horse" "strength" "I") (by decide +kernel)) (fun _ h9 => h9) rfl (by decide +kernel) rfl rfl (Nat.le_of_ble_eq_true rfl) dX0_init_16 (fun H locs hP hD hS => ?_)
  have hP : va_P (dC, dI) vwCl [(h0, .inr (0, [.int p0, .int p1, .int p2]))] H := hP
  have hD : va_D A [(h0, .inr (0, [.int p0, .int p1, .int p2]))] := hD
  have hP9 := hP.sub (ws' := [(h0, .inr (0, [.int p0, .int p1, .int p2]))]) [0] rfl
  have hD9 := hD.sub (ws' := [(h0, .inr (0, [.int p0, .int p1, .int p2]))]) [0] (by decide) rfl
  have hK9 := hK.sub (tys' := []) [] rfl
  refine W.widen (k := 0) (n := 0) (Nat.le_of_ble_eq_true rfl) (Nat.le_of_ble_eq_true rfl) ?_
  exact W.vret hx hb hr (fun t9 ht hW => ⟨⟨(), rfl, trivial, by rw [ht]; exact hP9, va_K.moved hW.alike hK9, hD9⟩, hS.F ht⟩) hS.2.2 dX0_init_19

set_option maxHeartbeats 4000000 in
set_option maxRecDepth 100000 in
theorem c_J7_fill (l : Launch) (dC : Nat → ClassId) (dI : Nat → Nat → Nat) (b1 : Nat) (k1 : ClassId) (f1 : Nat → Int32) (p0 : Int32) (sz : Nat) : Met l yJ7_fill_53178 wsJ7_fill_53178 ({ frames := 0, cells := 0, slots := 0, locals := 0 }) (va_Pc [.ref b1, .int p0] (cP dC dI [(b1, .inl (k1, 12, .inl f1))] [(k1, .int)] sz)) (va_Qv (fun (_ : Unit) => True) (fun (_ : Unit) t9 => ∃ (f2 : Nat → Int32), (∀ i, i < 12 → f2 i = p0) ∧ cQ dC dI [(b1, .inl (k1, 12, .inl f2))] [] (va_A [(b1, .inl (k1, 12, .inl f1))] sz) t9) (va_A [(b1, .inl (k1, 12, .inl f1))] sz)) 0 0 (va_A [(b1, .inl (k1, 12, .inl f1))] sz) := by
  refine Met.ofW (cc := cJ7_fill_53178) (maxL := 4) (ret := none) (by decide) rfl ?_
  intro p e s m args below meth c s₁ B hml hv
  obtain ⟨rfl, hsz, hP, hK, hD0, hN⟩ := hv
  have hx := B.exec
  have hb := B.bytes
  have hr := B.returns
  have hts := atoms_spec (ws := wsJ7_fill_53178) B.pre
  have hown : s.vm.findClass RJ7 = some m.cls := findClass_of_methodNamed B.named
  have hlocks := B.notSynchronized
  subst hsz
  have hD := hD0.self (sz := s.heap.size)
  generalize hAe : va_A [(b1, .inl (k1, 12, .inl f1))] s.heap.size = A at hD ⊢
  have hA : ∀ q : Nat, s.heap.size ≤ q → A q := fun q h => by rw [← hAe]; exact Or.inr h
  have hS : va_S A s.heap s.heap [] := va_S.rf
  have hP : va_P (dC, dI) vwCl [(b1, .inl (k1, 12, .inl f1))] s.heap := hP
  have hl := lv_entry ([.ref b1, .int p0]) (n := 4) (Nat.le_of_ble_eq_true rfl)
  rw [lg_entry_eq]
  generalize (lg_sl ([.ref b1, .int p0]) ++ List.replicate (4 - (lg_sl ([.ref b1, .int p0])).length) Slot.unset).toArray = ls at hl ⊢
  have hl : lv_has ls 4 [(0, .ref b1), (1, .int p0)] := hl
  refine lv_iconst (v := 0) hx hb dJ7_fill_53178_0 (by decide) ?_
  refine lv_istore_n (lv' := [(2, .int 0), (0, .ref b1), (1, .int p0)]) hx hb dJ7_fill_53178_1 rfl hl (by decide) rfl (fun ls hl => ?_)
  refine lv_aload_n hx hb dJ7_fill_53178_2 rfl (lv_at hl 1 rfl) ?_
  refine va_alen (v := 12) hx hb hK hP 0 0 rfl rfl rfl dJ7_fill_53178_3 ?_
  refine lv_istore_n (lv' := [(3, .int 12), (2, .int 0), (0, .ref b1), (1, .int p0)]) hx hb dJ7_fill_53178_4 rfl hl (by decide) rfl (fun ls hl => ?_)
  have HL : ∀ (n k : Nat) (f : Nat → Int32), k ≤ 12 → 12 + 1 ≤ k + n → (∀ i, i < k → f i = p0) → ∀ (H : Heap) (locs : List Loc), va_P (dC, dI) vwCl [(b1, .inl (k1, 12, .inl f))] H → va_D A [(b1, .inl (k1, 12, .inl f))] → va_S A s.heap H locs → ∀ ls : Array Slot, lv_has ls 4 [(0, .ref b1), (1, .int p0), (2, .int (nI k)), (3, .int 12)] → W p l e (headSpec wsJ7_fill_53178 ({ frames := 0, cells := 0, slots := 0, locals := 0 })).room s m ([.ref b1, .int p0]).toArray below meth c H locs 0 0 (MQ below (va_Qv (fun (_ : Unit) => True) (fun (_ : Unit) t9 => ∃ (f2 : Nat → Int32), (∀ i, i < 12 → f2 i = p0) ∧ cQ dC dI [(b1, .inl (k1, 12, .inl f2))] [] A t9) A) ([.ref b1, .int p0]).toArray s 0 0 A) (F0 m 5 ls []) := by
    intro n
    induction n with
    | zero => intro k f h1 h2; exact absurd h2 (by omega)
    | succ n ih =>
      intro k f hk hn hfi H locs hP hD hS ls hl
      refine lv_iload_n hx hb dJ7_fill_53178_5 rfl (lv_at hl 2 rfl) ?_
      refine lv_iload_n hx hb dJ7_fill_53178_6 rfl (lv_at hl 3 rfl) ?_
      refine lv_icmp_ge (tgt := 20) hx hb dJ7_fill_53178_7 (by decide) (fun c_1 => ?_) (fun c_1 => ?_)
      · have hke : k = 12 := by
          rcases Nat.lt_or_ge k 12 with q | q
          · exact absurd c_1 (nI_ge q (by decide))
          · omega
        have hP9 := hP.sub (ws' := [(b1, .inl (k1, 12, .inl f))]) [0] rfl
        have hD9 := hD.sub (ws' := [(b1, .inl (k1, 12, .inl f))]) [0] (by decide) rfl
        have hK9 := hK.sub (tys' := []) [] rfl
        refine W.widen (k := 0) (n := 0) (Nat.le_of_ble_eq_true rfl) (Nat.le_of_ble_eq_true rfl) ?_
        exact W.vret hx hb hr (fun t9 ht hW => ⟨⟨(), rfl, trivial, f, (hke ▸ hfi), by rw [ht]; exact hP9, va_K.moved hW.alike hK9, hD9⟩, hS.F ht⟩) hS.2.2 dJ7_fill_53178_20
      · have hlt : k < 12 := by
          rcases Nat.lt_or_ge k 12 with q | q
          · exact q
          · exact absurd (show nI 12 ≤ nI k from nI_le q (by omega)) c_1
        refine lv_aload_n hx hb dJ7_fill_53178_10 rfl (lv_at hl 0 rfl) ?_
        refine lv_iload_n hx hb dJ7_fill_53178_11 rfl (lv_at hl 2 rfl) ?_
        refine lv_iload_n hx hb dJ7_fill_53178_12 rfl (lv_at hl 1 rfl) ?_
        refine va_iast hx hb hK hP hD hS 0 0 rfl rfl (vp_in_nI hlt (by decide)) dJ7_fill_53178_13 (fun H locs hP hD hS => ?_)
        have hP : va_P (dC, dI) vwCl [(b1, .inl (k1, 12, .inl (upd f (nI k).toNatClampNeg p0)))] H := hP
        have hD : va_D A [(b1, .inl (k1, 12, .inl (upd f (nI k).toNatClampNeg p0)))] := hD
        obtain ⟨f_2, ef_2⟩ : ∃ w9 : Nat → Int32, w9 = upd f (nI k).toNatClampNeg p0 := ⟨_, rfl⟩
        rw [← ef_2] at hP hD
        refine lv_iinc (v := nI (k + 1)) (lv' := [(2, .int (nI (k + 1))), (0, .ref b1), (1, .int p0), (3, .int 12)]) hx hb dJ7_fill_53178_14 hl (k := 2) rfl (by exact (nI_1 k)) (by decide) rfl (fun ls hl => ?_)
        refine lv_goto (tgt := 5) hx hb dJ7_fill_53178_17 (by decide) ?_
        exact ih (k + 1) f_2 (by omega) (by omega) (fun i hi => by rw [ef_2, nI_clamp (by omega)]; exact (if q : i = k then (by rw [q, up_s]) else (by rw [up_n q]; exact hfi i (by omega)))) _ _ (hP.sub [0] rfl) (hD.sub [0] (by decide) rfl) hS ls (lv_sub hl [1, 2, 0, 3] rfl)
  exact HL 13 0 f1 (by omega) (by omega) (fun _ w => absurd w (Nat.not_lt_zero _)) _ _ (hP.sub [0] rfl) (hD.sub [0] (by decide) rfl) hS ls (lv_sub hl [2, 3, 1, 0] rfl)

set_option maxHeartbeats 4000000 in
set_option maxRecDepth 100000 in
theorem g_X6_init (l : Launch) (dC : Nat → ClassId) (dI : Nat → Nat → Nat) (h0 : Nat) (p0 : Int32) (sz : Nat) : Met l yX6_init wsX6_init ({ frames := 1, cells := 1, slots := 12, locals := 23 }) (va_Pc [.ref h0, .int p0] (cP dC dI [(h0, .inr (6, [.int 0, .null]))] [] sz)) (va_Qv (fun (_ : Unit) => True) (fun (_ : Unit) t9 => ∃ (q1 : Nat) (k1 : ClassId) (f1 : Nat → Int32), (∀ i, i < 12 → f1 i = -1) ∧ cQ dC dI [(h0, .inr (6, [.int p0, .ref q1])), (q1, .inl (k1, 12, .inl f1))] [(k1, .int)] (va_A [(h0, .inr (6, [.int 0, .null]))] sz) t9) (va_A [(h0, .inr (6, [.int 0, .null]))] sz)) 1 12 (va_A [(h0, .inr (6, [.int 0, .null]))] sz) := by
  refine Met.ofW (cc := cX6_init) (maxL := 2) (ret := none) (by decide) rfl ?_
  intro p e s m args below meth c s₁ B hml hv
  obtain ⟨rfl, hsz, hP, hK, hD0, hN⟩ := hv
  have hx := B.exec
  have hb := B.bytes
  have hr := B.returns
  have hts := atoms_spec (ws := wsX6_init) B.pre
  have hown : s.vm.findClass RX6 = some m.cls := findClass_of_methodNamed B.named
  have hlocks := B.notSynchronized
  have hin : meth.name = "<init>" := (name_of_methodNamed B.named B.method).1
  subst hsz
  have hin6 : ∀ w ∈ u_ws RX6 TX6 2, w ∈ wsX6_init := by decide +kernel
  have hD := hD0.self (sz := s.heap.size)
  generalize hAe : va_A [(h0, .inr (6, [.int 0, .null]))] s.heap.size = A at hD ⊢
  have hA : ∀ q : Nat, s.heap.size ≤ q → A q := fun q h => by rw [← hAe]; exact Or.inr h
  have hS : va_S A s.heap s.heap [] := va_S.rf
  have hP : va_P (dC, dI) vwCl [(h0, .inr (6, [.int 0, .null]))] s.heap := hP
  have hl := lv_entry ([.ref h0, .int p0]) (n := 2) (Nat.le_of_ble_eq_true rfl)
  rw [lg_entry_eq]
  generalize (lg_sl ([.ref h0, .int p0]) ++ List.replicate (2 - (lg_sl ([.ref h0, .int p0])).length) Slot.unset).toArray = ls at hl ⊢
  have hl : lv_has ls 2 [(0, .ref h0), (1, .int p0)] := hl
  refine lv_aload_n hx hb dX6_init_0 rfl (lv_at hl 0 rfl) ?_
  refine W.objInit hx hb hown (hts (.methodLink RX6 3 objectInit) (by decide +kernel)) (hts (.instanceMethod objectInit) (by decide +kernel)) (hts (.code objectInit ⟨#[0xb1]⟩ 1 none) (by decide +kernel)) rfl (by rw [hml]; exact hl.1) rfl dX6_init_1 (Nat.le_of_ble_eq_true rfl) (Nat.le_of_ble_eq_true rfl) ?_
  refine W.eq (g2 := F0 m 4 ls []) rfl ?_
  refine lv_aload_n hx hb dX6_init_4 rfl (lv_at hl 0 rfl) ?_
  refine lv_bipush (v := 12) hx hb dX6_init_5 (by decide) ?_
  refine va_newa (atype := .int) (ty := .int) (a0 := (12, .inl (fun _ => 0))) (N' := 12) hx hb (hts (.arrayClass .int) (by decide +kernel)) rfl hK hP hD hS hA (fun _ => rfl) (by decide) (by decide) (by decide) (Nat.le_of_ble_eq_true rfl) (Nat.le_of_ble_eq_true rfl) dX6_init_7 (fun q_1 k_2 H hK hP hD hS => ?_)
  refine W.widen (k := 1) (n := 12) (Nat.le_of_ble_eq_true rfl) (Nat.le_of_ble_eq_true rfl) ?_
  have hK : va_K (dC, dI) vwCl [(k_2, .int)] s := hK
  have hP : va_P (dC, dI) vwCl [(h0, .inr (6, [.int 0, .null])), (q_1, .inl (k_2, 12, .inl (fun _ => 0)))] H := hP
  have hD : va_D A [(h0, .inr (6, [.int 0, .null])), (q_1, .inl (k_2, 12, .inl (fun _ => 0)))] := hD
  refine va_putF (D := (dC, dI)) (ci := 6) (v := .ref q_1) (ty := (tyX6 1)) (C := RX6) (T := TX6) (N := 2) hx hb hts hin6 tyX6 tyX6_ok nmX6 hown hK hP hD hS 0 rfl rfl 1 (by decide) (hts (.fieldLink RX6 9 "YamRiders$Tablet" "since" "[I") (by decide +kernel)) (fun _ h9 => h9) rfl hin rfl (by decide +kernel) rfl rfl (Nat.le_of_ble_eq_true rfl) dX6_init_9 (fun H locs hP hD hS => ?_)
  have hP : va_P (dC, dI) vwCl [(h0, .inr (6, [.int 0, .ref q_1])), (q_1, .inl (k_2, 12, .inl (fun _ => 0)))] H := hP
  have hD : va_D A [(h0, .inr (6, [.int 0, .ref q_1])), (q_1, .inl (k_2, 12, .inl (fun _ => 0)))] := hD
  refine lv_aload_n hx hb dX6_init_12 rfl (lv_at hl 0 rfl) ?_
  refine lv_iload_n hx hb dX6_init_13 rfl (lv_at hl 1 rfl) ?_
  refine va_putF (D := (dC, dI)) (ci := 6) (v := .int p0) (ty := (tyX6 0)) (C := RX6) (T := TX6) (N := 2) hx hb hts hin6 tyX6 tyX6_ok nmX6 hown hK hP hD hS 0 rfl rfl 0 (by decide) (hts (.fieldLink RX6 15 "YamRiders$Tablet" "rank" "I") (by decide +kernel)) (fun _ h9 => h9) rfl hin rfl (by decide +kernel) rfl rfl (Nat.le_of_ble_eq_true rfl) dX6_init_14 (fun H locs hP hD hS => ?_)
  have hP : va_P (dC, dI) vwCl [(h0, .inr (6, [.int p0, .ref q_1])), (q_1, .inl (k_2, 12, .inl (fun _ => 0)))] H := hP
  have hD : va_D A [(h0, .inr (6, [.int p0, .ref q_1])), (q_1, .inl (k_2, 12, .inl (fun _ => 0)))] := hD
  refine lv_aload_n hx hb dX6_init_17 rfl (lv_at hl 0 rfl) ?_
  refine va_get (D := (dC, dI)) (ci := 6) (v := .ref q_1) (C := RX6) (T := TX6) (N := 2) hx hb hts hin6 hown hK hP 0 rfl rfl 1 (by decide) (hts (.fieldLink RX6 9 "YamRiders$Tablet" "since" "[I") (by decide +kernel)) (fun _ h9 => h9) rfl dX6_init_18 ?_
  refine lv_iconst (v := (-1)) hx hb dX6_init_21 (by decide) ?_
  have hPc := hP.sub (ws' := [(q_1, .inl (k_2, 12, .inl (fun _ => 0)))]) [1] rfl
  have hDc := hD.sub (ws' := [(q_1, .inl (k_2, 12, .inl (fun _ => 0)))]) [1] (by decide) rfl
  have hKc := hK.sub (tys' := [(k_2, .int)]) [0] rfl
  have hFc := va_free (wc := [(q_1, .inl (k_2, 12, .inl (fun _ => 0)))]) hD hS hA [1] rfl
  refine va_callv (va_runS (As := [.ref q_1, .int (-1)]) (rest := []) ⟨hx, hb, hml, hown, hts⟩ (c_J7_fill l dC dI q_1 k_2 (fun _ => 0) (-1) H.size) (va_cwS 2 hts gX6_init_J7_fill_53178 rfl rfl rfl (by decide +kernel) ⟨Nat.le_of_ble_eq_true rfl, Nat.le_of_ble_eq_true rfl⟩) ⟨c_blind, c_pre hPc hKc hDc hN⟩ rfl rfl hl.1 rfl (lv_room (Nat.le_of_ble_eq_true rfl)) dX6_init_22 ⟨Nat.le_of_ble_eq_true rfl, Nat.le_of_ble_eq_true rfl⟩) hS (fun q _ h => hFc q h) hFc (fun u9 t9 H1 locs ht hvm hw hB hz1 hk1 hS => ?_)
  obtain ⟨f_4, hf_x_5, hP1, hK1, hD1⟩ := hB
  rw [ht] at hP1
  have hK1 := va_K.moved hvm.symm hK1
  obtain ⟨hP, hD⟩ := va_join (wr := [(h0, .inr (6, [.int p0, .ref q_1]))]) (w1 := [(q_1, .inl (k_2, 12, .inl f_4))]) hP hD [1] [0] rfl rfl (by decide) (by decide) hk1 hFc hP1 hD1
  have hK := (hK.sub (tys' := [(k_2, .int)]) [0] rfl).app hK1
  generalize H1 = H at hP hS ⊢
  have hK : va_K (dC, dI) vwCl [(k_2, .int)] s := hK
  have hP : va_P (dC, dI) vwCl [(h0, .inr (6, [.int p0, .ref q_1])), (q_1, .inl (k_2, 12, .inl f_4))] H := hP
  have hD : va_D A [(h0, .inr (6, [.int p0, .ref q_1])), (q_1, .inl (k_2, 12, .inl f_4))] := hD
  refine W.widen (k := 1) (n := 12) (Nat.le_of_ble_eq_true rfl) (Nat.le_of_ble_eq_true rfl) ?_
  have hP9 := hP.sub (ws' := [(h0, .inr (6, [.int p0, .ref q_1])), (q_1, .inl (k_2, 12, .inl f_4))]) [0, 1] rfl
  have hD9 := hD.sub (ws' := [(h0, .inr (6, [.int p0, .ref q_1])), (q_1, .inl (k_2, 12, .inl f_4))]) [0, 1] (by decide) rfl
  have hK9 := hK.sub (tys' := [(k_2, .int)]) [0] rfl
  refine W.widen (k := 1) (n := 12) (Nat.le_of_ble_eq_true rfl) (Nat.le_of_ble_eq_true rfl) ?_
  exact W.vret hx hb hr (fun t9 ht hW => ⟨⟨(), rfl, trivial, q_1, k_2, f_4, hf_x_5, by rw [ht]; exact hP9, va_K.moved hW.alike hK9, hD9⟩, hS.F ht⟩) hS.2.2 dX6_init_25

set_option maxHeartbeats 4000000 in
set_option maxRecDepth 100000 in
theorem g_X2_init (l : Launch) (dC : Nat → ClassId) (dI : Nat → Nat → Nat) (h0 : Nat) (p0 : Int32) (p1 : Int32) (s1 : Nat) (sz : Nat) : Met l yX2_init wsX2_init ({ frames := 1, cells := 1, slots := 12, locals := 23 }) (va_Pc [.ref h0, .int p0, .int p1, .ref s1] (cP dC dI [(h0, .inr (2, [.int 0, .int 0, .null, .null, .int 0, .int 0, .int 0, .null, .int 0, .int 0]))] [] sz)) (va_Qv (fun (_ : Unit) => True) (fun (_ : Unit) t9 => ∃ (q1 : Nat) (k1 : ClassId) (f1 : Nat → Int32), (∀ i, i < 12 → f1 i = -1) ∧ cQ dC dI [(h0, .inr (2, [.int p0, .int p1, .ref s1, .ref q1, .int 0, .int 0, .int 0, .null, .int 0, .int 0])), (q1, .inl (k1, 12, .inl f1))] [(k1, .int)] (va_A [(h0, .inr (2, [.int 0, .int 0, .null, .null, .int 0, .int 0, .int 0, .null, .int 0, .int 0]))] sz) t9) (va_A [(h0, .inr (2, [.int 0, .int 0, .null, .null, .int 0, .int 0, .int 0, .null, .int 0, .int 0]))] sz)) 1 12 (va_A [(h0, .inr (2, [.int 0, .int 0, .null, .null, .int 0, .int 0, .int 0, .null, .int 0, .int 0]))] sz) := by
  refine Met.ofW (cc := cX2_init) (maxL := 4) (ret := none) (by decide) rfl ?_
  intro p e s m args below meth c s₁ B hml hv
  obtain ⟨rfl, hsz, hP, hK, hD0, hN⟩ := hv
  have hx := B.exec
  have hb := B.bytes
  have hr := B.returns
  have hts := atoms_spec (ws := wsX2_init) B.pre
  have hown : s.vm.findClass RX2 = some m.cls := findClass_of_methodNamed B.named
  have hlocks := B.notSynchronized
  have hin : meth.name = "<init>" := (name_of_methodNamed B.named B.method).1
  subst hsz
  have hin2 : ∀ w ∈ u_ws RX2 TX2 10, w ∈ wsX2_init := by decide +kernel
  have hD := hD0.self (sz := s.heap.size)
  generalize hAe : va_A [(h0, .inr (2, [.int 0, .int 0, .null, .null, .int 0, .int 0, .int 0, .null, .int 0, .int 0]))] s.heap.size = A at hD ⊢
  have hA : ∀ q : Nat, s.heap.size ≤ q → A q := fun q h => by rw [← hAe]; exact Or.inr h
  have hS : va_S A s.heap s.heap [] := va_S.rf
  have hP : va_P (dC, dI) vwCl [(h0, .inr (2, [.int 0, .int 0, .null, .null, .int 0, .int 0, .int 0, .null, .int 0, .int 0]))] s.heap := hP
  have hl := lv_entry ([.ref h0, .int p0, .int p1, .ref s1]) (n := 4) (Nat.le_of_ble_eq_true rfl)
  rw [lg_entry_eq]
  generalize (lg_sl ([.ref h0, .int p0, .int p1, .ref s1]) ++ List.replicate (4 - (lg_sl ([.ref h0, .int p0, .int p1, .ref s1])).length) Slot.unset).toArray = ls at hl ⊢
  have hl : lv_has ls 4 [(0, .ref h0), (1, .int p0), (2, .int p1), (3, .ref s1)] := hl
  refine lv_aload_n hx hb dX2_init_0 rfl (lv_at hl 0 rfl) ?_
  refine W.objInit hx hb hown (hts (.methodLink RX2 3 objectInit) (by decide +kernel)) (hts (.instanceMethod objectInit) (by decide +kernel)) (hts (.code objectInit ⟨#[0xb1]⟩ 1 none) (by decide +kernel)) rfl (by rw [hml]; exact hl.1) rfl dX2_init_1 (Nat.le_of_ble_eq_true rfl) (Nat.le_of_ble_eq_true rfl) ?_
  refine W.eq (g2 := F0 m 4 ls []) rfl ?_
  refine lv_aload_n hx hb dX2_init_4 rfl (lv_at hl 0 rfl) ?_
  refine lv_bipush (v := 12) hx hb dX2_init_5 (by decide) ?_
  refine va_newa (atype := .int) (ty := .int) (a0 := (12, .inl (fun _ => 0))) (N' := 12) hx hb (hts (.arrayClass .int) (by decide +kernel)) rfl hK hP hD hS hA (fun _ => rfl) (by decide) (by decide) (by decide) (Nat.le_of_ble_eq_true rfl) (Nat.le_of_ble_eq_true rfl) dX2_init_7 (fun q_1 k_2 H hK hP hD hS => ?_)
  refine W.widen (k := 1) (n := 12) (Nat.le_of_ble_eq_true rfl) (Nat.le_of_ble_eq_true rfl) ?_
  have hK : va_K (dC, dI) vwCl [(k_2, .int)] s := hK
  have hP : va_P (dC, dI) vwCl [(h0, .inr (2, [.int 0, .int 0, .null, .null, .int 0, .int 0, .int 0, .null, .int 0, .int 0])), (q_1, .inl (k_2, 12, .inl (fun _ => 0)))] H := hP
  have hD : va_D A [(h0, .inr (2, [.int 0, .int 0, .null, .null, .int 0, .int 0, .int 0, .null, .int 0, .int 0])), (q_1, .inl (k_2, 12, .inl (fun _ => 0)))] := hD
  refine va_putF (D := (dC, dI)) (ci := 2) (v := .ref q_1) (ty := (tyX2 3)) (C := RX2) (T := TX2) (N := 10) hx hb hts hin2 tyX2 tyX2_ok nmX2 hown hK hP hD hS 0 rfl rfl 3 (by decide) (hts (.fieldLink RX2 9 "YamRiders$Rider" "newsSince" "[I") (by decide +kernel)) (fun _ h9 => h9) rfl hin rfl (by decide +kernel) rfl rfl (Nat.le_of_ble_eq_true rfl) dX2_init_9 (fun H locs hP hD hS => ?_)
  have hP : va_P (dC, dI) vwCl [(h0, .inr (2, [.int 0, .int 0, .null, .ref q_1, .int 0, .int 0, .int 0, .null, .int 0, .int 0])), (q_1, .inl (k_2, 12, .inl (fun _ => 0)))] H := hP
  have hD : va_D A [(h0, .inr (2, [.int 0, .int 0, .null, .ref q_1, .int 0, .int 0, .int 0, .null, .int 0, .int 0])), (q_1, .inl (k_2, 12, .inl (fun _ => 0)))] := hD
  refine lv_aload_n hx hb dX2_init_12 rfl (lv_at hl 0 rfl) ?_
  refine lv_iconst (v := 0) hx hb dX2_init_13 (by decide) ?_
  refine va_put (D := (dC, dI)) (ci := 2) (v := .int 0) (ty := (tyX2 4)) (C := RX2) (T := TX2) (N := 10) hx hb hts hin2 tyX2 tyX2_ok nmX2 hown hK hP hD hS 0 rfl rfl 4 (by decide) (hts (.fieldLink RX2 15 "YamRiders$Rider" "state" "I") (by decide +kernel)) (fun _ h9 => h9) rfl (by decide +kernel) rfl rfl (Nat.le_of_ble_eq_true rfl) dX2_init_14 (fun H locs hP hD hS => ?_)
  have hP : va_P (dC, dI) vwCl [(h0, .inr (2, [.int 0, .int 0, .null, .ref q_1, .int 0, .int 0, .int 0, .null, .int 0, .int 0])), (q_1, .inl (k_2, 12, .inl (fun _ => 0)))] H := hP
  have hD : va_D A [(h0, .inr (2, [.int 0, .int 0, .null, .ref q_1, .int 0, .int 0, .int 0, .null, .int 0, .int 0])), (q_1, .inl (k_2, 12, .inl (fun _ => 0)))] := hD
  refine lv_aload_n hx hb dX2_init_17 rfl (lv_at hl 0 rfl) ?_
  refine lv_iload_n hx hb dX2_init_18 rfl (lv_at hl 1 rfl) ?_
  refine va_putF (D := (dC, dI)) (ci := 2) (v := .int p0) (ty := (tyX2 0)) (C := RX2) (T := TX2) (N := 10) hx hb hts hin2 tyX2 tyX2_ok nmX2 hown hK hP hD hS 0 rfl rfl 0 (by decide) (hts (.fieldLink RX2 19 "YamRiders$Rider" "tablet" "I") (by decide +kernel)) (fun _ h9 => h9) rfl hin rfl (by decide +kernel) rfl rfl (Nat.le_of_ble_eq_true rfl) dX2_init_19 (fun H locs hP hD hS => ?_)
  have hP : va_P (dC, dI) vwCl [(h0, .inr (2, [.int p0, .int 0, .null, .ref q_1, .int 0, .int 0, .int 0, .null, .int 0, .int 0])), (q_1, .inl (k_2, 12, .inl (fun _ => 0)))] H := hP
  have hD : va_D A [(h0, .inr (2, [.int p0, .int 0, .null, .ref q_1, .int 0, .int 0, .int 0, .null, .int 0, .int 0])), (q_1, .inl (k_2, 12, .inl (fun _ => 0)))] := hD
  refine lv_aload_n hx hb dX2_init_22 rfl (lv_at hl 0 rfl) ?_
  refine lv_iload_n hx hb dX2_init_23 rfl (lv_at hl 2 rfl) ?_
  refine va_putF (D := (dC, dI)) (ci := 2) (v := .int p1) (ty := (tyX2 1)) (C := RX2) (T := TX2) (N := 10) hx hb hts hin2 tyX2 tyX2_ok nmX2 hown hK hP hD hS 0 rfl rfl 1 (by decide) (hts (.fieldLink RX2 22 "YamRiders$Rider" "rank" "I") (by decide +kernel)) (fun _ h9 => h9) rfl hin rfl (by decide +kernel) rfl rfl (Nat.le_of_ble_eq_true rfl) dX2_init_24 (fun H locs hP hD hS => ?_)
  have hP : va_P (dC, dI) vwCl [(h0, .inr (2, [.int p0, .int p1, .null, .ref q_1, .int 0, .int 0, .int 0, .null, .int 0, .int 0])), (q_1, .inl (k_2, 12, .inl (fun _ => 0)))] H := hP
  have hD : va_D A [(h0, .inr (2, [.int p0, .int p1, .null, .ref q_1, .int 0, .int 0, .int 0, .null, .int 0, .int 0])), (q_1, .inl (k_2, 12, .inl (fun _ => 0)))] := hD
  refine lv_aload_n hx hb dX2_init_27 rfl (lv_at hl 0 rfl) ?_
  refine lv_aload_n hx hb dX2_init_28 rfl (lv_at hl 3 rfl) ?_
  refine va_putF (D := (dC, dI)) (ci := 2) (v := .ref s1) (ty := (tyX2 2)) (C := RX2) (T := TX2) (N := 10) hx hb hts hin2 tyX2 tyX2_ok nmX2 hown hK hP hD hS 0 rfl rfl 2 (by decide) (hts (.fieldLink RX2 25 "YamRiders$Rider" "stations" "[I") (by decide +kernel)) (fun _ h9 => h9) rfl hin rfl (by decide +kernel) rfl rfl (Nat.le_of_ble_eq_true rfl) dX2_init_29 (fun H locs hP hD hS => ?_)
  have hP : va_P (dC, dI) vwCl [(h0, .inr (2, [.int p0, .int p1, .ref s1, .ref q_1, .int 0, .int 0, .int 0, .null, .int 0, .int 0])), (q_1, .inl (k_2, 12, .inl (fun _ => 0)))] H := hP
  have hD : va_D A [(h0, .inr (2, [.int p0, .int p1, .ref s1, .ref q_1, .int 0, .int 0, .int 0, .null, .int 0, .int 0])), (q_1, .inl (k_2, 12, .inl (fun _ => 0)))] := hD
  refine lv_aload_n hx hb dX2_init_32 rfl (lv_at hl 0 rfl) ?_
  refine va_get (D := (dC, dI)) (ci := 2) (v := .ref q_1) (C := RX2) (T := TX2) (N := 10) hx hb hts hin2 hown hK hP 0 rfl rfl 3 (by decide) (hts (.fieldLink RX2 9 "YamRiders$Rider" "newsSince" "[I") (by decide +kernel)) (fun _ h9 => h9) rfl dX2_init_33 ?_
  refine lv_iconst (v := (-1)) hx hb dX2_init_36 (by decide) ?_
  have hPc := hP.sub (ws' := [(q_1, .inl (k_2, 12, .inl (fun _ => 0)))]) [1] rfl
  have hDc := hD.sub (ws' := [(q_1, .inl (k_2, 12, .inl (fun _ => 0)))]) [1] (by decide) rfl
  have hKc := hK.sub (tys' := [(k_2, .int)]) [0] rfl
  have hFc := va_free (wc := [(q_1, .inl (k_2, 12, .inl (fun _ => 0)))]) hD hS hA [1] rfl
  refine va_callv (va_runS (As := [.ref q_1, .int (-1)]) (rest := []) ⟨hx, hb, hml, hown, hts⟩ (c_J7_fill l dC dI q_1 k_2 (fun _ => 0) (-1) H.size) (va_cwS 2 hts gX2_init_J7_fill_53178 rfl rfl rfl (by decide +kernel) ⟨Nat.le_of_ble_eq_true rfl, Nat.le_of_ble_eq_true rfl⟩) ⟨c_blind, c_pre hPc hKc hDc hN⟩ rfl rfl hl.1 rfl (lv_room (Nat.le_of_ble_eq_true rfl)) dX2_init_37 ⟨Nat.le_of_ble_eq_true rfl, Nat.le_of_ble_eq_true rfl⟩) hS (fun q _ h => hFc q h) hFc (fun u9 t9 H1 locs ht hvm hw hB hz1 hk1 hS => ?_)
  obtain ⟨f_4, hf_x_5, hP1, hK1, hD1⟩ := hB
  rw [ht] at hP1
  have hK1 := va_K.moved hvm.symm hK1
  obtain ⟨hP, hD⟩ := va_join (wr := [(h0, .inr (2, [.int p0, .int p1, .ref s1, .ref q_1, .int 0, .int 0, .int 0, .null, .int 0, .int 0]))]) (w1 := [(q_1, .inl (k_2, 12, .inl f_4))]) hP hD [1] [0] rfl rfl (by decide) (by decide) hk1 hFc hP1 hD1
  have hK := (hK.sub (tys' := [(k_2, .int)]) [0] rfl).app hK1
  generalize H1 = H at hP hS ⊢
  have hK : va_K (dC, dI) vwCl [(k_2, .int)] s := hK
  have hP : va_P (dC, dI) vwCl [(h0, .inr (2, [.int p0, .int p1, .ref s1, .ref q_1, .int 0, .int 0, .int 0, .null, .int 0, .int 0])), (q_1, .inl (k_2, 12, .inl f_4))] H := hP
  have hD : va_D A [(h0, .inr (2, [.int p0, .int p1, .ref s1, .ref q_1, .int 0, .int 0, .int 0, .null, .int 0, .int 0])), (q_1, .inl (k_2, 12, .inl f_4))] := hD
  refine W.widen (k := 1) (n := 12) (Nat.le_of_ble_eq_true rfl) (Nat.le_of_ble_eq_true rfl) ?_
  have hP9 := hP.sub (ws' := [(h0, .inr (2, [.int p0, .int p1, .ref s1, .ref q_1, .int 0, .int 0, .int 0, .null, .int 0, .int 0])), (q_1, .inl (k_2, 12, .inl f_4))]) [0, 1] rfl
  have hD9 := hD.sub (ws' := [(h0, .inr (2, [.int p0, .int p1, .ref s1, .ref q_1, .int 0, .int 0, .int 0, .null, .int 0, .int 0])), (q_1, .inl (k_2, 12, .inl f_4))]) [0, 1] (by decide) rfl
  have hK9 := hK.sub (tys' := [(k_2, .int)]) [0] rfl
  refine W.widen (k := 1) (n := 12) (Nat.le_of_ble_eq_true rfl) (Nat.le_of_ble_eq_true rfl) ?_
  exact W.vret hx hb hr (fun t9 ht hW => ⟨⟨(), rfl, trivial, q_1, k_2, f_4, hf_x_5, by rw [ht]; exact hP9, va_K.moved hW.alike hK9, hD9⟩, hS.F ht⟩) hS.2.2 dX2_init_40

def NTb (S T : Nat → Nat → Nat → Int32) (n : Nat) (p : Int32) : Prop := (∀ c i, ¬ c / 16 ∈ [28, 31, 32, 33, 38, 41, 43, 44, 45] → ¬ (i = n ∧ (c = 560 ∨ c = 96)) → T c i = S c i) ∧ T 96 n 0 = p ∧ ∀ s, s < 12 → T 560 n s = -1
theorem NT_i {S T U : Nat → Nat → Nat → Int32} {n j : Nat} {f : Nat → Int32} {p : Int32} (hag : AG S T) (hg : T 608 j = f) (hf : ∀ i, i < 12 → f i = -1) (e : U = upC (upC T 560 n (T 608 j)) 96 n (fun _ => p)) : NTb S U n p := by
  subst e
  refine ⟨fun c i h1 h2 => ?_, ?_, fun s hs => ?_⟩
  · rw [upC_o (fun w => h2 ⟨w.2, Or.inr w.1⟩), upC_o (fun w => h2 ⟨w.2, Or.inl w.1⟩), hag c h1]
  · rw [upC_s]
  · rw [upC_c (by decide), upC_s, hg]; exact hf s hs
def TBc (S T : Nat → Nat → Nat → Int32) (n m : Nat) (p : Int32) : Prop := (m = n ∧ T = S) ∨ (m = n + 1 ∧ NTb S T n p)
def HOc (S T : Nat → Nat → Nat → Int32) (n m : Nat) (p q : Int32) : Prop := (m = n ∧ T = S) ∨ (m = n + 1 ∧ T = upC (upC S 1 n (fun _ => p)) 2 n (fun _ => q))
theorem HOc.fr {S T : Nat → Nat → Nat → Int32} {n m : Nat} {p q : Int32} (h : HOc S T n m p q) : FR S T := by
  rcases h with ⟨_, h⟩ | ⟨_, h⟩
  · rw [h]; exact FR.rf
  · rw [h]; exact FR.uC (FR.uC FR.rf (by decide) (by decide)) (by decide) (by decide)
theorem TBc.fr {S T : Nat → Nat → Nat → Int32} {n m : Nat} {p : Int32} (h : TBc S T n m p) : FR S T := by
  rcases h with ⟨_, h⟩ | ⟨_, h⟩
  · rw [h]; exact FR.rf
  · exact ⟨funext fun i => h.1 416 i (by decide) (fun w => w.2.elim (by decide) (by decide)), funext fun i => h.1 432 i (by decide) (fun w => w.2.elim (by decide) (by decide))⟩

set_option maxHeartbeats 4000000 in
set_option maxRecDepth 100000 in
theorem e_X8_horse (l : Launch) (dC : Nat → ClassId) (dI : Nat → Nat → Nat) (cs : Nat → ClassId) (L : List Nat) (ka : Nat → Nat) (ix : Nat → Nat) (ad : Nat → Nat → Nat) (n0 : Nat) (n6 : Nat) (n2 : Nat) (S : Nat → Nat → Nat → Int32) (f : Nat → va_E) (gq : Nat) (h0 : Nat) (a1 : Nat) (a2 : Nat) (a3 : Nat) (a4 : Nat) (a5 : Nat) (a6 : Nat) (a7 : Nat) (a8 : Nat) (a9 : Nat) (j_faultKind : Int32) (j_tabletCount : Int32) (j_riderCount : Int32) (j_lineLength : Int32) (j_hour : Int32) (p0 : Int32) (p1 : Int32) (sz : Nat) (hT : tB L ka ix ad cs n0 n6 n2 S f) (hY : yX L ka ix ad gq a2 a3 a4 a5 a6 a7 a8 a9) : Met l yX8_horse wsX8_horse ({ frames := 2, cells := 1, slots := 3, locals := 43 }) (va_Pc [.ref h0, .int p0, .int p1] (cP dC dI ([(h0, .inr (8, [.ref a1, .ref a2, .ref a3, .ref a4, .ref a5, .ref a6, .ref a7, .ref a8, .ref a9, .int j_faultKind, .int (nI n0), .int j_tabletCount, .int j_riderCount, .int j_lineLength, .int j_hour]))] ++ va_pl L f) (tyC cs) sz)) (va_Qi (fun (r rv : Int32) => r = rv) (fun (rv : Int32) t9 => ∃ (L2 : List Nat) (ka2 : Nat → Nat) (ix2 : Nat → Nat) (ad2 : Nat → Nat → Nat) (S2 : Nat → Nat → Nat → Int32) (f2 : Nat → va_E) (m0 : Nat), (eX L ka ix L2 ka2 ix2) ∧ (tB L2 ka2 ix2 ad2 cs m0 n6 n2 S2 f2) ∧ (m0 ≤ 60 ∧ FHo p0 p1 n0 rv m0) ∧ (HOc S S2 n0 m0 p0 p1) ∧ cQ dC dI ([(h0, .inr (8, [.ref a1, .ref a2, .ref a3, .ref a4, .ref a5, .ref a6, .ref a7, .ref a8, .ref a9, .int j_faultKind, .int (nI m0), .int j_tabletCount, .int j_riderCount, .int j_lineLength, .int j_hour]))] ++ va_pl L2 f2) [] (va_A ([(h0, .inr (8, [.ref a1, .ref a2, .ref a3, .ref a4, .ref a5, .ref a6, .ref a7, .ref a8, .ref a9, .int j_faultKind, .int (nI n0), .int j_tabletCount, .int j_riderCount, .int j_lineLength, .int j_hour]))] ++ va_pl L f) sz) t9) (va_A ([(h0, .inr (8, [.ref a1, .ref a2, .ref a3, .ref a4, .ref a5, .ref a6, .ref a7, .ref a8, .ref a9, .int j_faultKind, .int (nI n0), .int j_tabletCount, .int j_riderCount, .int j_lineLength, .int j_hour]))] ++ va_pl L f) sz)) 1 3 (va_A ([(h0, .inr (8, [.ref a1, .ref a2, .ref a3, .ref a4, .ref a5, .ref a6, .ref a7, .ref a8, .ref a9, .int j_faultKind, .int (nI n0), .int j_tabletCount, .int j_riderCount, .int j_lineLength, .int j_hour]))] ++ va_pl L f) sz) := by
  refine Met.ofW (cc := cX8_horse) (maxL := 3) (ret := (some .int)) (by decide) rfl ?_
  intro p e s m args below meth c s₁ B hml hv
  obtain ⟨rfl, hsz, hP, hK, hD0, hN⟩ := hv
  have hx := B.exec
  have hb := B.bytes
  have hr := B.returns
  have hts := atoms_spec (ws := wsX8_horse) B.pre
  have hown : s.vm.findClass RX8 = some m.cls := findClass_of_methodNamed B.named
  have hlocks := B.notSynchronized
  subst hsz
  have hin0 : ∀ w ∈ u_ws RX0 TX0 3, w ∈ wsX8_horse := by decide +kernel
  have hin8 : ∀ w ∈ u_ws RX8 TX8 15, w ∈ wsX8_horse := by decide +kernel
  have hD := hD0.self (sz := s.heap.size)
  generalize hAe : va_A ([(h0, .inr (8, [.ref a1, .ref a2, .ref a3, .ref a4, .ref a5, .ref a6, .ref a7, .ref a8, .ref a9, .int j_faultKind, .int (nI n0), .int j_tabletCount, .int j_riderCount, .int j_lineLength, .int j_hour]))] ++ va_pl L f) s.heap.size = A at hD ⊢
  have hA : ∀ q : Nat, s.heap.size ≤ q → A q := fun q h => by rw [← hAe]; exact Or.inr h
  have hS : va_S A s.heap s.heap [] := va_S.rf
  have hP : va_P (dC, dI) vwCl ([(h0, .inr (8, [.ref a1, .ref a2, .ref a3, .ref a4, .ref a5, .ref a6, .ref a7, .ref a8, .ref a9, .int j_faultKind, .int (nI n0), .int j_tabletCount, .int j_riderCount, .int j_lineLength, .int j_hour]))] ++ va_pl L f) s.heap := hP
  have hl := lv_entry ([.ref h0, .int p0, .int p1]) (n := 3) (Nat.le_of_ble_eq_true rfl)
  rw [lg_entry_eq]
  generalize (lg_sl ([.ref h0, .int p0, .int p1]) ++ List.replicate (3 - (lg_sl ([.ref h0, .int p0, .int p1])).length) Slot.unset).toArray = ls at hl ⊢
  have hl : lv_has ls 3 [(0, .ref h0), (1, .int p0), (2, .int p1)] := hl
  refine lv_aload_n hx hb dX8_horse_0 rfl (lv_at hl 0 rfl) ?_
  refine va_get (D := (dC, dI)) (ci := 8) (v := .int (nI n0)) (C := RX8) (T := TX8) (N := 15) hx hb hts hin8 hown hK hP 0 rfl rfl 10 (by decide) (hts (.fieldLink RX8 110 "YamRiders" "horseCount" "I") (by decide +kernel)) (fun _ h9 => h9) rfl dX8_horse_1 ?_
  refine lv_bipush (v := 60) hx hb dX8_horse_4 (by decide) ?_
  refine lv_icmp_ge (tgt := 26) hx hb dX8_horse_6 (by decide) (fun c_1 => ?_) (fun c_1 => ?_)
  · refine lv_iconst (v := (-1)) hx hb dX8_horse_26 (by decide) ?_
    have hP9 := hP.part (cx := [(h0, .inr (8, [.ref a1, .ref a2, .ref a3, .ref a4, .ref a5, .ref a6, .ref a7, .ref a8, .ref a9, .int j_faultKind, .int (nI n0), .int j_tabletCount, .int j_riderCount, .int j_lineLength, .int j_hour]))]) [0] rfl
    have hD9 := hD.part (cx := [(h0, .inr (8, [.ref a1, .ref a2, .ref a3, .ref a4, .ref a5, .ref a6, .ref a7, .ref a8, .ref a9, .int j_faultKind, .int (nI n0), .int j_tabletCount, .int j_riderCount, .int j_lineLength, .int j_hour]))]) [0] (by decide) rfl
    have hK9 := hK.sub (tys' := []) [] rfl
    refine W.widen (k := 1) (n := 3) (Nat.le_of_ble_eq_true rfl) (Nat.le_of_ble_eq_true rfl) ?_
    exact W.iret (v := (-1)) hx hb hr (fun t9 ht hW => ⟨⟨_, (-1), rfl, rfl, L, ka, ix, ad, S, f, n0, (fun _ _ _ _ h => h), hT, (by have h9 := hT.b0; exact ⟨by omega, (Or.inl ⟨rfl, rfl, (Or.inl (nI_geN (m := 60) c_1 (by decide) (by omega)))⟩)⟩), (Or.inl ⟨rfl, rfl⟩), by rw [ht]; exact hP9, va_K.moved hW.alike hK9, hD9⟩, hS.F ht⟩) hS.2.2 dX8_horse_27
  · refine lv_iload_n hx hb dX8_horse_9 rfl (lv_at hl 1 rfl) ?_
    have hPc := hP.sub (ws' := []) [] rfl
    have hDc := hD.sub (ws' := []) [] (by decide) rfl
    have hKc := hK.sub (tys' := []) [] rfl
    refine cs_i (va_runS (As := [.int p0]) (rest := []) ⟨hx, hb, hml, hown, hts⟩ (c_X8_isStation l dC dI p0 s.heap.size) (va_cwS 1 hts gX8_horse_X8_isStation rfl rfl rfl (by decide +kernel) ⟨Nat.le_of_ble_eq_true rfl, Nat.le_of_ble_eq_true rfl⟩) ⟨c_blind, c_pre hPc hKc hDc hN⟩ rfl rfl hl.1 rfl (lv_room (Nat.le_of_ble_eq_true rfl)) dX8_horse_10 ⟨Nat.le_of_ble_eq_true rfl, Nat.le_of_ble_eq_true rfl⟩) (fun r_2 hr_2 => ?_)
    subst hr_2
    refine lv_if_eq (tgt := 26) hx hb dX8_horse_13 (by decide) (fun c_3 => ?_) (fun c_3 => ?_)
    · refine lv_iconst (v := (-1)) hx hb dX8_horse_26 (by decide) ?_
      have hP9 := hP.part (cx := [(h0, .inr (8, [.ref a1, .ref a2, .ref a3, .ref a4, .ref a5, .ref a6, .ref a7, .ref a8, .ref a9, .int j_faultKind, .int (nI n0), .int j_tabletCount, .int j_riderCount, .int j_lineLength, .int j_hour]))]) [0] rfl
      have hD9 := hD.part (cx := [(h0, .inr (8, [.ref a1, .ref a2, .ref a3, .ref a4, .ref a5, .ref a6, .ref a7, .ref a8, .ref a9, .int j_faultKind, .int (nI n0), .int j_tabletCount, .int j_riderCount, .int j_lineLength, .int j_hour]))]) [0] (by decide) rfl
      have hK9 := hK.sub (tys' := []) [] rfl
      refine W.widen (k := 1) (n := 3) (Nat.le_of_ble_eq_true rfl) (Nat.le_of_ble_eq_true rfl) ?_
      exact W.iret (v := (-1)) hx hb hr (fun t9 ht hW => ⟨⟨_, (-1), rfl, rfl, L, ka, ix, ad, S, f, n0, (fun _ _ _ _ h => h), hT, (by have h9 := hT.b0; exact ⟨by omega, (Or.inl ⟨rfl, rfl, (Or.inr (Or.inl c_3))⟩)⟩), (Or.inl ⟨rfl, rfl⟩), by rw [ht]; exact hP9, va_K.moved hW.alike hK9, hD9⟩, hS.F ht⟩) hS.2.2 dX8_horse_27
    · refine lv_iload_n hx hb dX8_horse_16 rfl (lv_at hl 2 rfl) ?_
      refine lv_if_lt (tgt := 26) hx hb dX8_horse_17 (by decide) (fun c_4 => ?_) (fun c_4 => ?_)
      · refine lv_iconst (v := (-1)) hx hb dX8_horse_26 (by decide) ?_
        have hP9 := hP.part (cx := [(h0, .inr (8, [.ref a1, .ref a2, .ref a3, .ref a4, .ref a5, .ref a6, .ref a7, .ref a8, .ref a9, .int j_faultKind, .int (nI n0), .int j_tabletCount, .int j_riderCount, .int j_lineLength, .int j_hour]))]) [0] rfl
        have hD9 := hD.part (cx := [(h0, .inr (8, [.ref a1, .ref a2, .ref a3, .ref a4, .ref a5, .ref a6, .ref a7, .ref a8, .ref a9, .int j_faultKind, .int (nI n0), .int j_tabletCount, .int j_riderCount, .int j_lineLength, .int j_hour]))]) [0] (by decide) rfl
        have hK9 := hK.sub (tys' := []) [] rfl
        refine W.widen (k := 1) (n := 3) (Nat.le_of_ble_eq_true rfl) (Nat.le_of_ble_eq_true rfl) ?_
        exact W.iret (v := (-1)) hx hb hr (fun t9 ht hW => ⟨⟨_, (-1), rfl, rfl, L, ka, ix, ad, S, f, n0, (fun _ _ _ _ h => h), hT, (by have h9 := hT.b0; exact ⟨by omega, (Or.inl ⟨rfl, rfl, (Or.inr (Or.inr (Or.inl c_4)))⟩)⟩), (Or.inl ⟨rfl, rfl⟩), by rw [ht]; exact hP9, va_K.moved hW.alike hK9, hD9⟩, hS.F ht⟩) hS.2.2 dX8_horse_27
      · refine lv_iload_n hx hb dX8_horse_20 rfl (lv_at hl 2 rfl) ?_
        refine lv_bipush (v := 100) hx hb dX8_horse_21 (by decide) ?_
        refine lv_icmp_le (tgt := 28) hx hb dX8_horse_23 (by decide) (fun c_5 => ?_) (fun c_5 => ?_)
        · have hn9 := hT.b0
          have hc60 : n0 < 60 := nI_nleq (n := 60) c_1 (by omega)
          refine lv_aload_n hx hb dX8_horse_28 rfl (lv_at hl 0 rfl) ?_
          refine va_get (D := (dC, dI)) (ci := 8) (v := .ref a5) (C := RX8) (T := TX8) (N := 15) hx hb hts hin8 hown hK hP 0 rfl rfl 4 (by decide) (hts (.fieldLink RX8 36 "YamRiders" "horses" "[LYamRiders$Horse;") (by decide +kernel)) (fun _ h9 => h9) rfl dX8_horse_29 ?_
          refine lv_aload_n hx hb dX8_horse_32 rfl (lv_at hl 0 rfl) ?_
          refine va_get (D := (dC, dI)) (ci := 8) (v := .int (nI n0)) (C := RX8) (T := TX8) (N := 15) hx hb hts hin8 hown hK hP 0 rfl rfl 10 (by decide) (hts (.fieldLink RX8 110 "YamRiders" "horseCount" "I") (by decide +kernel)) (fun _ h9 => h9) rfl dX8_horse_33 ?_
          refine va_new (ci := 0) (fs := [.int 0, .int 0, .int 0]) (C := RX0) (T := TX0) (N := 3) hx hb hts hin0 tyX0 tyX0_ok hown (hts (.classLink RX8 34 RX0) (by decide +kernel)) (hts (.instantiable RX0 3) (by decide +kernel)) (hts (.initialized RX0) (by decide +kernel)) hK hP hD hS hA rfl (by decide +kernel) (Nat.le_of_ble_eq_true rfl) (Nat.le_of_ble_eq_true rfl) dX8_horse_36 (fun q_6 H hP hD hS => ?_)
          refine W.widen (k := 1) (n := 3) (Nat.le_of_ble_eq_true rfl) (Nat.le_of_ble_eq_true rfl) ?_
          have hP := va_P.swap (a := [(h0, .inr (8, [.ref a1, .ref a2, .ref a3, .ref a4, .ref a5, .ref a6, .ref a7, .ref a8, .ref a9, .int j_faultKind, .int (nI n0), .int j_tabletCount, .int j_riderCount, .int j_lineLength, .int j_hour]))]) hP
          have hD := va_D.swap (a := [(h0, .inr (8, [.ref a1, .ref a2, .ref a3, .ref a4, .ref a5, .ref a6, .ref a7, .ref a8, .ref a9, .int j_faultKind, .int (nI n0), .int j_tabletCount, .int j_riderCount, .int j_lineLength, .int j_hour]))]) hD
          have hP : va_P (dC, dI) vwCl ([(h0, .inr (8, [.ref a1, .ref a2, .ref a3, .ref a4, .ref a5, .ref a6, .ref a7, .ref a8, .ref a9, .int j_faultKind, .int (nI n0), .int j_tabletCount, .int j_riderCount, .int j_lineLength, .int j_hour])), (q_6, .inr (0, [.int 0, .int 0, .int 0]))] ++ va_pl L f) H := hP
          have hD : va_D A ([(h0, .inr (8, [.ref a1, .ref a2, .ref a3, .ref a4, .ref a5, .ref a6, .ref a7, .ref a8, .ref a9, .int j_faultKind, .int (nI n0), .int j_tabletCount, .int j_riderCount, .int j_lineLength, .int j_hour])), (q_6, .inr (0, [.int 0, .int 0, .int 0]))] ++ va_pl L f) := hD
          refine lv_dup hx hb dX8_horse_39 rfl ?_
          refine lv_aload_n hx hb dX8_horse_40 rfl (lv_at hl 0 rfl) ?_
          refine va_get (D := (dC, dI)) (ci := 8) (v := .int (nI n0)) (C := RX8) (T := TX8) (N := 15) hx hb hts hin8 hown hK hP 0 rfl rfl 10 (by decide) (hts (.fieldLink RX8 110 "YamRiders" "horseCount" "I") (by decide +kernel)) (fun _ h9 => h9) rfl dX8_horse_41 ?_
          refine lv_iload_n hx hb dX8_horse_44 rfl (lv_at hl 1 rfl) ?_
          refine lv_iload_n hx hb dX8_horse_45 rfl (lv_at hl 2 rfl) ?_
          have hPc := hP.sub (ws' := [(q_6, .inr (0, [.int 0, .int 0, .int 0]))]) [1] rfl
          have hDc := hD.sub (ws' := [(q_6, .inr (0, [.int 0, .int 0, .int 0]))]) [1] (by decide) rfl
          have hKc := hK.sub (tys' := []) [] rfl
          have hFc := va_free (wc := [(q_6, .inr (0, [.int 0, .int 0, .int 0]))]) hD hS hA [1] rfl
          refine va_callv (va_runI (As := [.int (nI n0), .int p0, .int p1]) (rest := [.ref q_6, .int (nI n0), .ref a5]) ⟨hx, hb, hml, hown, hts⟩ (g_X0_init l dC dI q_6 (nI n0) p0 p1 H.size) (cwI 3 hts gX8_horse_X0_init rfl rfl rfl (hts (.initialized RX0) (by decide +kernel)) (hts (.methodLink RX8 113 yX0_init) (by decide +kernel)) (hts (.instanceMethod yX0_init) (by decide +kernel)) rfl (by decide +kernel) ⟨Nat.le_of_ble_eq_true rfl, Nat.le_of_ble_eq_true rfl⟩) ⟨c_blind, c_pre hPc hKc hDc hN⟩ rfl rfl hl.1 rfl (lv_room (Nat.le_of_ble_eq_true rfl)) dX8_horse_46 ⟨Nat.le_of_ble_eq_true rfl, Nat.le_of_ble_eq_true rfl⟩) hS (fun q _ h => hFc q h) hFc (fun u9 t9 H1 locs ht hvm hw hB hz1 hk1 hS => ?_)
          obtain ⟨hP1, hK1, hD1⟩ := hB
          rw [ht] at hP1
          have hK1 := va_K.moved hvm.symm hK1
          obtain ⟨hP, hD⟩ := va_joinQ (X := [(h0, .inr (8, [.ref a1, .ref a2, .ref a3, .ref a4, .ref a5, .ref a6, .ref a7, .ref a8, .ref a9, .int j_faultKind, .int (nI n0), .int j_tabletCount, .int j_riderCount, .int j_lineLength, .int j_hour])), (q_6, .inr (0, [.int 0, .int 0, .int 0]))]) (cx := [(q_6, .inr (0, [.int 0, .int 0, .int 0]))]) (wr := [(h0, .inr (8, [.ref a1, .ref a2, .ref a3, .ref a4, .ref a5, .ref a6, .ref a7, .ref a8, .ref a9, .int j_faultKind, .int (nI n0), .int j_tabletCount, .int j_riderCount, .int j_lineLength, .int j_hour]))]) (w1 := [(q_6, .inr (0, [.int (nI n0), .int p0, .int p1]))]) (pl := va_pl L f) hP hD [1] [0] rfl rfl (by decide) (by decide) hk1 hFc hP1 hD1
          generalize H1 = H at hP hS ⊢
          have hP : va_P (dC, dI) vwCl ([(h0, .inr (8, [.ref a1, .ref a2, .ref a3, .ref a4, .ref a5, .ref a6, .ref a7, .ref a8, .ref a9, .int j_faultKind, .int (nI n0), .int j_tabletCount, .int j_riderCount, .int j_lineLength, .int j_hour])), (q_6, .inr (0, [.int (nI n0), .int p0, .int p1]))] ++ va_pl L f) H := hP
          have hD : va_D A ([(h0, .inr (8, [.ref a1, .ref a2, .ref a3, .ref a4, .ref a5, .ref a6, .ref a7, .ref a8, .ref a9, .int j_faultKind, .int (nI n0), .int j_tabletCount, .int j_riderCount, .int j_lineLength, .int j_hour])), (q_6, .inr (0, [.int (nI n0), .int p0, .int p1]))] ++ va_pl L f) := hD
          refine W.widen (k := 1) (n := 3) (Nat.le_of_ble_eq_true rfl) (Nat.le_of_ble_eq_true rfl) ?_
          have hf_8 : f a5 = .inl (cs 3, 60, .inr (.inr (.inr (.inr (gl ad 0 n0))))) := hT.get hY.2.2.2.1
          obtain ⟨q_9, hq_9⟩ := pl_at (X := [(h0, .inr (8, [.ref a1, .ref a2, .ref a3, .ref a4, .ref a5, .ref a6, .ref a7, .ref a8, .ref a9, .int j_faultKind, .int (nI n0), .int j_tabletCount, .int j_riderCount, .int j_lineLength, .int j_hour])), (q_6, .inr (0, [.int (nI n0), .int p0, .int p1]))]) (f := f) (e := .inl (cs 3, 60, .inr (.inr (.inr (.inr (gl ad 0 n0)))))) hY.2.2.2.1.1 hf_8
          refine va_astq hx hb hK hP hD hS q_9 3 1 0 hq_9 rfl rfl rfl (vp_in_nI (by omega) (by omega)) dX8_horse_49 (fun H locs hP9 hD9 hS => ?_)
          have hs_11 := pl_st (.inl (cs 3, 60, .inr (.inr (.inr (.inr (va_up (gl ad 0 n0) (nI n0).toNatClampNeg (some q_6))))))) hD hY.2.2.2.1.1 hf_8 hq_9
          have hP9 : va_P (dC, dI) vwCl ((([(h0, .inr (8, [.ref a1, .ref a2, .ref a3, .ref a4, .ref a5, .ref a6, .ref a7, .ref a8, .ref a9, .int j_faultKind, .int (nI n0), .int j_tabletCount, .int j_riderCount, .int j_lineLength, .int j_hour])), (q_6, .inr (0, [.int (nI n0), .int p0, .int p1]))] : va_W) ++ va_pl L f).set q_9 (a5, .inl (cs 3, 60, .inr (.inr (.inr (.inr (va_up (gl ad 0 n0) (nI n0).toNatClampNeg (some q_6)))))))) H := hP9
          have hD9 : va_D A ((([(h0, .inr (8, [.ref a1, .ref a2, .ref a3, .ref a4, .ref a5, .ref a6, .ref a7, .ref a8, .ref a9, .int j_faultKind, .int (nI n0), .int j_tabletCount, .int j_riderCount, .int j_lineLength, .int j_hour])), (q_6, .inr (0, [.int (nI n0), .int p0, .int p1]))] : va_W) ++ va_pl L f).set q_9 (a5, .inl (cs 3, 60, .inr (.inr (.inr (.inr (va_up (gl ad 0 n0) (nI n0).toNatClampNeg (some q_6)))))))) := hD9
          rw [hs_11, nI_clamp (by omega)] at hP9 hD9
          have hP := hP9.part (cx := [(h0, .inr (8, [.ref a1, .ref a2, .ref a3, .ref a4, .ref a5, .ref a6, .ref a7, .ref a8, .ref a9, .int j_faultKind, .int (nI n0), .int j_tabletCount, .int j_riderCount, .int j_lineLength, .int j_hour]))] ++ [(q_6, .inr (0, [.int (nI n0), .int p0, .int p1]))]) [0, 1] rfl
          have hD := hD9.part (cx := [(h0, .inr (8, [.ref a1, .ref a2, .ref a3, .ref a4, .ref a5, .ref a6, .ref a7, .ref a8, .ref a9, .int j_faultKind, .int (nI n0), .int j_tabletCount, .int j_riderCount, .int j_lineLength, .int j_hour]))] ++ [(q_6, .inr (0, [.int (nI n0), .int p0, .int p1]))]) [0, 1] (by decide) rfl
          clear hP9 hD9 hs_11
          obtain ⟨L_12, ka_13, ix_14, ad_15, f_16, hX_17, hT, hP, hD⟩ := e_pushH (X := [(h0, .inr (8, [.ref a1, .ref a2, .ref a3, .ref a4, .ref a5, .ref a6, .ref a7, .ref a8, .ref a9, .int j_faultKind, .int (nI n0), .int j_tabletCount, .int j_riderCount, .int j_lineLength, .int j_hour]))]) (by omega) hT hY.2.2.2.1 hP hD
          obtain ⟨S_18, eS_18⟩ : ∃ S9 : Nat → Nat → Nat → Int32, S9 = upC (upC S 1 n0 (fun _ => p0)) 2 n0 (fun _ => p1) := ⟨_, rfl⟩
          rw [← eS_18] at hT
          have hFr_19 : FR S S_18 := by rw [eS_18]; exact FR.uC (FR.uC FR.rf (by decide) (by decide)) (by decide) (by decide)
          have hl_20 := hX_17 _ _ _ (by decide) hY.1
          have hl_21 := hX_17 _ _ _ (by decide) hY.2.1
          have hl_22 := hX_17 _ _ _ (by decide) hY.2.2.1
          have hl_23 := hX_17 _ _ _ (by decide) hY.2.2.2.1
          have hl_24 := hX_17 _ _ _ (by decide) hY.2.2.2.2.1
          have hl_25 := hX_17 _ _ _ (by decide) hY.2.2.2.2.2.1
          have hl_26 := hX_17 _ _ _ (by decide) hY.2.2.2.2.2.2.1
          have hl_27 := hX_17 _ _ _ (by decide) hY.2.2.2.2.2.2.2.1
          have hl_28 := hX_17 _ _ _ (by decide) hY.2.2.2.2.2.2.2.2
          have hY_29 := yX.up hX_17 hT hY
          have hP : va_P (dC, dI) vwCl ([(h0, .inr (8, [.ref a1, .ref a2, .ref a3, .ref a4, .ref a5, .ref a6, .ref a7, .ref a8, .ref a9, .int j_faultKind, .int (nI n0), .int j_tabletCount, .int j_riderCount, .int j_lineLength, .int j_hour]))] ++ va_pl L_12 f_16) H := hP
          have hD : va_D A ([(h0, .inr (8, [.ref a1, .ref a2, .ref a3, .ref a4, .ref a5, .ref a6, .ref a7, .ref a8, .ref a9, .int j_faultKind, .int (nI n0), .int j_tabletCount, .int j_riderCount, .int j_lineLength, .int j_hour]))] ++ va_pl L_12 f_16) := hD
          refine lv_aload_n hx hb dX8_horse_50 rfl (lv_at hl 0 rfl) ?_
          refine lv_dup hx hb dX8_horse_51 rfl ?_
          refine va_get (D := (dC, dI)) (ci := 8) (v := .int (nI n0)) (C := RX8) (T := TX8) (N := 15) hx hb hts hin8 hown hK hP 0 rfl rfl 10 (by decide) (hts (.fieldLink RX8 110 "YamRiders" "horseCount" "I") (by decide +kernel)) (fun _ h9 => h9) rfl dX8_horse_52 ?_
          refine lv_iconst (v := 1) hx hb dX8_horse_55 (by decide) ?_
          refine lv_iadd hx hb dX8_horse_56 ?_
          refine lv_topi (fun y_30 ey_30 => ?_)
          obtain rfl : y_30 = nI (n0 + 1) := ey_30.trans (nI_1 n0)
          refine va_put (D := (dC, dI)) (ci := 8) (v := .int (nI (n0 + 1))) (ty := (tyX8 10)) (C := RX8) (T := TX8) (N := 15) hx hb hts hin8 tyX8 tyX8_ok nmX8 hown hK hP hD hS 0 rfl rfl 10 (by decide) (hts (.fieldLink RX8 110 "YamRiders" "horseCount" "I") (by decide +kernel)) (fun _ h9 => h9) rfl (by decide +kernel) rfl rfl (Nat.le_of_ble_eq_true rfl) dX8_horse_57 (fun H locs hP hD hS => ?_)
          have hP : va_P (dC, dI) vwCl ([(h0, .inr (8, [.ref a1, .ref a2, .ref a3, .ref a4, .ref a5, .ref a6, .ref a7, .ref a8, .ref a9, .int j_faultKind, .int (nI (n0 + 1)), .int j_tabletCount, .int j_riderCount, .int j_lineLength, .int j_hour]))] ++ va_pl L_12 f_16) H := hP
          have hD : va_D A ([(h0, .inr (8, [.ref a1, .ref a2, .ref a3, .ref a4, .ref a5, .ref a6, .ref a7, .ref a8, .ref a9, .int j_faultKind, .int (nI (n0 + 1)), .int j_tabletCount, .int j_riderCount, .int j_lineLength, .int j_hour]))] ++ va_pl L_12 f_16) := hD
          refine lv_aload_n hx hb dX8_horse_60 rfl (lv_at hl 0 rfl) ?_
          refine va_get (D := (dC, dI)) (ci := 8) (v := .int (nI (n0 + 1))) (C := RX8) (T := TX8) (N := 15) hx hb hts hin8 hown hK hP 0 rfl rfl 10 (by decide) (hts (.fieldLink RX8 110 "YamRiders" "horseCount" "I") (by decide +kernel)) (fun _ h9 => h9) rfl dX8_horse_61 ?_
          refine lv_iconst (v := 1) hx hb dX8_horse_64 (by decide) ?_
          refine lv_isub hx hb dX8_horse_65 ?_
          have hP9 := hP.part (cx := [(h0, .inr (8, [.ref a1, .ref a2, .ref a3, .ref a4, .ref a5, .ref a6, .ref a7, .ref a8, .ref a9, .int j_faultKind, .int (nI (n0 + 1)), .int j_tabletCount, .int j_riderCount, .int j_lineLength, .int j_hour]))]) [0] rfl
          have hD9 := hD.part (cx := [(h0, .inr (8, [.ref a1, .ref a2, .ref a3, .ref a4, .ref a5, .ref a6, .ref a7, .ref a8, .ref a9, .int j_faultKind, .int (nI (n0 + 1)), .int j_tabletCount, .int j_riderCount, .int j_lineLength, .int j_hour]))]) [0] (by decide) rfl
          have hK9 := hK.sub (tys' := []) [] rfl
          refine W.widen (k := 1) (n := 3) (Nat.le_of_ble_eq_true rfl) (Nat.le_of_ble_eq_true rfl) ?_
          exact W.iret (v := (nI (n0 + 1)) - 1) hx hb hr (fun t9 ht hW => ⟨⟨_, (nI (n0 + 1)) - 1, rfl, rfl, L_12, ka_13, ix_14, ad_15, S_18, f_16, (n0 + 1), hX_17, hT, (by have h9 := hT.b0; exact ⟨by omega, (Or.inr ⟨(nI_s11 _), rfl, by omega, c_3, c_4, (Int32.not_lt.mpr c_5)⟩)⟩), (Or.inr ⟨rfl, eS_18⟩), by rw [ht]; exact hP9, va_K.moved hW.alike hK9, hD9⟩, hS.F ht⟩) hS.2.2 dX8_horse_66
        · refine lv_iconst (v := (-1)) hx hb dX8_horse_26 (by decide) ?_
          have hP9 := hP.part (cx := [(h0, .inr (8, [.ref a1, .ref a2, .ref a3, .ref a4, .ref a5, .ref a6, .ref a7, .ref a8, .ref a9, .int j_faultKind, .int (nI n0), .int j_tabletCount, .int j_riderCount, .int j_lineLength, .int j_hour]))]) [0] rfl
          have hD9 := hD.part (cx := [(h0, .inr (8, [.ref a1, .ref a2, .ref a3, .ref a4, .ref a5, .ref a6, .ref a7, .ref a8, .ref a9, .int j_faultKind, .int (nI n0), .int j_tabletCount, .int j_riderCount, .int j_lineLength, .int j_hour]))]) [0] (by decide) rfl
          have hK9 := hK.sub (tys' := []) [] rfl
          refine W.widen (k := 1) (n := 3) (Nat.le_of_ble_eq_true rfl) (Nat.le_of_ble_eq_true rfl) ?_
          exact W.iret (v := (-1)) hx hb hr (fun t9 ht hW => ⟨⟨_, (-1), rfl, rfl, L, ka, ix, ad, S, f, n0, (fun _ _ _ _ h => h), hT, (by have h9 := hT.b0; exact ⟨by omega, (Or.inl ⟨rfl, rfl, (Or.inr (Or.inr (Or.inr (Int32.not_le.mp c_5))))⟩)⟩), (Or.inl ⟨rfl, rfl⟩), by rw [ht]; exact hP9, va_K.moved hW.alike hK9, hD9⟩, hS.F ht⟩) hS.2.2 dX8_horse_27

set_option maxHeartbeats 4000000 in
set_option maxRecDepth 100000 in
theorem e_X8_tablet (l : Launch) (dC : Nat → ClassId) (dI : Nat → Nat → Nat) (cs : Nat → ClassId) (L : List Nat) (ka : Nat → Nat) (ix : Nat → Nat) (ad : Nat → Nat → Nat) (n0 : Nat) (n6 : Nat) (n2 : Nat) (S : Nat → Nat → Nat → Int32) (f : Nat → va_E) (gq : Nat) (h0 : Nat) (a1 : Nat) (a2 : Nat) (a3 : Nat) (a4 : Nat) (a5 : Nat) (a6 : Nat) (a7 : Nat) (a8 : Nat) (a9 : Nat) (j_faultKind : Int32) (j_horseCount : Int32) (j_riderCount : Int32) (j_lineLength : Int32) (j_hour : Int32) (p0 : Int32) (sz : Nat) (hT : tB L ka ix ad cs n0 n6 n2 S f) (hY : yX L ka ix ad gq a2 a3 a4 a5 a6 a7 a8 a9) : Met l yX8_tablet wsX8_tablet ({ frames := 2, cells := 2, slots := 14, locals := 44 }) (va_Pc [.ref h0, .int p0] (cP dC dI ([(h0, .inr (8, [.ref a1, .ref a2, .ref a3, .ref a4, .ref a5, .ref a6, .ref a7, .ref a8, .ref a9, .int j_faultKind, .int j_horseCount, .int (nI n6), .int j_riderCount, .int j_lineLength, .int j_hour]))] ++ va_pl L f) (tyC cs) sz)) (va_Qi (fun (r rv : Int32) => r = rv) (fun (rv : Int32) t9 => ∃ (L2 : List Nat) (ka2 : Nat → Nat) (ix2 : Nat → Nat) (ad2 : Nat → Nat → Nat) (S2 : Nat → Nat → Nat → Int32) (f2 : Nat → va_E) (m6 : Nat), (eX L ka ix L2 ka2 ix2) ∧ (tB L2 ka2 ix2 ad2 cs n0 m6 n2 S2 f2) ∧ (m6 ≤ 20 ∧ FTb p0 n6 rv m6) ∧ (TBc S S2 n6 m6 p0) ∧ cQ dC dI ([(h0, .inr (8, [.ref a1, .ref a2, .ref a3, .ref a4, .ref a5, .ref a6, .ref a7, .ref a8, .ref a9, .int j_faultKind, .int j_horseCount, .int (nI m6), .int j_riderCount, .int j_lineLength, .int j_hour]))] ++ va_pl L2 f2) [] (va_A ([(h0, .inr (8, [.ref a1, .ref a2, .ref a3, .ref a4, .ref a5, .ref a6, .ref a7, .ref a8, .ref a9, .int j_faultKind, .int j_horseCount, .int (nI n6), .int j_riderCount, .int j_lineLength, .int j_hour]))] ++ va_pl L f) sz) t9) (va_A ([(h0, .inr (8, [.ref a1, .ref a2, .ref a3, .ref a4, .ref a5, .ref a6, .ref a7, .ref a8, .ref a9, .int j_faultKind, .int j_horseCount, .int (nI n6), .int j_riderCount, .int j_lineLength, .int j_hour]))] ++ va_pl L f) sz)) 2 14 (va_A ([(h0, .inr (8, [.ref a1, .ref a2, .ref a3, .ref a4, .ref a5, .ref a6, .ref a7, .ref a8, .ref a9, .int j_faultKind, .int j_horseCount, .int (nI n6), .int j_riderCount, .int j_lineLength, .int j_hour]))] ++ va_pl L f) sz) := by
  refine Met.ofW (cc := cX8_tablet) (maxL := 2) (ret := (some .int)) (by decide) rfl ?_
  intro p e s m args below meth c s₁ B hml hv
  obtain ⟨rfl, hsz, hP, hK, hD0, hN⟩ := hv
  have hx := B.exec
  have hb := B.bytes
  have hr := B.returns
  have hts := atoms_spec (ws := wsX8_tablet) B.pre
  have hown : s.vm.findClass RX8 = some m.cls := findClass_of_methodNamed B.named
  have hlocks := B.notSynchronized
  subst hsz
  have hin6 : ∀ w ∈ u_ws RX6 TX6 2, w ∈ wsX8_tablet := by decide +kernel
  have hin8 : ∀ w ∈ u_ws RX8 TX8 15, w ∈ wsX8_tablet := by decide +kernel
  have hD := hD0.self (sz := s.heap.size)
  generalize hAe : va_A ([(h0, .inr (8, [.ref a1, .ref a2, .ref a3, .ref a4, .ref a5, .ref a6, .ref a7, .ref a8, .ref a9, .int j_faultKind, .int j_horseCount, .int (nI n6), .int j_riderCount, .int j_lineLength, .int j_hour]))] ++ va_pl L f) s.heap.size = A at hD ⊢
  have hA : ∀ q : Nat, s.heap.size ≤ q → A q := fun q h => by rw [← hAe]; exact Or.inr h
  have hS : va_S A s.heap s.heap [] := va_S.rf
  have hP : va_P (dC, dI) vwCl ([(h0, .inr (8, [.ref a1, .ref a2, .ref a3, .ref a4, .ref a5, .ref a6, .ref a7, .ref a8, .ref a9, .int j_faultKind, .int j_horseCount, .int (nI n6), .int j_riderCount, .int j_lineLength, .int j_hour]))] ++ va_pl L f) s.heap := hP
  have hl := lv_entry ([.ref h0, .int p0]) (n := 2) (Nat.le_of_ble_eq_true rfl)
  rw [lg_entry_eq]
  generalize (lg_sl ([.ref h0, .int p0]) ++ List.replicate (2 - (lg_sl ([.ref h0, .int p0])).length) Slot.unset).toArray = ls at hl ⊢
  have hl : lv_has ls 2 [(0, .ref h0), (1, .int p0)] := hl
  refine lv_aload_n hx hb dX8_tablet_0 rfl (lv_at hl 0 rfl) ?_
  refine va_get (D := (dC, dI)) (ci := 8) (v := .int (nI n6)) (C := RX8) (T := TX8) (N := 15) hx hb hts hin8 hown hK hP 0 rfl rfl 11 (by decide) (hts (.fieldLink RX8 115 "YamRiders" "tabletCount" "I") (by decide +kernel)) (fun _ h9 => h9) rfl dX8_tablet_1 ?_
  refine lv_bipush (v := 20) hx hb dX8_tablet_4 (by decide) ?_
  refine lv_icmp_ge (tgt := 19) hx hb dX8_tablet_6 (by decide) (fun c_1 => ?_) (fun c_1 => ?_)
  · refine lv_iconst (v := (-1)) hx hb dX8_tablet_19 (by decide) ?_
    have hP9 := hP.part (cx := [(h0, .inr (8, [.ref a1, .ref a2, .ref a3, .ref a4, .ref a5, .ref a6, .ref a7, .ref a8, .ref a9, .int j_faultKind, .int j_horseCount, .int (nI n6), .int j_riderCount, .int j_lineLength, .int j_hour]))]) [0] rfl
    have hD9 := hD.part (cx := [(h0, .inr (8, [.ref a1, .ref a2, .ref a3, .ref a4, .ref a5, .ref a6, .ref a7, .ref a8, .ref a9, .int j_faultKind, .int j_horseCount, .int (nI n6), .int j_riderCount, .int j_lineLength, .int j_hour]))]) [0] (by decide) rfl
    have hK9 := hK.sub (tys' := []) [] rfl
    refine W.widen (k := 2) (n := 14) (Nat.le_of_ble_eq_true rfl) (Nat.le_of_ble_eq_true rfl) ?_
    exact W.iret (v := (-1)) hx hb hr (fun t9 ht hW => ⟨⟨_, (-1), rfl, rfl, L, ka, ix, ad, S, f, n6, (fun _ _ _ _ h => h), hT, (by have h9 := hT.b6; exact ⟨by omega, (Or.inl ⟨rfl, rfl, (Or.inl (nI_geN (m := 20) c_1 (by decide) (by omega)))⟩)⟩), (Or.inl ⟨rfl, rfl⟩), by rw [ht]; exact hP9, va_K.moved hW.alike hK9, hD9⟩, hS.F ht⟩) hS.2.2 dX8_tablet_20
  · refine lv_iload_n hx hb dX8_tablet_9 rfl (lv_at hl 1 rfl) ?_
    refine lv_iconst (v := 1) hx hb dX8_tablet_10 (by decide) ?_
    refine lv_icmp_lt (tgt := 19) hx hb dX8_tablet_11 (by decide) (fun c_2 => ?_) (fun c_2 => ?_)
    · refine lv_iconst (v := (-1)) hx hb dX8_tablet_19 (by decide) ?_
      have hP9 := hP.part (cx := [(h0, .inr (8, [.ref a1, .ref a2, .ref a3, .ref a4, .ref a5, .ref a6, .ref a7, .ref a8, .ref a9, .int j_faultKind, .int j_horseCount, .int (nI n6), .int j_riderCount, .int j_lineLength, .int j_hour]))]) [0] rfl
      have hD9 := hD.part (cx := [(h0, .inr (8, [.ref a1, .ref a2, .ref a3, .ref a4, .ref a5, .ref a6, .ref a7, .ref a8, .ref a9, .int j_faultKind, .int j_horseCount, .int (nI n6), .int j_riderCount, .int j_lineLength, .int j_hour]))]) [0] (by decide) rfl
      have hK9 := hK.sub (tys' := []) [] rfl
      refine W.widen (k := 2) (n := 14) (Nat.le_of_ble_eq_true rfl) (Nat.le_of_ble_eq_true rfl) ?_
      exact W.iret (v := (-1)) hx hb hr (fun t9 ht hW => ⟨⟨_, (-1), rfl, rfl, L, ka, ix, ad, S, f, n6, (fun _ _ _ _ h => h), hT, (by have h9 := hT.b6; exact ⟨by omega, (Or.inl ⟨rfl, rfl, (Or.inr (Or.inl c_2))⟩)⟩), (Or.inl ⟨rfl, rfl⟩), by rw [ht]; exact hP9, va_K.moved hW.alike hK9, hD9⟩, hS.F ht⟩) hS.2.2 dX8_tablet_20
    · refine lv_iload_n hx hb dX8_tablet_14 rfl (lv_at hl 1 rfl) ?_
      refine lv_iconst (v := 3) hx hb dX8_tablet_15 (by decide) ?_
      refine lv_icmp_le (tgt := 21) hx hb dX8_tablet_16 (by decide) (fun c_3 => ?_) (fun c_3 => ?_)
      · have hn9 := hT.b6
        have tc20 : n6 < 20 := nI_nleq (n := 20) c_1 (by omega)
        refine lv_aload_n hx hb dX8_tablet_21 rfl (lv_at hl 0 rfl) ?_
        refine va_get (D := (dC, dI)) (ci := 8) (v := .ref a6) (C := RX8) (T := TX8) (N := 15) hx hb hts hin8 hown hK hP 0 rfl rfl 5 (by decide) (hts (.fieldLink RX8 42 "YamRiders" "tablets" "[LYamRiders$Tablet;") (by decide +kernel)) (fun _ h9 => h9) rfl dX8_tablet_22 ?_
        refine lv_aload_n hx hb dX8_tablet_25 rfl (lv_at hl 0 rfl) ?_
        refine va_get (D := (dC, dI)) (ci := 8) (v := .int (nI n6)) (C := RX8) (T := TX8) (N := 15) hx hb hts hin8 hown hK hP 0 rfl rfl 11 (by decide) (hts (.fieldLink RX8 115 "YamRiders" "tabletCount" "I") (by decide +kernel)) (fun _ h9 => h9) rfl dX8_tablet_26 ?_
        refine va_new (ci := 6) (fs := [.int 0, .null]) (C := RX6) (T := TX6) (N := 2) hx hb hts hin6 tyX6 tyX6_ok hown (hts (.classLink RX8 40 RX6) (by decide +kernel)) (hts (.instantiable RX6 2) (by decide +kernel)) (hts (.initialized RX6) (by decide +kernel)) hK hP hD hS hA rfl (by decide +kernel) (Nat.le_of_ble_eq_true rfl) (Nat.le_of_ble_eq_true rfl) dX8_tablet_29 (fun q_4 H hP hD hS => ?_)
        refine W.widen (k := 1) (n := 2) (Nat.le_of_ble_eq_true rfl) (Nat.le_of_ble_eq_true rfl) ?_
        have hP := va_P.swap (a := [(h0, .inr (8, [.ref a1, .ref a2, .ref a3, .ref a4, .ref a5, .ref a6, .ref a7, .ref a8, .ref a9, .int j_faultKind, .int j_horseCount, .int (nI n6), .int j_riderCount, .int j_lineLength, .int j_hour]))]) hP
        have hD := va_D.swap (a := [(h0, .inr (8, [.ref a1, .ref a2, .ref a3, .ref a4, .ref a5, .ref a6, .ref a7, .ref a8, .ref a9, .int j_faultKind, .int j_horseCount, .int (nI n6), .int j_riderCount, .int j_lineLength, .int j_hour]))]) hD
        have hP : va_P (dC, dI) vwCl ([(h0, .inr (8, [.ref a1, .ref a2, .ref a3, .ref a4, .ref a5, .ref a6, .ref a7, .ref a8, .ref a9, .int j_faultKind, .int j_horseCount, .int (nI n6), .int j_riderCount, .int j_lineLength, .int j_hour])), (q_4, .inr (6, [.int 0, .null]))] ++ va_pl L f) H := hP
        have hD : va_D A ([(h0, .inr (8, [.ref a1, .ref a2, .ref a3, .ref a4, .ref a5, .ref a6, .ref a7, .ref a8, .ref a9, .int j_faultKind, .int j_horseCount, .int (nI n6), .int j_riderCount, .int j_lineLength, .int j_hour])), (q_4, .inr (6, [.int 0, .null]))] ++ va_pl L f) := hD
        refine lv_dup hx hb dX8_tablet_32 rfl ?_
        refine lv_iload_n hx hb dX8_tablet_33 rfl (lv_at hl 1 rfl) ?_
        have hPc := hP.sub (ws' := [(q_4, .inr (6, [.int 0, .null]))]) [1] rfl
        have hDc := hD.sub (ws' := [(q_4, .inr (6, [.int 0, .null]))]) [1] (by decide) rfl
        have hKc := hK.sub (tys' := []) [] rfl
        have hFc := va_free (wc := [(q_4, .inr (6, [.int 0, .null]))]) hD hS hA [1] rfl
        refine va_callv (va_runI (As := [.int p0]) (rest := [.ref q_4, .int (nI n6), .ref a6]) ⟨hx, hb, hml, hown, hts⟩ (g_X6_init l dC dI q_4 p0 H.size) (cwI 1 hts gX8_tablet_X6_init rfl rfl rfl (hts (.initialized RX6) (by decide +kernel)) (hts (.methodLink RX8 118 yX6_init) (by decide +kernel)) (hts (.instanceMethod yX6_init) (by decide +kernel)) rfl (by decide +kernel) ⟨Nat.le_of_ble_eq_true rfl, Nat.le_of_ble_eq_true rfl⟩) ⟨c_blind, c_pre hPc hKc hDc hN⟩ rfl rfl hl.1 rfl (lv_room (Nat.le_of_ble_eq_true rfl)) dX8_tablet_34 ⟨Nat.le_of_ble_eq_true rfl, Nat.le_of_ble_eq_true rfl⟩) hS (fun q _ h => hFc q h) hFc (fun u9 t9 H1 locs ht hvm hw hB hz1 hk1 hS => ?_)
        obtain ⟨q_6, k_7, f_8, hf_x_9, hP1, hK1, hD1⟩ := hB
        rw [ht] at hP1
        have hK1 := va_K.moved hvm.symm hK1
        obtain ⟨hP, hD⟩ := va_joinQ (X := [(h0, .inr (8, [.ref a1, .ref a2, .ref a3, .ref a4, .ref a5, .ref a6, .ref a7, .ref a8, .ref a9, .int j_faultKind, .int j_horseCount, .int (nI n6), .int j_riderCount, .int j_lineLength, .int j_hour])), (q_4, .inr (6, [.int 0, .null]))]) (cx := [(q_4, .inr (6, [.int 0, .null]))]) (wr := [(h0, .inr (8, [.ref a1, .ref a2, .ref a3, .ref a4, .ref a5, .ref a6, .ref a7, .ref a8, .ref a9, .int j_faultKind, .int j_horseCount, .int (nI n6), .int j_riderCount, .int j_lineLength, .int j_hour]))]) (w1 := [(q_4, .inr (6, [.int p0, .ref q_6])), (q_6, .inl (k_7, 12, .inl f_8))]) (pl := va_pl L f) hP hD [1] [0] rfl rfl (by decide) (by decide) hk1 hFc hP1 hD1
        have hK := hK.app hK1
        have hK : va_K (dC, dI) vwCl [(cs 0, .int), (cs 1, .boolean), (cs 2, .array .int), (cs 3, .object "YamRiders$Horse"), (cs 4, .object "YamRiders$Tablet"), (cs 5, .object "YamRiders$Rider"), (k_7, .int)] s := hK
        generalize H1 = H at hP hS ⊢
        have hP : va_P (dC, dI) vwCl ([(h0, .inr (8, [.ref a1, .ref a2, .ref a3, .ref a4, .ref a5, .ref a6, .ref a7, .ref a8, .ref a9, .int j_faultKind, .int j_horseCount, .int (nI n6), .int j_riderCount, .int j_lineLength, .int j_hour])), (q_4, .inr (6, [.int p0, .ref q_6])), (q_6, .inl (k_7, 12, .inl f_8))] ++ va_pl L f) H := hP
        have hD : va_D A ([(h0, .inr (8, [.ref a1, .ref a2, .ref a3, .ref a4, .ref a5, .ref a6, .ref a7, .ref a8, .ref a9, .int j_faultKind, .int j_horseCount, .int (nI n6), .int j_riderCount, .int j_lineLength, .int j_hour])), (q_4, .inr (6, [.int p0, .ref q_6])), (q_6, .inl (k_7, 12, .inl f_8))] ++ va_pl L f) := hD
        refine W.widen (k := 2) (n := 14) (Nat.le_of_ble_eq_true rfl) (Nat.le_of_ble_eq_true rfl) ?_
        obtain rfl : k_7 = cs 0 := ka_eq hK 0 6 rfl rfl
        have hK := hK.sub (tys' := tyC cs) [0, 1, 2, 3, 4, 5] rfl
        have hP : va_P (dC, dI) vwCl ([(h0, .inr (8, [.ref a1, .ref a2, .ref a3, .ref a4, .ref a5, .ref a6, .ref a7, .ref a8, .ref a9, .int j_faultKind, .int j_horseCount, .int (nI n6), .int j_riderCount, .int j_lineLength, .int j_hour])), (q_4, .inr (6, [.int p0, .ref q_6])), (q_6, .inl (cs 0, 12, .inl f_8))] ++ va_pl L f) H := hP
        have hD : va_D A ([(h0, .inr (8, [.ref a1, .ref a2, .ref a3, .ref a4, .ref a5, .ref a6, .ref a7, .ref a8, .ref a9, .int j_faultKind, .int j_horseCount, .int (nI n6), .int j_riderCount, .int j_lineLength, .int j_hour])), (q_4, .inr (6, [.int p0, .ref q_6])), (q_6, .inl (cs 0, 12, .inl f_8))] ++ va_pl L f) := hD
        have hP := hP.part (cx := [(h0, .inr (8, [.ref a1, .ref a2, .ref a3, .ref a4, .ref a5, .ref a6, .ref a7, .ref a8, .ref a9, .int j_faultKind, .int j_horseCount, .int (nI n6), .int j_riderCount, .int j_lineLength, .int j_hour])), (q_4, .inr (6, [.int p0, .ref q_6]))] ++ [(q_6, .inl (cs 0, 12, .inl f_8))]) [0, 1, 2] rfl
        have hD := hD.part (cx := [(h0, .inr (8, [.ref a1, .ref a2, .ref a3, .ref a4, .ref a5, .ref a6, .ref a7, .ref a8, .ref a9, .int j_faultKind, .int j_horseCount, .int (nI n6), .int j_riderCount, .int j_lineLength, .int j_hour])), (q_4, .inr (6, [.int p0, .ref q_6]))] ++ [(q_6, .inl (cs 0, 12, .inl f_8))]) [0, 1, 2] (by decide) rfl
        have hTo := hT
        obtain ⟨L_10, ka_11, ix_12, ad_13, f_14, j_15, S_16, hX_17, hT, hk_18, hl_19, hg_20, hc_21, hj_22, hP, hD⟩ := e_push38 (X := [(h0, .inr (8, [.ref a1, .ref a2, .ref a3, .ref a4, .ref a5, .ref a6, .ref a7, .ref a8, .ref a9, .int j_faultKind, .int j_horseCount, .int (nI n6), .int j_riderCount, .int j_lineLength, .int j_hour])), (q_4, .inr (6, [.int p0, .ref q_6]))]) (q := q_6) (n := 12) (by omega) hT hP hD
        have hFr_23 := AG.k AG.rf hc_21
        have hl_24 := hX_17 _ _ _ hY.1
        have hl_25 := hX_17 _ _ _ hY.2.1
        have hl_26 := hX_17 _ _ _ hY.2.2.1
        have hl_27 := hX_17 _ _ _ hY.2.2.2.1
        have hl_28 := hX_17 _ _ _ hY.2.2.2.2.1
        have hl_29 := hX_17 _ _ _ hY.2.2.2.2.2.1
        have hl_30 := hX_17 _ _ _ hY.2.2.2.2.2.2.1
        have hl_31 := hX_17 _ _ _ hY.2.2.2.2.2.2.2.1
        have hl_32 := hX_17 _ _ _ hY.2.2.2.2.2.2.2.2
        have hY_33 := yX.up hX_17.x hT hY
        have hX_34 := hX_17.x
        have hP : va_P (dC, dI) vwCl ([(h0, .inr (8, [.ref a1, .ref a2, .ref a3, .ref a4, .ref a5, .ref a6, .ref a7, .ref a8, .ref a9, .int j_faultKind, .int j_horseCount, .int (nI n6), .int j_riderCount, .int j_lineLength, .int j_hour])), (q_4, .inr (6, [.int p0, .ref q_6]))] ++ va_pl L_10 f_14) H := hP
        have hD : va_D A ([(h0, .inr (8, [.ref a1, .ref a2, .ref a3, .ref a4, .ref a5, .ref a6, .ref a7, .ref a8, .ref a9, .int j_faultKind, .int j_horseCount, .int (nI n6), .int j_riderCount, .int j_lineLength, .int j_hour])), (q_4, .inr (6, [.int p0, .ref q_6]))] ++ va_pl L_10 f_14) := hD
        have hf_35 : f_14 a6 = .inl (cs 4, 20, .inr (.inr (.inr (.inr (gl ad_13 6 n6))))) := hT.get hl_28
        obtain ⟨q_36, hq_36⟩ := pl_at (X := [(h0, .inr (8, [.ref a1, .ref a2, .ref a3, .ref a4, .ref a5, .ref a6, .ref a7, .ref a8, .ref a9, .int j_faultKind, .int j_horseCount, .int (nI n6), .int j_riderCount, .int j_lineLength, .int j_hour])), (q_4, .inr (6, [.int p0, .ref q_6]))]) (f := f_14) (e := .inl (cs 4, 20, .inr (.inr (.inr (.inr (gl ad_13 6 n6)))))) hl_28.1 hf_35
        refine va_astq hx hb hK hP hD hS q_36 4 1 6 hq_36 rfl rfl rfl (vp_in_nI (by omega) (by omega)) dX8_tablet_37 (fun H locs hP9 hD9 hS => ?_)
        have hs_38 := pl_st (.inl (cs 4, 20, .inr (.inr (.inr (.inr (va_up (gl ad_13 6 n6) (nI n6).toNatClampNeg (some q_4))))))) hD hl_28.1 hf_35 hq_36
        have hP9 : va_P (dC, dI) vwCl ((([(h0, .inr (8, [.ref a1, .ref a2, .ref a3, .ref a4, .ref a5, .ref a6, .ref a7, .ref a8, .ref a9, .int j_faultKind, .int j_horseCount, .int (nI n6), .int j_riderCount, .int j_lineLength, .int j_hour])), (q_4, .inr (6, [.int p0, .ref q_6]))] : va_W) ++ va_pl L_10 f_14).set q_36 (a6, .inl (cs 4, 20, .inr (.inr (.inr (.inr (va_up (gl ad_13 6 n6) (nI n6).toNatClampNeg (some q_4)))))))) H := hP9
        have hD9 : va_D A ((([(h0, .inr (8, [.ref a1, .ref a2, .ref a3, .ref a4, .ref a5, .ref a6, .ref a7, .ref a8, .ref a9, .int j_faultKind, .int j_horseCount, .int (nI n6), .int j_riderCount, .int j_lineLength, .int j_hour])), (q_4, .inr (6, [.int p0, .ref q_6]))] : va_W) ++ va_pl L_10 f_14).set q_36 (a6, .inl (cs 4, 20, .inr (.inr (.inr (.inr (va_up (gl ad_13 6 n6) (nI n6).toNatClampNeg (some q_4)))))))) := hD9
        rw [hs_38, nI_clamp (by omega)] at hP9 hD9
        have hP := hP9.part (cx := [(h0, .inr (8, [.ref a1, .ref a2, .ref a3, .ref a4, .ref a5, .ref a6, .ref a7, .ref a8, .ref a9, .int j_faultKind, .int j_horseCount, .int (nI n6), .int j_riderCount, .int j_lineLength, .int j_hour]))] ++ [(q_4, .inr (6, [.int p0, .ref q_6]))]) [0, 1] rfl
        have hD := hD9.part (cx := [(h0, .inr (8, [.ref a1, .ref a2, .ref a3, .ref a4, .ref a5, .ref a6, .ref a7, .ref a8, .ref a9, .int j_faultKind, .int j_horseCount, .int (nI n6), .int j_riderCount, .int j_lineLength, .int j_hour]))] ++ [(q_4, .inr (6, [.int p0, .ref q_6]))]) [0, 1] (by decide) rfl
        clear hP9 hD9 hs_38
        obtain ⟨L_39, ka_40, ix_41, ad_42, f_43, hX_44, hT, hP, hD⟩ := e_pushT (X := [(h0, .inr (8, [.ref a1, .ref a2, .ref a3, .ref a4, .ref a5, .ref a6, .ref a7, .ref a8, .ref a9, .int j_faultKind, .int j_horseCount, .int (nI n6), .int j_riderCount, .int j_lineLength, .int j_hour]))]) (by omega) hT hl_28 hk_18 hl_19 hP hD
        obtain ⟨S_45, eS_45⟩ : ∃ S9 : Nat → Nat → Nat → Int32, S9 = upC (upC S_16 560 n6 (S_16 608 j_15)) 96 n6 (fun _ => p0) := ⟨_, rfl⟩
        rw [← eS_45] at hT
        have hl_46 := hX_44 _ _ _ (by decide) hl_24
        have hl_47 := hX_44 _ _ _ (by decide) hl_25
        have hl_48 := hX_44 _ _ _ (by decide) hl_26
        have hl_49 := hX_44 _ _ _ (by decide) hl_27
        have hl_50 := hX_44 _ _ _ (by decide) hl_28
        have hl_51 := hX_44 _ _ _ (by decide) hl_29
        have hl_52 := hX_44 _ _ _ (by decide) hl_30
        have hl_53 := hX_44 _ _ _ (by decide) hl_31
        have hl_54 := hX_44 _ _ _ (by decide) hl_32
        have hY_56 := yX.up hX_44 hT hY_33
        have hX_57 := eX.tr hX_34 hX_44
        have hP : va_P (dC, dI) vwCl ([(h0, .inr (8, [.ref a1, .ref a2, .ref a3, .ref a4, .ref a5, .ref a6, .ref a7, .ref a8, .ref a9, .int j_faultKind, .int j_horseCount, .int (nI n6), .int j_riderCount, .int j_lineLength, .int j_hour]))] ++ va_pl L_39 f_43) H := hP
        have hD : va_D A ([(h0, .inr (8, [.ref a1, .ref a2, .ref a3, .ref a4, .ref a5, .ref a6, .ref a7, .ref a8, .ref a9, .int j_faultKind, .int j_horseCount, .int (nI n6), .int j_riderCount, .int j_lineLength, .int j_hour]))] ++ va_pl L_39 f_43) := hD
        refine lv_aload_n hx hb dX8_tablet_38 rfl (lv_at hl 0 rfl) ?_
        refine lv_dup hx hb dX8_tablet_39 rfl ?_
        refine va_get (D := (dC, dI)) (ci := 8) (v := .int (nI n6)) (C := RX8) (T := TX8) (N := 15) hx hb hts hin8 hown hK hP 0 rfl rfl 11 (by decide) (hts (.fieldLink RX8 115 "YamRiders" "tabletCount" "I") (by decide +kernel)) (fun _ h9 => h9) rfl dX8_tablet_40 ?_
        refine lv_iconst (v := 1) hx hb dX8_tablet_43 (by decide) ?_
        refine lv_iadd hx hb dX8_tablet_44 ?_
        refine lv_topi (fun y_58 ey_58 => ?_)
        obtain rfl : y_58 = nI (n6 + 1) := ey_58.trans (nI_1 n6)
        refine va_put (D := (dC, dI)) (ci := 8) (v := .int (nI (n6 + 1))) (ty := (tyX8 11)) (C := RX8) (T := TX8) (N := 15) hx hb hts hin8 tyX8 tyX8_ok nmX8 hown hK hP hD hS 0 rfl rfl 11 (by decide) (hts (.fieldLink RX8 115 "YamRiders" "tabletCount" "I") (by decide +kernel)) (fun _ h9 => h9) rfl (by decide +kernel) rfl rfl (Nat.le_of_ble_eq_true rfl) dX8_tablet_45 (fun H locs hP hD hS => ?_)
        have hP : va_P (dC, dI) vwCl ([(h0, .inr (8, [.ref a1, .ref a2, .ref a3, .ref a4, .ref a5, .ref a6, .ref a7, .ref a8, .ref a9, .int j_faultKind, .int j_horseCount, .int (nI (n6 + 1)), .int j_riderCount, .int j_lineLength, .int j_hour]))] ++ va_pl L_39 f_43) H := hP
        have hD : va_D A ([(h0, .inr (8, [.ref a1, .ref a2, .ref a3, .ref a4, .ref a5, .ref a6, .ref a7, .ref a8, .ref a9, .int j_faultKind, .int j_horseCount, .int (nI (n6 + 1)), .int j_riderCount, .int j_lineLength, .int j_hour]))] ++ va_pl L_39 f_43) := hD
        refine lv_aload_n hx hb dX8_tablet_48 rfl (lv_at hl 0 rfl) ?_
        refine va_get (D := (dC, dI)) (ci := 8) (v := .int (nI (n6 + 1))) (C := RX8) (T := TX8) (N := 15) hx hb hts hin8 hown hK hP 0 rfl rfl 11 (by decide) (hts (.fieldLink RX8 115 "YamRiders" "tabletCount" "I") (by decide +kernel)) (fun _ h9 => h9) rfl dX8_tablet_49 ?_
        refine lv_iconst (v := 1) hx hb dX8_tablet_52 (by decide) ?_
        refine lv_isub hx hb dX8_tablet_53 ?_
        have hP9 := hP.part (cx := [(h0, .inr (8, [.ref a1, .ref a2, .ref a3, .ref a4, .ref a5, .ref a6, .ref a7, .ref a8, .ref a9, .int j_faultKind, .int j_horseCount, .int (nI (n6 + 1)), .int j_riderCount, .int j_lineLength, .int j_hour]))]) [0] rfl
        have hD9 := hD.part (cx := [(h0, .inr (8, [.ref a1, .ref a2, .ref a3, .ref a4, .ref a5, .ref a6, .ref a7, .ref a8, .ref a9, .int j_faultKind, .int j_horseCount, .int (nI (n6 + 1)), .int j_riderCount, .int j_lineLength, .int j_hour]))]) [0] (by decide) rfl
        have hK9 := hK.sub (tys' := []) [] rfl
        refine W.widen (k := 2) (n := 14) (Nat.le_of_ble_eq_true rfl) (Nat.le_of_ble_eq_true rfl) ?_
        exact W.iret (v := (nI (n6 + 1)) - 1) hx hb hr (fun t9 ht hW => ⟨⟨_, (nI (n6 + 1)) - 1, rfl, rfl, L_39, ka_40, ix_41, ad_42, S_45, f_43, (n6 + 1), hX_57, hT, (by have h9 := hT.b6; exact ⟨by omega, (Or.inr ⟨(nI_s11 _), rfl, by omega, c_2, (Int32.not_lt.mpr c_3)⟩)⟩), (Or.inr ⟨rfl, NT_i hFr_23 hg_20 hf_x_9 eS_45⟩), by rw [ht]; exact hP9, va_K.moved hW.alike hK9, hD9⟩, hS.F ht⟩) hS.2.2 dX8_tablet_54
      · refine lv_iconst (v := (-1)) hx hb dX8_tablet_19 (by decide) ?_
        have hP9 := hP.part (cx := [(h0, .inr (8, [.ref a1, .ref a2, .ref a3, .ref a4, .ref a5, .ref a6, .ref a7, .ref a8, .ref a9, .int j_faultKind, .int j_horseCount, .int (nI n6), .int j_riderCount, .int j_lineLength, .int j_hour]))]) [0] rfl
        have hD9 := hD.part (cx := [(h0, .inr (8, [.ref a1, .ref a2, .ref a3, .ref a4, .ref a5, .ref a6, .ref a7, .ref a8, .ref a9, .int j_faultKind, .int j_horseCount, .int (nI n6), .int j_riderCount, .int j_lineLength, .int j_hour]))]) [0] (by decide) rfl
        have hK9 := hK.sub (tys' := []) [] rfl
        refine W.widen (k := 2) (n := 14) (Nat.le_of_ble_eq_true rfl) (Nat.le_of_ble_eq_true rfl) ?_
        exact W.iret (v := (-1)) hx hb hr (fun t9 ht hW => ⟨⟨_, (-1), rfl, rfl, L, ka, ix, ad, S, f, n6, (fun _ _ _ _ h => h), hT, (by have h9 := hT.b6; exact ⟨by omega, (Or.inl ⟨rfl, rfl, (Or.inr (Or.inr (Int32.not_le.mp c_3)))⟩)⟩), (Or.inl ⟨rfl, rfl⟩), by rw [ht]; exact hP9, va_K.moved hW.alike hK9, hD9⟩, hS.F ht⟩) hS.2.2 dX8_tablet_20
