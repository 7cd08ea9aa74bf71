set_option maxHeartbeats 4000000 in
set_option maxRecDepth 100000 in
theorem n_X9_cheapest (l : Launch) (dC : Nat → ClassId) (dI : Nat → Nat → Nat) (h0 : Nat) (m1 : Nat) (m5 : Nat) (m6 : Nat) (m7 : Nat) (m15 : Nat) (m16 : Nat) (m17 : Nat) (m18 : Nat) (m19 : Nat) (m20 : Nat) (m22 : Nat) (m23 : Nat) (m24 : Nat) (m25 : Nat) (m26 : Nat) (m27 : Nat) (m28 : Nat) (m29 : Nat) (m30 : Nat) (m31 : Nat) (m32 : Nat) (m33 : Nat) (m34 : Nat) (m37 : Nat) (m38 : Nat) (m39 : Nat) (m40 : Nat) (m41 : Nat) (m42 : Nat) (m43 : Nat) (m44 : Nat) (m45 : Nat) (m46 : Nat) (i_thrown : Int32) (i_length : Int32) (i_size : Int32) (i_p : Int32) (i_token : Int32) (i_at : Int32) (i_number : Int32) (i_fault : Int32) (i_faultAt : Int32) (i_hour : Int32) (i_horses : Int32) (i_tablets : Int32) (i_riders : Int32) (i_word : Int64) (k_cost : ClassId) (k_led : ClassId) (k_left : ClassId) (k_toGiver : ClassId) (k_toTaker : ClassId) (k_giverBy : ClassId) (k_takerBy : ClassId) (a_cost : Nat → Int32) (a_led : Nat → Int32) (a_left : Nat → Int32) (a_toGiver : Nat → Int32) (a_toTaker : Nat → Int32) (a_giverBy : Nat → Int32) (a_takerBy : Nat → Int32) (G : Nat → Int) (T : Nat → Int) (sz : Nat) (hCs : Cst a_cost) (hPO : PO a_cost a_led a_left G T) : Met l yX9_cheapest wsX9_cheapest ({ frames := 0, cells := 0, slots := 0, locals := 0 }) (va_Pc [.ref h0] (cP dC dI [(h0, .inr (9, [.int i_thrown, .ref m1, .int i_length, .int i_size, .int i_p, .ref m5, .ref m6, .ref m7, .int i_token, .int i_at, .int i_number, .int i_fault, .int i_faultAt, .int i_hour, .long i_word, .ref m15, .ref m16, .ref m17, .ref m18, .ref m19, .ref m20, .int i_horses, .ref m22, .ref m23, .ref m24, .ref m25, .ref m26, .ref m27, .ref m28, .ref m29, .ref m30, .ref m31, .ref m32, .ref m33, .ref m34, .int i_tablets, .int i_riders, .ref m37, .ref m38, .ref m39, .ref m40, .ref m41, .ref m42, .ref m43, .ref m44, .ref m45, .ref m46])), (m40, .inl (k_cost, 144, .inl a_cost)), (m39, .inl (k_led, 144, .inl a_led)), (m41, .inl (k_left, 12, .inl a_left)), (m43, .inl (k_toGiver, 12, .inl a_toGiver)), (m44, .inl (k_toTaker, 12, .inl a_toTaker)), (m45, .inl (k_giverBy, 12, .inl a_giverBy)), (m46, .inl (k_takerBy, 12, .inl a_takerBy))] [(k_cost, .int), (k_led, .int), (k_left, .int), (k_toGiver, .int), (k_toTaker, .int), (k_giverBy, .int), (k_takerBy, .int)] sz)) (va_Qv (fun (_ : Unit) => True) (fun (_ : Unit) t9 => ∃ (f_tg : Nat → Int32) (f_tt : Nat → Int32) (f_gb : Nat → Int32) (f_tb : Nat → Int32), (CHe a_cost a_led a_left G T f_tg f_tt f_gb f_tb) ∧ (FXc a_cost a_led f_tg f_tt) ∧ cQ dC dI [(h0, .inr (9, [.int i_thrown, .ref m1, .int i_length, .int i_size, .int i_p, .ref m5, .ref m6, .ref m7, .int i_token, .int i_at, .int i_number, .int i_fault, .int i_faultAt, .int i_hour, .long i_word, .ref m15, .ref m16, .ref m17, .ref m18, .ref m19, .ref m20, .int i_horses, .ref m22, .ref m23, .ref m24, .ref m25, .ref m26, .ref m27, .ref m28, .ref m29, .ref m30, .ref m31, .ref m32, .ref m33, .ref m34, .int i_tablets, .int i_riders, .ref m37, .ref m38, .ref m39, .ref m40, .ref m41, .ref m42, .ref m43, .ref m44, .ref m45, .ref m46])), (m40, .inl (k_cost, 144, .inl a_cost)), (m39, .inl (k_led, 144, .inl a_led)), (m41, .inl (k_left, 12, .inl a_left)), (m43, .inl (k_toGiver, 12, .inl f_tg)), (m44, .inl (k_toTaker, 12, .inl f_tt)), (m45, .inl (k_giverBy, 12, .inl f_gb)), (m46, .inl (k_takerBy, 12, .inl f_tb))] [] (va_A [(h0, .inr (9, [.int i_thrown, .ref m1, .int i_length, .int i_size, .int i_p, .ref m5, .ref m6, .ref m7, .int i_token, .int i_at, .int i_number, .int i_fault, .int i_faultAt, .int i_hour, .long i_word, .ref m15, .ref m16, .ref m17, .ref m18, .ref m19, .ref m20, .int i_horses, .ref m22, .ref m23, .ref m24, .ref m25, .ref m26, .ref m27, .ref m28, .ref m29, .ref m30, .ref m31, .ref m32, .ref m33, .ref m34, .int i_tablets, .int i_riders, .ref m37, .ref m38, .ref m39, .ref m40, .ref m41, .ref m42, .ref m43, .ref m44, .ref m45, .ref m46])), (m40, .inl (k_cost, 144, .inl a_cost)), (m39, .inl (k_led, 144, .inl a_led)), (m41, .inl (k_left, 12, .inl a_left)), (m43, .inl (k_toGiver, 12, .inl a_toGiver)), (m44, .inl (k_toTaker, 12, .inl a_toTaker)), (m45, .inl (k_giverBy, 12, .inl a_giverBy)), (m46, .inl (k_takerBy, 12, .inl a_takerBy))] sz) t9) (va_A [(h0, .inr (9, [.int i_thrown, .ref m1, .int i_length, .int i_size, .int i_p, .ref m5, .ref m6, .ref m7, .int i_token, .int i_at, .int i_number, .int i_fault, .int i_faultAt, .int i_hour, .long i_word, .ref m15, .ref m16, .ref m17, .ref m18, .ref m19, .ref m20, .int i_horses, .ref m22, .ref m23, .ref m24, .ref m25, .ref m26, .ref m27, .ref m28, .ref m29, .ref m30, .ref m31, .ref m32, .ref m33, .ref m34, .int i_tablets, .int i_riders, .ref m37, .ref m38, .ref m39, .ref m40, .ref m41, .ref m42, .ref m43, .ref m44, .ref m45, .ref m46])), (m40, .inl (k_cost, 144, .inl a_cost)), (m39, .inl (k_led, 144, .inl a_led)), (m41, .inl (k_left, 12, .inl a_left)), (m43, .inl (k_toGiver, 12, .inl a_toGiver)), (m44, .inl (k_toTaker, 12, .inl a_toTaker)), (m45, .inl (k_giverBy, 12, .inl a_giverBy)), (m46, .inl (k_takerBy, 12, .inl a_takerBy))] sz)) 0 0 (va_A [(h0, .inr (9, [.int i_thrown, .ref m1, .int i_length, .int i_size, .int i_p, .ref m5, .ref m6, .ref m7, .int i_token, .int i_at, .int i_number, .int i_fault, .int i_faultAt, .int i_hour, .long i_word, .ref m15, .ref m16, .ref m17, .ref m18, .ref m19, .ref m20, .int i_horses, .ref m22, .ref m23, .ref m24, .ref m25, .ref m26, .ref m27, .ref m28, .ref m29, .ref m30, .ref m31, .ref m32, .ref m33, .ref m34, .int i_tablets, .int i_riders, .ref m37, .ref m38, .ref m39, .ref m40, .ref m41, .ref m42, .ref m43, .ref m44, .ref m45, .ref m46])), (m40, .inl (k_cost, 144, .inl a_cost)), (m39, .inl (k_led, 144, .inl a_led)), (m41, .inl (k_left, 12, .inl a_left)), (m43, .inl (k_toGiver, 12, .inl a_toGiver)), (m44, .inl (k_toTaker, 12, .inl a_toTaker)), (m45, .inl (k_giverBy, 12, .inl a_giverBy)), (m46, .inl (k_takerBy, 12, .inl a_takerBy))] sz) := by
  refine Met.ofW (cc := cX9_cheapest) (maxL := 4) (ret := none) (by decide) rfl ?_
  intro p e s m args below meth c s₁ B hml hv
  obtain ⟨rfl, hsz, hP, hK, hD0, hN⟩ := hv
  have hx := B.exec
  have hb := B.bytes
  have hr := B.returns
  have hts := atoms_spec (ws := wsX9_cheapest) B.pre
  have hown : s.vm.findClass RX9 = some m.cls := findClass_of_methodNamed B.named
  have hlocks := B.notSynchronized
  subst hsz
  have hin9 : ∀ w ∈ u_ws RX9 TX9 47, w ∈ wsX9_cheapest := by decide +kernel
  have hD := hD0.self (sz := s.heap.size)
  generalize hAe : va_A [(h0, .inr (9, [.int i_thrown, .ref m1, .int i_length, .int i_size, .int i_p, .ref m5, .ref m6, .ref m7, .int i_token, .int i_at, .int i_number, .int i_fault, .int i_faultAt, .int i_hour, .long i_word, .ref m15, .ref m16, .ref m17, .ref m18, .ref m19, .ref m20, .int i_horses, .ref m22, .ref m23, .ref m24, .ref m25, .ref m26, .ref m27, .ref m28, .ref m29, .ref m30, .ref m31, .ref m32, .ref m33, .ref m34, .int i_tablets, .int i_riders, .ref m37, .ref m38, .ref m39, .ref m40, .ref m41, .ref m42, .ref m43, .ref m44, .ref m45, .ref m46])), (m40, .inl (k_cost, 144, .inl a_cost)), (m39, .inl (k_led, 144, .inl a_led)), (m41, .inl (k_left, 12, .inl a_left)), (m43, .inl (k_toGiver, 12, .inl a_toGiver)), (m44, .inl (k_toTaker, 12, .inl a_toTaker)), (m45, .inl (k_giverBy, 12, .inl a_giverBy)), (m46, .inl (k_takerBy, 12, .inl a_takerBy))] s.heap.size = A at hD ⊢
  have hA : ∀ q : Nat, s.heap.size ≤ q → A q := fun q h => by rw [← hAe]; exact Or.inr h
  have hS : va_S A s.heap s.heap [] := va_S.rf
  have hP : va_P (dC, dI) vwCl [(h0, .inr (9, [.int i_thrown, .ref m1, .int i_length, .int i_size, .int i_p, .ref m5, .ref m6, .ref m7, .int i_token, .int i_at, .int i_number, .int i_fault, .int i_faultAt, .int i_hour, .long i_word, .ref m15, .ref m16, .ref m17, .ref m18, .ref m19, .ref m20, .int i_horses, .ref m22, .ref m23, .ref m24, .ref m25, .ref m26, .ref m27, .ref m28, .ref m29, .ref m30, .ref m31, .ref m32, .ref m33, .ref m34, .int i_tablets, .int i_riders, .ref m37, .ref m38, .ref m39, .ref m40, .ref m41, .ref m42, .ref m43, .ref m44, .ref m45, .ref m46])), (m40, .inl (k_cost, 144, .inl a_cost)), (m39, .inl (k_led, 144, .inl a_led)), (m41, .inl (k_left, 12, .inl a_left)), (m43, .inl (k_toGiver, 12, .inl a_toGiver)), (m44, .inl (k_toTaker, 12, .inl a_toTaker)), (m45, .inl (k_giverBy, 12, .inl a_giverBy)), (m46, .inl (k_takerBy, 12, .inl a_takerBy))] s.heap := hP
  have hl := lv_entry ([.ref h0]) (n := 4) (Nat.le_of_ble_eq_true rfl)
  rw [lg_entry_eq]
  generalize (lg_sl ([.ref h0]) ++ List.replicate (4 - (lg_sl ([.ref h0])).length) Slot.unset).toArray = ls at hl ⊢
  have hl : lv_has ls 4 [(0, .ref h0)] := hl
  refine lv_iconst (v := 0) hx hb dX9_cheapest_0 (by decide) ?_
  refine lv_istore_n (lv' := [(1, .int 0), (0, .ref h0)]) hx hb dX9_cheapest_1 rfl hl (by decide) rfl (fun ls hl => ?_)
  have HL_i : ∀ (n_i i : Nat) (f_tg9 : Nat → Int32) (f_tt9 : Nat → Int32) (f_gb9 : Nat → Int32) (f_tb9 : Nat → Int32), i ≤ 12 → 12 + 1 ≤ i + n_i → (CI a_left f_tg9 f_tt9 f_gb9 f_tb9 i) → ∀ (H : Heap) (locs : List Loc), va_P (dC, dI) vwCl [(h0, .inr (9, [.int i_thrown, .ref m1, .int i_length, .int i_size, .int i_p, .ref m5, .ref m6, .ref m7, .int i_token, .int i_at, .int i_number, .int i_fault, .int i_faultAt, .int i_hour, .long i_word, .ref m15, .ref m16, .ref m17, .ref m18, .ref m19, .ref m20, .int i_horses, .ref m22, .ref m23, .ref m24, .ref m25, .ref m26, .ref m27, .ref m28, .ref m29, .ref m30, .ref m31, .ref m32, .ref m33, .ref m34, .int i_tablets, .int i_riders, .ref m37, .ref m38, .ref m39, .ref m40, .ref m41, .ref m42, .ref m43, .ref m44, .ref m45, .ref m46])), (m40, .inl (k_cost, 144, .inl a_cost)), (m39, .inl (k_led, 144, .inl a_led)), (m41, .inl (k_left, 12, .inl a_left)), (m43, .inl (k_toGiver, 12, .inl f_tg9)), (m44, .inl (k_toTaker, 12, .inl f_tt9)), (m45, .inl (k_giverBy, 12, .inl f_gb9)), (m46, .inl (k_takerBy, 12, .inl f_tb9))] H → va_D A [(h0, .inr (9, [.int i_thrown, .ref m1, .int i_length, .int i_size, .int i_p, .ref m5, .ref m6, .ref m7, .int i_token, .int i_at, .int i_number, .int i_fault, .int i_faultAt, .int i_hour, .long i_word, .ref m15, .ref m16, .ref m17, .ref m18, .ref m19, .ref m20, .int i_horses, .ref m22, .ref m23, .ref m24, .ref m25, .ref m26, .ref m27, .ref m28, .ref m29, .ref m30, .ref m31, .ref m32, .ref m33, .ref m34, .int i_tablets, .int i_riders, .ref m37, .ref m38, .ref m39, .ref m40, .ref m41, .ref m42, .ref m43, .ref m44, .ref m45, .ref m46])), (m40, .inl (k_cost, 144, .inl a_cost)), (m39, .inl (k_led, 144, .inl a_led)), (m41, .inl (k_left, 12, .inl a_left)), (m43, .inl (k_toGiver, 12, .inl f_tg9)), (m44, .inl (k_toTaker, 12, .inl f_tt9)), (m45, .inl (k_giverBy, 12, .inl f_gb9)), (m46, .inl (k_takerBy, 12, .inl f_tb9))] → va_S A s.heap H locs → ∀ ls : Array Slot, lv_has ls 4 [(0, .ref h0), (1, .int (nI i))] → W p l e (headSpec wsX9_cheapest ({ frames := 0, cells := 0, slots := 0, locals := 0 })).room s m ([.ref h0]).toArray below meth c H locs 0 0 (MQ below (va_Qv (fun (_ : Unit) => True) (fun (_ : Unit) t9 => ∃ (f_tg : Nat → Int32) (f_tt : Nat → Int32) (f_gb : Nat → Int32) (f_tb : Nat → Int32), (CHe a_cost a_led a_left G T f_tg f_tt f_gb f_tb) ∧ (FXc a_cost a_led f_tg f_tt) ∧ cQ dC dI [(h0, .inr (9, [.int i_thrown, .ref m1, .int i_length, .int i_size, .int i_p, .ref m5, .ref m6, .ref m7, .int i_token, .int i_at, .int i_number, .int i_fault, .int i_faultAt, .int i_hour, .long i_word, .ref m15, .ref m16, .ref m17, .ref m18, .ref m19, .ref m20, .int i_horses, .ref m22, .ref m23, .ref m24, .ref m25, .ref m26, .ref m27, .ref m28, .ref m29, .ref m30, .ref m31, .ref m32, .ref m33, .ref m34, .int i_tablets, .int i_riders, .ref m37, .ref m38, .ref m39, .ref m40, .ref m41, .ref m42, .ref m43, .ref m44, .ref m45, .ref m46])), (m40, .inl (k_cost, 144, .inl a_cost)), (m39, .inl (k_led, 144, .inl a_led)), (m41, .inl (k_left, 12, .inl a_left)), (m43, .inl (k_toGiver, 12, .inl f_tg)), (m44, .inl (k_toTaker, 12, .inl f_tt)), (m45, .inl (k_giverBy, 12, .inl f_gb)), (m46, .inl (k_takerBy, 12, .inl f_tb))] [] A t9) A) ([.ref h0]).toArray s 0 0 A) (F0 m 2 ls []) := by
    intro n_i
    induction n_i with
    | zero => intro i f_tg9 f_tt9 f_gb9 f_tb9 h1 h2; exact absurd h2 (by omega)
    | succ n_i ih_i =>
      intro i f_tg9 f_tt9 f_gb9 f_tb9 hk_i hn_i hCI H locs hP hD hS ls hl
      refine lv_iload_n hx hb dX9_cheapest_2 rfl (lv_at hl 1 rfl) ?_
      refine lv_bipush (v := 12) hx hb dX9_cheapest_3 (by decide) ?_
      refine lv_icmp_ge (tgt := 57) hx hb dX9_cheapest_5 (by decide) (fun c_1 => ?_) (fun c_1 => ?_)
      · have hke_i : i = 12 := by
          rcases Nat.lt_or_ge i 12 with q | q
          · exact absurd c_1 (nI_ge q (by decide))
          · omega
        refine lv_iconst (v := 1) hx hb dX9_cheapest_57 (by decide) ?_
        refine lv_istore_n (lv' := [(1, .int 1), (0, .ref h0)]) hx hb dX9_cheapest_58 rfl hl (by decide) rfl (fun ls hl => ?_)
        have HL_a : ∀ (n_a : Nat) (f_tg8 : Nat → Int32) (f_tt8 : Nat → Int32) (f_gb8 : Nat → Int32) (f_tb8 : Nat → Int32) (mo8 : Int32), Ms f_tg8 f_tt8 + 1 + wb mo8 ≤ n_a → (CHe a_cost a_led a_left G T f_tg8 f_tt8 f_gb8 f_tb8) → ((mo8 = 0 ∧ FXc a_cost a_led f_tg8 f_tt8) ∨ mo8 = 1) → ∀ (H : Heap) (locs : List Loc), va_P (dC, dI) vwCl [(h0, .inr (9, [.int i_thrown, .ref m1, .int i_length, .int i_size, .int i_p, .ref m5, .ref m6, .ref m7, .int i_token, .int i_at, .int i_number, .int i_fault, .int i_faultAt, .int i_hour, .long i_word, .ref m15, .ref m16, .ref m17, .ref m18, .ref m19, .ref m20, .int i_horses, .ref m22, .ref m23, .ref m24, .ref m25, .ref m26, .ref m27, .ref m28, .ref m29, .ref m30, .ref m31, .ref m32, .ref m33, .ref m34, .int i_tablets, .int i_riders, .ref m37, .ref m38, .ref m39, .ref m40, .ref m41, .ref m42, .ref m43, .ref m44, .ref m45, .ref m46])), (m40, .inl (k_cost, 144, .inl a_cost)), (m39, .inl (k_led, 144, .inl a_led)), (m41, .inl (k_left, 12, .inl a_left)), (m43, .inl (k_toGiver, 12, .inl f_tg8)), (m44, .inl (k_toTaker, 12, .inl f_tt8)), (m45, .inl (k_giverBy, 12, .inl f_gb8)), (m46, .inl (k_takerBy, 12, .inl f_tb8))] H → va_D A [(h0, .inr (9, [.int i_thrown, .ref m1, .int i_length, .int i_size, .int i_p, .ref m5, .ref m6, .ref m7, .int i_token, .int i_at, .int i_number, .int i_fault, .int i_faultAt, .int i_hour, .long i_word, .ref m15, .ref m16, .ref m17, .ref m18, .ref m19, .ref m20, .int i_horses, .ref m22, .ref m23, .ref m24, .ref m25, .ref m26, .ref m27, .ref m28, .ref m29, .ref m30, .ref m31, .ref m32, .ref m33, .ref m34, .int i_tablets, .int i_riders, .ref m37, .ref m38, .ref m39, .ref m40, .ref m41, .ref m42, .ref m43, .ref m44, .ref m45, .ref m46])), (m40, .inl (k_cost, 144, .inl a_cost)), (m39, .inl (k_led, 144, .inl a_led)), (m41, .inl (k_left, 12, .inl a_left)), (m43, .inl (k_toGiver, 12, .inl f_tg8)), (m44, .inl (k_toTaker, 12, .inl f_tt8)), (m45, .inl (k_giverBy, 12, .inl f_gb8)), (m46, .inl (k_takerBy, 12, .inl f_tb8))] → va_S A s.heap H locs → ∀ ls : Array Slot, lv_has ls 4 [(0, .ref h0), (1, .int mo8)] → W p l e (headSpec wsX9_cheapest ({ frames := 0, cells := 0, slots := 0, locals := 0 })).room s m ([.ref h0]).toArray below meth c H locs 0 0 (MQ below (va_Qv (fun (_ : Unit) => True) (fun (_ : Unit) t9 => ∃ (f_tg : Nat → Int32) (f_tt : Nat → Int32) (f_gb : Nat → Int32) (f_tb : Nat → Int32), (CHe a_cost a_led a_left G T f_tg f_tt f_gb f_tb) ∧ (FXc a_cost a_led f_tg f_tt) ∧ cQ dC dI [(h0, .inr (9, [.int i_thrown, .ref m1, .int i_length, .int i_size, .int i_p, .ref m5, .ref m6, .ref m7, .int i_token, .int i_at, .int i_number, .int i_fault, .int i_faultAt, .int i_hour, .long i_word, .ref m15, .ref m16, .ref m17, .ref m18, .ref m19, .ref m20, .int i_horses, .ref m22, .ref m23, .ref m24, .ref m25, .ref m26, .ref m27, .ref m28, .ref m29, .ref m30, .ref m31, .ref m32, .ref m33, .ref m34, .int i_tablets, .int i_riders, .ref m37, .ref m38, .ref m39, .ref m40, .ref m41, .ref m42, .ref m43, .ref m44, .ref m45, .ref m46])), (m40, .inl (k_cost, 144, .inl a_cost)), (m39, .inl (k_led, 144, .inl a_led)), (m41, .inl (k_left, 12, .inl a_left)), (m43, .inl (k_toGiver, 12, .inl f_tg)), (m44, .inl (k_toTaker, 12, .inl f_tt)), (m45, .inl (k_giverBy, 12, .inl f_gb)), (m46, .inl (k_takerBy, 12, .inl f_tb))] [] A t9) A) ([.ref h0]).toArray s 0 0 A) (F0 m 59 ls []) := by
          intro n_a
          induction n_a with
          | zero => intro f_tg8 f_tt8 f_gb8 f_tb8 mo8 hfu hC8 hX8; exact absurd hfu (by omega)
          | succ n_a ih_a =>
            intro f_tg8 f_tt8 f_gb8 f_tb8 mo8 hfu_a hC8 hX8 H locs hP hD hS ls hl
            refine lv_iload_n hx hb dX9_cheapest_59 rfl (lv_at hl 1 rfl) ?_
            refine lv_if_eq (tgt := 268) hx hb dX9_cheapest_60 (by decide) (fun c_2 => ?_) (fun c_2 => ?_)
            · have hP9 := hP.sub (ws' := [(h0, .inr (9, [.int i_thrown, .ref m1, .int i_length, .int i_size, .int i_p, .ref m5, .ref m6, .ref m7, .int i_token, .int i_at, .int i_number, .int i_fault, .int i_faultAt, .int i_hour, .long i_word, .ref m15, .ref m16, .ref m17, .ref m18, .ref m19, .ref m20, .int i_horses, .ref m22, .ref m23, .ref m24, .ref m25, .ref m26, .ref m27, .ref m28, .ref m29, .ref m30, .ref m31, .ref m32, .ref m33, .ref m34, .int i_tablets, .int i_riders, .ref m37, .ref m38, .ref m39, .ref m40, .ref m41, .ref m42, .ref m43, .ref m44, .ref m45, .ref m46])), (m40, .inl (k_cost, 144, .inl a_cost)), (m39, .inl (k_led, 144, .inl a_led)), (m41, .inl (k_left, 12, .inl a_left)), (m43, .inl (k_toGiver, 12, .inl f_tg8)), (m44, .inl (k_toTaker, 12, .inl f_tt8)), (m45, .inl (k_giverBy, 12, .inl f_gb8)), (m46, .inl (k_takerBy, 12, .inl f_tb8))]) [0, 1, 2, 3, 4, 5, 6, 7] rfl
              have hD9 := hD.sub (ws' := [(h0, .inr (9, [.int i_thrown, .ref m1, .int i_length, .int i_size, .int i_p, .ref m5, .ref m6, .ref m7, .int i_token, .int i_at, .int i_number, .int i_fault, .int i_faultAt, .int i_hour, .long i_word, .ref m15, .ref m16, .ref m17, .ref m18, .ref m19, .ref m20, .int i_horses, .ref m22, .ref m23, .ref m24, .ref m25, .ref m26, .ref m27, .ref m28, .ref m29, .ref m30, .ref m31, .ref m32, .ref m33, .ref m34, .int i_tablets, .int i_riders, .ref m37, .ref m38, .ref m39, .ref m40, .ref m41, .ref m42, .ref m43, .ref m44, .ref m45, .ref m46])), (m40, .inl (k_cost, 144, .inl a_cost)), (m39, .inl (k_led, 144, .inl a_led)), (m41, .inl (k_left, 12, .inl a_left)), (m43, .inl (k_toGiver, 12, .inl f_tg8)), (m44, .inl (k_toTaker, 12, .inl f_tt8)), (m45, .inl (k_giverBy, 12, .inl f_gb8)), (m46, .inl (k_takerBy, 12, .inl f_tb8))]) [0, 1, 2, 3, 4, 5, 6, 7] (by decide) rfl
              have hK9 := hK.sub (tys' := []) [] rfl
              refine W.widen (k := 0) (n := 0) (Nat.le_of_ble_eq_true rfl) (Nat.le_of_ble_eq_true rfl) ?_
              exact W.vret hx hb hr (fun t9 ht hW => ⟨⟨(), rfl, trivial, f_tg8, f_tt8, f_gb8, f_tb8, hC8, (hX8.elim (fun q => q.2) (fun q => absurd (q.symm.trans c_2) (by decide))), by rw [ht]; exact hP9, va_K.moved hW.alike hK9, hD9⟩, hS.F ht⟩) hS.2.2 dX9_cheapest_268
            · refine lv_iconst (v := 0) hx hb dX9_cheapest_63 (by decide) ?_
              refine lv_istore_n (lv' := [(1, .int 0), (0, .ref h0)]) hx hb dX9_cheapest_64 rfl hl (by decide) rfl (fun ls hl => ?_)
              refine lv_iconst (v := 0) hx hb dX9_cheapest_65 (by decide) ?_
              refine lv_istore_n (lv' := [(2, .int 0), (1, .int 0), (0, .ref h0)]) hx hb dX9_cheapest_66 rfl hl (by decide) rfl (fun ls hl => ?_)
              have HL : ∀ (n k : Nat) (f_tg7 : Nat → Int32) (f_tt7 : Nat → Int32) (f_gb7 : Nat → Int32) (f_tb7 : Nat → Int32) (mo7 : Int32), k ≤ 12 → 12 + 1 ≤ k + n → (CHe a_cost a_led a_left G T f_tg7 f_tt7 f_gb7 f_tb7) → (IC a_cost a_led f_tg8 f_tt8 f_tg7 f_tt7 mo7 k 0) → ∀ (H : Heap) (locs : List Loc), va_P (dC, dI) vwCl [(h0, .inr (9, [.int i_thrown, .ref m1, .int i_length, .int i_size, .int i_p, .ref m5, .ref m6, .ref m7, .int i_token, .int i_at, .int i_number, .int i_fault, .int i_faultAt, .int i_hour, .long i_word, .ref m15, .ref m16, .ref m17, .ref m18, .ref m19, .ref m20, .int i_horses, .ref m22, .ref m23, .ref m24, .ref m25, .ref m26, .ref m27, .ref m28, .ref m29, .ref m30, .ref m31, .ref m32, .ref m33, .ref m34, .int i_tablets, .int i_riders, .ref m37, .ref m38, .ref m39, .ref m40, .ref m41, .ref m42, .ref m43, .ref m44, .ref m45, .ref m46])), (m40, .inl (k_cost, 144, .inl a_cost)), (m39, .inl (k_led, 144, .inl a_led)), (m41, .inl (k_left, 12, .inl a_left)), (m43, .inl (k_toGiver, 12, .inl f_tg7)), (m44, .inl (k_toTaker, 12, .inl f_tt7)), (m45, .inl (k_giverBy, 12, .inl f_gb7)), (m46, .inl (k_takerBy, 12, .inl f_tb7))] H → va_D A [(h0, .inr (9, [.int i_thrown, .ref m1, .int i_length, .int i_size, .int i_p, .ref m5, .ref m6, .ref m7, .int i_token, .int i_at, .int i_number, .int i_fault, .int i_faultAt, .int i_hour, .long i_word, .ref m15, .ref m16, .ref m17, .ref m18, .ref m19, .ref m20, .int i_horses, .ref m22, .ref m23, .ref m24, .ref m25, .ref m26, .ref m27, .ref m28, .ref m29, .ref m30, .ref m31, .ref m32, .ref m33, .ref m34, .int i_tablets, .int i_riders, .ref m37, .ref m38, .ref m39, .ref m40, .ref m41, .ref m42, .ref m43, .ref m44, .ref m45, .ref m46])), (m40, .inl (k_cost, 144, .inl a_cost)), (m39, .inl (k_led, 144, .inl a_led)), (m41, .inl (k_left, 12, .inl a_left)), (m43, .inl (k_toGiver, 12, .inl f_tg7)), (m44, .inl (k_toTaker, 12, .inl f_tt7)), (m45, .inl (k_giverBy, 12, .inl f_gb7)), (m46, .inl (k_takerBy, 12, .inl f_tb7))] → va_S A s.heap H locs → ∀ ls : Array Slot, lv_has ls 4 [(0, .ref h0), (1, .int mo7), (2, .int (nI k))] → W p l e (headSpec wsX9_cheapest ({ frames := 0, cells := 0, slots := 0, locals := 0 })).room s m ([.ref h0]).toArray below meth c H locs 0 0 (MQ below (va_Qv (fun (_ : Unit) => True) (fun (_ : Unit) t9 => ∃ (f_tg : Nat → Int32) (f_tt : Nat → Int32) (f_gb : Nat → Int32) (f_tb : Nat → Int32), (CHe a_cost a_led a_left G T f_tg f_tt f_gb f_tb) ∧ (FXc a_cost a_led f_tg f_tt) ∧ cQ dC dI [(h0, .inr (9, [.int i_thrown, .ref m1, .int i_length, .int i_size, .int i_p, .ref m5, .ref m6, .ref m7, .int i_token, .int i_at, .int i_number, .int i_fault, .int i_faultAt, .int i_hour, .long i_word, .ref m15, .ref m16, .ref m17, .ref m18, .ref m19, .ref m20, .int i_horses, .ref m22, .ref m23, .ref m24, .ref m25, .ref m26, .ref m27, .ref m28, .ref m29, .ref m30, .ref m31, .ref m32, .ref m33, .ref m34, .int i_tablets, .int i_riders, .ref m37, .ref m38, .ref m39, .ref m40, .ref m41, .ref m42, .ref m43, .ref m44, .ref m45, .ref m46])), (m40, .inl (k_cost, 144, .inl a_cost)), (m39, .inl (k_led, 144, .inl a_led)), (m41, .inl (k_left, 12, .inl a_left)), (m43, .inl (k_toGiver, 12, .inl f_tg)), (m44, .inl (k_toTaker, 12, .inl f_tt)), (m45, .inl (k_giverBy, 12, .inl f_gb)), (m46, .inl (k_takerBy, 12, .inl f_tb))] [] A t9) A) ([.ref h0]).toArray s 0 0 A) (F0 m 67 ls []) := by
                intro n
                induction n with
                | zero => intro k f_tg7 f_tt7 f_gb7 f_tb7 mo7 h1 h2; exact absurd h2 (by omega)
                | succ n ih =>
                  intro k f_tg7 f_tt7 f_gb7 f_tb7 mo7 hk hn hC7 hI7 H locs hP hD hS ls hl
                  refine lv_iload_n hx hb dX9_cheapest_67 rfl (lv_at hl 2 rfl) ?_
                  refine lv_bipush (v := 12) hx hb dX9_cheapest_68 (by decide) ?_
                  refine lv_icmp_ge (tgt := 265) hx hb dX9_cheapest_70 (by decide) (fun c_3 => ?_) (fun c_3 => ?_)
                  · have hke : k = 12 := by
                      rcases Nat.lt_or_ge k 12 with q | q
                      · exact absurd c_3 (nI_ge q (by decide))
                      · omega
                    refine lv_goto (tgt := 59) hx hb dX9_cheapest_265 (by decide) ?_
                    have hfu2 := IC_f (hke ▸ hI7) hfu_a c_2
                    exact ih_a f_tg7 f_tt7 f_gb7 f_tb7 mo7 (by omega) hC7 (IC_e (hke ▸ hI7)) _ _ (hP.sub [0, 1, 2, 3, 4, 5, 6, 7] rfl) (hD.sub [0, 1, 2, 3, 4, 5, 6, 7] (by decide) rfl) hS ls (lv_sub hl [0, 1] rfl)
                  · have hlt : k < 12 := by
                      rcases Nat.lt_or_ge k 12 with q | q
                      · exact q
                      · exact absurd (show nI 12 ≤ nI k from nI_le q (by omega)) c_3
                    refine lv_iconst (v := 0) hx hb dX9_cheapest_73 (by decide) ?_
                    refine lv_istore_n (lv' := [(3, .int 0), (0, .ref h0), (1, .int mo7), (2, .int (nI k))]) hx hb dX9_cheapest_74 rfl hl (by decide) rfl (fun ls hl => ?_)
                    have HL_j : ∀ (n_j j : Nat) (f_tg6 : Nat → Int32) (f_tt6 : Nat → Int32) (f_gb6 : Nat → Int32) (f_tb6 : Nat → Int32) (mo6 : Int32), j ≤ 12 → 12 + 1 ≤ j + n_j → (CHe a_cost a_led a_left G T f_tg6 f_tt6 f_gb6 f_tb6) → (IC a_cost a_led f_tg8 f_tt8 f_tg6 f_tt6 mo6 k j) → ∀ (H : Heap) (locs : List Loc), va_P (dC, dI) vwCl [(h0, .inr (9, [.int i_thrown, .ref m1, .int i_length, .int i_size, .int i_p, .ref m5, .ref m6, .ref m7, .int i_token, .int i_at, .int i_number, .int i_fault, .int i_faultAt, .int i_hour, .long i_word, .ref m15, .ref m16, .ref m17, .ref m18, .ref m19, .ref m20, .int i_horses, .ref m22, .ref m23, .ref m24, .ref m25, .ref m26, .ref m27, .ref m28, .ref m29, .ref m30, .ref m31, .ref m32, .ref m33, .ref m34, .int i_tablets, .int i_riders, .ref m37, .ref m38, .ref m39, .ref m40, .ref m41, .ref m42, .ref m43, .ref m44, .ref m45, .ref m46])), (m40, .inl (k_cost, 144, .inl a_cost)), (m39, .inl (k_led, 144, .inl a_led)), (m41, .inl (k_left, 12, .inl a_left)), (m43, .inl (k_toGiver, 12, .inl f_tg6)), (m44, .inl (k_toTaker, 12, .inl f_tt6)), (m45, .inl (k_giverBy, 12, .inl f_gb6)), (m46, .inl (k_takerBy, 12, .inl f_tb6))] H → va_D A [(h0, .inr (9, [.int i_thrown, .ref m1, .int i_length, .int i_size, .int i_p, .ref m5, .ref m6, .ref m7, .int i_token, .int i_at, .int i_number, .int i_fault, .int i_faultAt, .int i_hour, .long i_word, .ref m15, .ref m16, .ref m17, .ref m18, .ref m19, .ref m20, .int i_horses, .ref m22, .ref m23, .ref m24, .ref m25, .ref m26, .ref m27, .ref m28, .ref m29, .ref m30, .ref m31, .ref m32, .ref m33, .ref m34, .int i_tablets, .int i_riders, .ref m37, .ref m38, .ref m39, .ref m40, .ref m41, .ref m42, .ref m43, .ref m44, .ref m45, .ref m46])), (m40, .inl (k_cost, 144, .inl a_cost)), (m39, .inl (k_led, 144, .inl a_led)), (m41, .inl (k_left, 12, .inl a_left)), (m43, .inl (k_toGiver, 12, .inl f_tg6)), (m44, .inl (k_toTaker, 12, .inl f_tt6)), (m45, .inl (k_giverBy, 12, .inl f_gb6)), (m46, .inl (k_takerBy, 12, .inl f_tb6))] → va_S A s.heap H locs → ∀ ls : Array Slot, lv_has ls 4 [(0, .ref h0), (1, .int mo6), (2, .int (nI k)), (3, .int (nI j))] → W p l e (headSpec wsX9_cheapest ({ frames := 0, cells := 0, slots := 0, locals := 0 })).room s m ([.ref h0]).toArray below meth c H locs 0 0 (MQ below (va_Qv (fun (_ : Unit) => True) (fun (_ : Unit) t9 => ∃ (f_tg : Nat → Int32) (f_tt : Nat → Int32) (f_gb : Nat → Int32) (f_tb : Nat → Int32), (CHe a_cost a_led a_left G T f_tg f_tt f_gb f_tb) ∧ (FXc a_cost a_led f_tg f_tt) ∧ cQ dC dI [(h0, .inr (9, [.int i_thrown, .ref m1, .int i_length, .int i_size, .int i_p, .ref m5, .ref m6, .ref m7, .int i_token, .int i_at, .int i_number, .int i_fault, .int i_faultAt, .int i_hour, .long i_word, .ref m15, .ref m16, .ref m17, .ref m18, .ref m19, .ref m20, .int i_horses, .ref m22, .ref m23, .ref m24, .ref m25, .ref m26, .ref m27, .ref m28, .ref m29, .ref m30, .ref m31, .ref m32, .ref m33, .ref m34, .int i_tablets, .int i_riders, .ref m37, .ref m38, .ref m39, .ref m40, .ref m41, .ref m42, .ref m43, .ref m44, .ref m45, .ref m46])), (m40, .inl (k_cost, 144, .inl a_cost)), (m39, .inl (k_led, 144, .inl a_led)), (m41, .inl (k_left, 12, .inl a_left)), (m43, .inl (k_toGiver, 12, .inl f_tg)), (m44, .inl (k_toTaker, 12, .inl f_tt)), (m45, .inl (k_giverBy, 12, .inl f_gb)), (m46, .inl (k_takerBy, 12, .inl f_tb))] [] A t9) A) ([.ref h0]).toArray s 0 0 A) (F0 m 75 ls []) := by
                      intro n_j
                      induction n_j with
                      | zero => intro j f_tg6 f_tt6 f_gb6 f_tb6 mo6 h1 h2; exact absurd h2 (by omega)
                      | succ n_j ih_j =>
                        intro j f_tg6 f_tt6 f_gb6 f_tb6 mo6 hk_j hn_j hC6 hI6 H locs hP hD hS ls hl
                        refine lv_iload_n hx hb dX9_cheapest_75 rfl (lv_at hl 3 rfl) ?_
                        refine lv_bipush (v := 12) hx hb dX9_cheapest_76 (by decide) ?_
                        refine lv_icmp_ge (tgt := 259) hx hb dX9_cheapest_78 (by decide) (fun c_4 => ?_) (fun c_4 => ?_)
                        · have hke_j : j = 12 := by
                            rcases Nat.lt_or_ge j 12 with q | q
                            · exact absurd c_4 (nI_ge q (by decide))
                            · omega
                          refine lv_iinc (v := nI (k + 1)) (lv' := [(2, .int (nI (k + 1))), (0, .ref h0), (1, .int mo6), (3, .int (nI j))]) hx hb dX9_cheapest_259 hl (k := 2) rfl (by exact (nI_1 k)) (by decide) rfl (fun ls hl => ?_)
                          refine lv_goto (tgt := 67) hx hb dX9_cheapest_262 (by decide) ?_
                          exact ih (k + 1) f_tg6 f_tt6 f_gb6 f_tb6 mo6 (by omega) (by omega) hC6 (IC_r (hke_j ▸ hI6)) _ _ (hP.sub [0, 1, 2, 3, 4, 5, 6, 7] rfl) (hD.sub [0, 1, 2, 3, 4, 5, 6, 7] (by decide) rfl) hS ls (lv_sub hl [1, 2, 0] rfl)
                        · have hlt_j : j < 12 := by
                            rcases Nat.lt_or_ge j 12 with q | q
                            · exact q
                            · exact absurd (show nI 12 ≤ nI j from nI_le q (by omega)) c_4
                          refine lv_aload_n hx hb dX9_cheapest_81 rfl (lv_at hl 0 rfl) ?_
                          refine va_get (D := (dC, dI)) (ci := 9) (v := .ref m43) (C := RX9) (T := TX9) (N := 47) hx hb hts hin9 hown hK hP 0 rfl rfl 43 (by decide) (hts (.fieldLink RX9 99 "YamRidersModel" "toGiver" "[I") (by decide +kernel)) (fun _ h9 => h9) rfl dX9_cheapest_82 ?_
                          refine lv_iload_n hx hb dX9_cheapest_85 rfl (lv_at hl 2 rfl) ?_
                          refine va_iald hx hb hK hP 4 3 rfl rfl (vp_in_nI hlt (by decide)) dX9_cheapest_86 ?_
                          refine lv_topi (fun v_5 ev_5 => ?_)
                          obtain rfl : v_5 = f_tg6 k := ev_5.trans (by rw [(nI_clamp (by omega))])
                          refine lv_ldc (v := 1000000) hx hb hown (hts (.constant RX9 194 (1000000)) (by decide +kernel)) dX9_cheapest_87 ?_
                          refine lv_icmp_ge (tgt := 168) hx hb dX9_cheapest_89 (by decide) (fun c_6 => ?_) (fun c_6 => ?_)
                          · have hD5 := ID_a hI6 (FC1_1 c_6)
                            have hC5 := hC6
                            refine lv_aload_n hx hb dX9_cheapest_168 rfl (lv_at hl 0 rfl) ?_
                            refine va_get (D := (dC, dI)) (ci := 9) (v := .ref m39) (C := RX9) (T := TX9) (N := 47) hx hb hts hin9 hown hK hP 0 rfl rfl 39 (by decide) (hts (.fieldLink RX9 87 "YamRidersModel" "led" "[I") (by decide +kernel)) (fun _ h9 => h9) rfl dX9_cheapest_169 ?_
                            refine lv_bipush (v := 12) hx hb dX9_cheapest_172 (by decide) ?_
                            refine lv_iload_n hx hb dX9_cheapest_174 rfl (lv_at hl 2 rfl) ?_
                            refine lv_imul hx hb dX9_cheapest_175 ?_
                            refine lv_iload_n hx hb dX9_cheapest_176 rfl (lv_at hl 3 rfl) ?_
                            refine lv_iadd hx hb dX9_cheapest_177 ?_
                            refine va_iald hx hb hK hP 2 1 rfl rfl (ixN (u := k) (v := j) (by omega) (by decide)) dX9_cheapest_178 ?_
                            refine lv_topi (fun v_7 ev_7 => ?_)
                            obtain rfl : v_7 = a_led (12 * k + j) := ev_7.trans (by rw [(ixc (by omega) (by omega))])
                            refine lv_if_le (tgt := 253) hx hb dX9_cheapest_179 (by decide) (fun c_8 => ?_) (fun c_8 => ?_)
                            · refine lv_iinc (v := nI (j + 1)) (lv' := [(3, .int (nI (j + 1))), (0, .ref h0), (1, .int mo6), (2, .int (nI k))]) hx hb dX9_cheapest_253 hl (k := 3) rfl (by exact (nI_1 j)) (by decide) rfl (fun ls hl => ?_)
                              refine lv_goto (tgt := 75) hx hb dX9_cheapest_256 (by decide) ?_
                              exact ih_j (j + 1) f_tg6 f_tt6 f_gb6 f_tb6 mo6 (by omega) (by omega) hC5 (IC_a hD5 (FC2_1 c_8)) _ _ (hP.sub [0, 1, 2, 3, 4, 5, 6, 7] rfl) (hD.sub [0, 1, 2, 3, 4, 5, 6, 7] (by decide) rfl) hS ls (lv_sub hl [1, 2, 3, 0] rfl)
                            · refine lv_aload_n hx hb dX9_cheapest_182 rfl (lv_at hl 0 rfl) ?_
                              refine va_get (D := (dC, dI)) (ci := 9) (v := .ref m44) (C := RX9) (T := TX9) (N := 47) hx hb hts hin9 hown hK hP 0 rfl rfl 44 (by decide) (hts (.fieldLink RX9 102 "YamRidersModel" "toTaker" "[I") (by decide +kernel)) (fun _ h9 => h9) rfl dX9_cheapest_183 ?_
                              refine lv_iload_n hx hb dX9_cheapest_186 rfl (lv_at hl 3 rfl) ?_
                              refine va_iald hx hb hK hP 5 4 rfl rfl (vp_in_nI hlt_j (by decide)) dX9_cheapest_187 ?_
                              refine lv_topi (fun v_9 ev_9 => ?_)
                              obtain rfl : v_9 = f_tt6 j := ev_9.trans (by rw [(nI_clamp (by omega))])
                              refine lv_ldc (v := 1000000) hx hb hown (hts (.constant RX9 194 (1000000)) (by decide +kernel)) dX9_cheapest_188 ?_
                              refine lv_icmp_ge (tgt := 253) hx hb dX9_cheapest_190 (by decide) (fun c_10 => ?_) (fun c_10 => ?_)
                              · refine lv_iinc (v := nI (j + 1)) (lv' := [(3, .int (nI (j + 1))), (0, .ref h0), (1, .int mo6), (2, .int (nI k))]) hx hb dX9_cheapest_253 hl (k := 3) rfl (by exact (nI_1 j)) (by decide) rfl (fun ls hl => ?_)
                                refine lv_goto (tgt := 75) hx hb dX9_cheapest_256 (by decide) ?_
                                exact ih_j (j + 1) f_tg6 f_tt6 f_gb6 f_tb6 mo6 (by omega) (by omega) hC5 (IC_a hD5 (FC2_2 c_10)) _ _ (hP.sub [0, 1, 2, 3, 4, 5, 6, 7] rfl) (hD.sub [0, 1, 2, 3, 4, 5, 6, 7] (by decide) rfl) hS ls (lv_sub hl [1, 2, 3, 0] rfl)
                              · refine lv_aload_n hx hb dX9_cheapest_193 rfl (lv_at hl 0 rfl) ?_
                                refine va_get (D := (dC, dI)) (ci := 9) (v := .ref m44) (C := RX9) (T := TX9) (N := 47) hx hb hts hin9 hown hK hP 0 rfl rfl 44 (by decide) (hts (.fieldLink RX9 102 "YamRidersModel" "toTaker" "[I") (by decide +kernel)) (fun _ h9 => h9) rfl dX9_cheapest_194 ?_
                                refine lv_iload_n hx hb dX9_cheapest_197 rfl (lv_at hl 3 rfl) ?_
                                refine va_iald hx hb hK hP 5 4 rfl rfl (vp_in_nI hlt_j (by decide)) dX9_cheapest_198 ?_
                                refine lv_topi (fun v_11 ev_11 => ?_)
                                obtain rfl : v_11 = f_tt6 j := ev_11.trans (by rw [(nI_clamp (by omega))])
                                refine lv_aload_n hx hb dX9_cheapest_199 rfl (lv_at hl 0 rfl) ?_
                                refine va_get (D := (dC, dI)) (ci := 9) (v := .ref m40) (C := RX9) (T := TX9) (N := 47) hx hb hts hin9 hown hK hP 0 rfl rfl 40 (by decide) (hts (.fieldLink RX9 90 "YamRidersModel" "cost" "[I") (by decide +kernel)) (fun _ h9 => h9) rfl dX9_cheapest_200 ?_
                                refine lv_bipush (v := 12) hx hb dX9_cheapest_203 (by decide) ?_
                                refine lv_iload_n hx hb dX9_cheapest_205 rfl (lv_at hl 2 rfl) ?_
                                refine lv_imul hx hb dX9_cheapest_206 ?_
                                refine lv_iload_n hx hb dX9_cheapest_207 rfl (lv_at hl 3 rfl) ?_
                                refine lv_iadd hx hb dX9_cheapest_208 ?_
                                refine va_iald hx hb hK hP 1 0 rfl rfl (ixN (u := k) (v := j) (by omega) (by decide)) dX9_cheapest_209 ?_
                                refine lv_topi (fun v_12 ev_12 => ?_)
                                obtain rfl : v_12 = a_cost (12 * k + j) := ev_12.trans (by rw [(ixc (by omega) (by omega))])
                                refine lv_isub hx hb dX9_cheapest_210 ?_
                                refine lv_aload_n hx hb dX9_cheapest_211 rfl (lv_at hl 0 rfl) ?_
                                refine va_get (D := (dC, dI)) (ci := 9) (v := .ref m43) (C := RX9) (T := TX9) (N := 47) hx hb hts hin9 hown hK hP 0 rfl rfl 43 (by decide) (hts (.fieldLink RX9 99 "YamRidersModel" "toGiver" "[I") (by decide +kernel)) (fun _ h9 => h9) rfl dX9_cheapest_212 ?_
                                refine lv_iload_n hx hb dX9_cheapest_215 rfl (lv_at hl 2 rfl) ?_
                                refine va_iald hx hb hK hP 4 3 rfl rfl (vp_in_nI hlt (by decide)) dX9_cheapest_216 ?_
                                refine lv_topi (fun v_13 ev_13 => ?_)
                                obtain rfl : v_13 = f_tg6 k := ev_13.trans (by rw [(nI_clamp (by omega))])
                                refine lv_icmp_ge (tgt := 253) hx hb dX9_cheapest_217 (by decide) (fun c_14 => ?_) (fun c_14 => ?_)
                                · refine lv_iinc (v := nI (j + 1)) (lv' := [(3, .int (nI (j + 1))), (0, .ref h0), (1, .int mo6), (2, .int (nI k))]) hx hb dX9_cheapest_253 hl (k := 3) rfl (by exact (nI_1 j)) (by decide) rfl (fun ls hl => ?_)
                                  refine lv_goto (tgt := 75) hx hb dX9_cheapest_256 (by decide) ?_
                                  exact ih_j (j + 1) f_tg6 f_tt6 f_gb6 f_tb6 mo6 (by omega) (by omega) hC5 (IC_a hD5 (FC2_3 hCs hPO hC5 (by omega) (by omega) c_14)) _ _ (hP.sub [0, 1, 2, 3, 4, 5, 6, 7] rfl) (hD.sub [0, 1, 2, 3, 4, 5, 6, 7] (by decide) rfl) hS ls (lv_sub hl [1, 2, 3, 0] rfl)
                                · refine lv_aload_n hx hb dX9_cheapest_220 rfl (lv_at hl 0 rfl) ?_
                                  refine va_get (D := (dC, dI)) (ci := 9) (v := .ref m43) (C := RX9) (T := TX9) (N := 47) hx hb hts hin9 hown hK hP 0 rfl rfl 43 (by decide) (hts (.fieldLink RX9 99 "YamRidersModel" "toGiver" "[I") (by decide +kernel)) (fun _ h9 => h9) rfl dX9_cheapest_221 ?_
                                  refine lv_iload_n hx hb dX9_cheapest_224 rfl (lv_at hl 2 rfl) ?_
                                  refine lv_aload_n hx hb dX9_cheapest_225 rfl (lv_at hl 0 rfl) ?_
                                  refine va_get (D := (dC, dI)) (ci := 9) (v := .ref m44) (C := RX9) (T := TX9) (N := 47) hx hb hts hin9 hown hK hP 0 rfl rfl 44 (by decide) (hts (.fieldLink RX9 102 "YamRidersModel" "toTaker" "[I") (by decide +kernel)) (fun _ h9 => h9) rfl dX9_cheapest_226 ?_
                                  refine lv_iload_n hx hb dX9_cheapest_229 rfl (lv_at hl 3 rfl) ?_
                                  refine va_iald hx hb hK hP 5 4 rfl rfl (vp_in_nI hlt_j (by decide)) dX9_cheapest_230 ?_
                                  refine lv_topi (fun v_15 ev_15 => ?_)
                                  obtain rfl : v_15 = f_tt6 j := ev_15.trans (by rw [(nI_clamp (by omega))])
                                  refine lv_aload_n hx hb dX9_cheapest_231 rfl (lv_at hl 0 rfl) ?_
                                  refine va_get (D := (dC, dI)) (ci := 9) (v := .ref m40) (C := RX9) (T := TX9) (N := 47) hx hb hts hin9 hown hK hP 0 rfl rfl 40 (by decide) (hts (.fieldLink RX9 90 "YamRidersModel" "cost" "[I") (by decide +kernel)) (fun _ h9 => h9) rfl dX9_cheapest_232 ?_
                                  refine lv_bipush (v := 12) hx hb dX9_cheapest_235 (by decide) ?_
                                  refine lv_iload_n hx hb dX9_cheapest_237 rfl (lv_at hl 2 rfl) ?_
                                  refine lv_imul hx hb dX9_cheapest_238 ?_
                                  refine lv_iload_n hx hb dX9_cheapest_239 rfl (lv_at hl 3 rfl) ?_
                                  refine lv_iadd hx hb dX9_cheapest_240 ?_
                                  refine va_iald hx hb hK hP 1 0 rfl rfl (ixN (u := k) (v := j) (by omega) (by decide)) dX9_cheapest_241 ?_
                                  refine lv_topi (fun v_16 ev_16 => ?_)
                                  obtain rfl : v_16 = a_cost (12 * k + j) := ev_16.trans (by rw [(ixc (by omega) (by omega))])
                                  refine lv_isub hx hb dX9_cheapest_242 ?_
                                  refine va_iast hx hb hK hP hD hS 4 3 rfl rfl (vp_in_nI hlt (by decide)) dX9_cheapest_243 (fun H locs hP hD hS => ?_)
                                  have hP : va_P (dC, dI) vwCl [(h0, .inr (9, [.int i_thrown, .ref m1, .int i_length, .int i_size, .int i_p, .ref m5, .ref m6, .ref m7, .int i_token, .int i_at, .int i_number, .int i_fault, .int i_faultAt, .int i_hour, .long i_word, .ref m15, .ref m16, .ref m17, .ref m18, .ref m19, .ref m20, .int i_horses, .ref m22, .ref m23, .ref m24, .ref m25, .ref m26, .ref m27, .ref m28, .ref m29, .ref m30, .ref m31, .ref m32, .ref m33, .ref m34, .int i_tablets, .int i_riders, .ref m37, .ref m38, .ref m39, .ref m40, .ref m41, .ref m42, .ref m43, .ref m44, .ref m45, .ref m46])), (m40, .inl (k_cost, 144, .inl a_cost)), (m39, .inl (k_led, 144, .inl a_led)), (m41, .inl (k_left, 12, .inl a_left)), (m43, .inl (k_toGiver, 12, .inl (upd f_tg6 (nI k).toNatClampNeg ((f_tt6 j) - (a_cost (12 * k + j)))))), (m44, .inl (k_toTaker, 12, .inl f_tt6)), (m45, .inl (k_giverBy, 12, .inl f_gb6)), (m46, .inl (k_takerBy, 12, .inl f_tb6))] H := hP
                                  have hD : va_D A [(h0, .inr (9, [.int i_thrown, .ref m1, .int i_length, .int i_size, .int i_p, .ref m5, .ref m6, .ref m7, .int i_token, .int i_at, .int i_number, .int i_fault, .int i_faultAt, .int i_hour, .long i_word, .ref m15, .ref m16, .ref m17, .ref m18, .ref m19, .ref m20, .int i_horses, .ref m22, .ref m23, .ref m24, .ref m25, .ref m26, .ref m27, .ref m28, .ref m29, .ref m30, .ref m31, .ref m32, .ref m33, .ref m34, .int i_tablets, .int i_riders, .ref m37, .ref m38, .ref m39, .ref m40, .ref m41, .ref m42, .ref m43, .ref m44, .ref m45, .ref m46])), (m40, .inl (k_cost, 144, .inl a_cost)), (m39, .inl (k_led, 144, .inl a_led)), (m41, .inl (k_left, 12, .inl a_left)), (m43, .inl (k_toGiver, 12, .inl (upd f_tg6 (nI k).toNatClampNeg ((f_tt6 j) - (a_cost (12 * k + j)))))), (m44, .inl (k_toTaker, 12, .inl f_tt6)), (m45, .inl (k_giverBy, 12, .inl f_gb6)), (m46, .inl (k_takerBy, 12, .inl f_tb6))] := hD
                                  obtain ⟨f_17, ef_17⟩ : ∃ w9 : Nat → Int32, w9 = upd f_tg6 (nI k).toNatClampNeg ((f_tt6 j) - (a_cost (12 * k + j))) := ⟨_, rfl⟩
                                  rw [← ef_17] at hP hD
                                  rw [(nI_clamp (by omega))] at ef_17
                                  refine lv_aload_n hx hb dX9_cheapest_244 rfl (lv_at hl 0 rfl) ?_
                                  refine va_get (D := (dC, dI)) (ci := 9) (v := .ref m45) (C := RX9) (T := TX9) (N := 47) hx hb hts hin9 hown hK hP 0 rfl rfl 45 (by decide) (hts (.fieldLink RX9 105 "YamRidersModel" "giverBy" "[I") (by decide +kernel)) (fun _ h9 => h9) rfl dX9_cheapest_245 ?_
                                  refine lv_iload_n hx hb dX9_cheapest_248 rfl (lv_at hl 2 rfl) ?_
                                  refine lv_iload_n hx hb dX9_cheapest_249 rfl (lv_at hl 3 rfl) ?_
                                  refine va_iast hx hb hK hP hD hS 6 5 rfl rfl (vp_in_nI hlt (by decide)) dX9_cheapest_250 (fun H locs hP hD hS => ?_)
                                  have hP : va_P (dC, dI) vwCl [(h0, .inr (9, [.int i_thrown, .ref m1, .int i_length, .int i_size, .int i_p, .ref m5, .ref m6, .ref m7, .int i_token, .int i_at, .int i_number, .int i_fault, .int i_faultAt, .int i_hour, .long i_word, .ref m15, .ref m16, .ref m17, .ref m18, .ref m19, .ref m20, .int i_horses, .ref m22, .ref m23, .ref m24, .ref m25, .ref m26, .ref m27, .ref m28, .ref m29, .ref m30, .ref m31, .ref m32, .ref m33, .ref m34, .int i_tablets, .int i_riders, .ref m37, .ref m38, .ref m39, .ref m40, .ref m41, .ref m42, .ref m43, .ref m44, .ref m45, .ref m46])), (m40, .inl (k_cost, 144, .inl a_cost)), (m39, .inl (k_led, 144, .inl a_led)), (m41, .inl (k_left, 12, .inl a_left)), (m43, .inl (k_toGiver, 12, .inl f_17)), (m44, .inl (k_toTaker, 12, .inl f_tt6)), (m45, .inl (k_giverBy, 12, .inl (upd f_gb6 (nI k).toNatClampNeg (nI j)))), (m46, .inl (k_takerBy, 12, .inl f_tb6))] H := hP
                                  have hD : va_D A [(h0, .inr (9, [.int i_thrown, .ref m1, .int i_length, .int i_size, .int i_p, .ref m5, .ref m6, .ref m7, .int i_token, .int i_at, .int i_number, .int i_fault, .int i_faultAt, .int i_hour, .long i_word, .ref m15, .ref m16, .ref m17, .ref m18, .ref m19, .ref m20, .int i_horses, .ref m22, .ref m23, .ref m24, .ref m25, .ref m26, .ref m27, .ref m28, .ref m29, .ref m30, .ref m31, .ref m32, .ref m33, .ref m34, .int i_tablets, .int i_riders, .ref m37, .ref m38, .ref m39, .ref m40, .ref m41, .ref m42, .ref m43, .ref m44, .ref m45, .ref m46])), (m40, .inl (k_cost, 144, .inl a_cost)), (m39, .inl (k_led, 144, .inl a_led)), (m41, .inl (k_left, 12, .inl a_left)), (m43, .inl (k_toGiver, 12, .inl f_17)), (m44, .inl (k_toTaker, 12, .inl f_tt6)), (m45, .inl (k_giverBy, 12, .inl (upd f_gb6 (nI k).toNatClampNeg (nI j)))), (m46, .inl (k_takerBy, 12, .inl f_tb6))] := hD
                                  obtain ⟨f_18, ef_18⟩ : ∃ w9 : Nat → Int32, w9 = upd f_gb6 (nI k).toNatClampNeg (nI j) := ⟨_, rfl⟩
                                  rw [← ef_18] at hP hD
                                  rw [(nI_clamp (by omega))] at ef_18
                                  refine lv_iconst (v := 1) hx hb dX9_cheapest_251 (by decide) ?_
                                  refine lv_istore_n (lv' := [(1, .int 1), (0, .ref h0), (2, .int (nI k)), (3, .int (nI j))]) hx hb dX9_cheapest_252 rfl hl (by decide) rfl (fun ls hl => ?_)
                                  refine lv_iinc (v := nI (j + 1)) (lv' := [(3, .int (nI (j + 1))), (1, .int 1), (0, .ref h0), (2, .int (nI k))]) hx hb dX9_cheapest_253 hl (k := 3) rfl (by exact (nI_1 j)) (by decide) rfl (fun ls hl => ?_)
                                  refine lv_goto (tgt := 75) hx hb dX9_cheapest_256 (by decide) ?_
                                  exact ih_j (j + 1) f_17 f_tt6 f_18 f_tb6 1 (by omega) (by omega) (by rw [ef_17, ef_18]; exact (UG hCs hPO hC5 (by omega) (by omega) c_8 c_10 c_14 hD5).1) (by rw [ef_17]; exact (UG hCs hPO hC5 (by omega) (by omega) c_8 c_10 c_14 hD5).2) _ _ (hP.sub [0, 1, 2, 3, 4, 5, 6, 7] rfl) (hD.sub [0, 1, 2, 3, 4, 5, 6, 7] (by decide) rfl) hS ls (lv_sub hl [2, 1, 3, 0] rfl)
                          · refine lv_aload_n hx hb dX9_cheapest_92 rfl (lv_at hl 0 rfl) ?_
                            refine va_get (D := (dC, dI)) (ci := 9) (v := .ref m40) (C := RX9) (T := TX9) (N := 47) hx hb hts hin9 hown hK hP 0 rfl rfl 40 (by decide) (hts (.fieldLink RX9 90 "YamRidersModel" "cost" "[I") (by decide +kernel)) (fun _ h9 => h9) rfl dX9_cheapest_93 ?_
                            refine lv_bipush (v := 12) hx hb dX9_cheapest_96 (by decide) ?_
                            refine lv_iload_n hx hb dX9_cheapest_98 rfl (lv_at hl 2 rfl) ?_
                            refine lv_imul hx hb dX9_cheapest_99 ?_
                            refine lv_iload_n hx hb dX9_cheapest_100 rfl (lv_at hl 3 rfl) ?_
                            refine lv_iadd hx hb dX9_cheapest_101 ?_
                            refine va_iald hx hb hK hP 1 0 rfl rfl (ixN (u := k) (v := j) (by omega) (by decide)) dX9_cheapest_102 ?_
                            refine lv_topi (fun v_19 ev_19 => ?_)
                            obtain rfl : v_19 = a_cost (12 * k + j) := ev_19.trans (by rw [(ixc (by omega) (by omega))])
                            refine lv_ldc (v := 1000000) hx hb hown (hts (.constant RX9 194 (1000000)) (by decide +kernel)) dX9_cheapest_103 ?_
                            refine lv_icmp_ge (tgt := 168) hx hb dX9_cheapest_105 (by decide) (fun c_20 => ?_) (fun c_20 => ?_)
                            · have hD5 := ID_a hI6 (FC1_2 c_20)
                              have hC5 := hC6
                              refine lv_aload_n hx hb dX9_cheapest_168 rfl (lv_at hl 0 rfl) ?_
                              refine va_get (D := (dC, dI)) (ci := 9) (v := .ref m39) (C := RX9) (T := TX9) (N := 47) hx hb hts hin9 hown hK hP 0 rfl rfl 39 (by decide) (hts (.fieldLink RX9 87 "YamRidersModel" "led" "[I") (by decide +kernel)) (fun _ h9 => h9) rfl dX9_cheapest_169 ?_
                              refine lv_bipush (v := 12) hx hb dX9_cheapest_172 (by decide) ?_
                              refine lv_iload_n hx hb dX9_cheapest_174 rfl (lv_at hl 2 rfl) ?_
                              refine lv_imul hx hb dX9_cheapest_175 ?_
                              refine lv_iload_n hx hb dX9_cheapest_176 rfl (lv_at hl 3 rfl) ?_
                              refine lv_iadd hx hb dX9_cheapest_177 ?_
                              refine va_iald hx hb hK hP 2 1 rfl rfl (ixN (u := k) (v := j) (by omega) (by decide)) dX9_cheapest_178 ?_
                              refine lv_topi (fun v_21 ev_21 => ?_)
                              obtain rfl : v_21 = a_led (12 * k + j) := ev_21.trans (by rw [(ixc (by omega) (by omega))])
                              refine lv_if_le (tgt := 253) hx hb dX9_cheapest_179 (by decide) (fun c_22 => ?_) (fun c_22 => ?_)
                              · refine lv_iinc (v := nI (j + 1)) (lv' := [(3, .int (nI (j + 1))), (0, .ref h0), (1, .int mo6), (2, .int (nI k))]) hx hb dX9_cheapest_253 hl (k := 3) rfl (by exact (nI_1 j)) (by decide) rfl (fun ls hl => ?_)
                                refine lv_goto (tgt := 75) hx hb dX9_cheapest_256 (by decide) ?_
                                exact ih_j (j + 1) f_tg6 f_tt6 f_gb6 f_tb6 mo6 (by omega) (by omega) hC5 (IC_a hD5 (FC2_1 c_22)) _ _ (hP.sub [0, 1, 2, 3, 4, 5, 6, 7] rfl) (hD.sub [0, 1, 2, 3, 4, 5, 6, 7] (by decide) rfl) hS ls (lv_sub hl [1, 2, 3, 0] rfl)
                              · refine lv_aload_n hx hb dX9_cheapest_182 rfl (lv_at hl 0 rfl) ?_
                                refine va_get (D := (dC, dI)) (ci := 9) (v := .ref m44) (C := RX9) (T := TX9) (N := 47) hx hb hts hin9 hown hK hP 0 rfl rfl 44 (by decide) (hts (.fieldLink RX9 102 "YamRidersModel" "toTaker" "[I") (by decide +kernel)) (fun _ h9 => h9) rfl dX9_cheapest_183 ?_
                                refine lv_iload_n hx hb dX9_cheapest_186 rfl (lv_at hl 3 rfl) ?_
                                refine va_iald hx hb hK hP 5 4 rfl rfl (vp_in_nI hlt_j (by decide)) dX9_cheapest_187 ?_
                                refine lv_topi (fun v_23 ev_23 => ?_)
                                obtain rfl : v_23 = f_tt6 j := ev_23.trans (by rw [(nI_clamp (by omega))])
                                refine lv_ldc (v := 1000000) hx hb hown (hts (.constant RX9 194 (1000000)) (by decide +kernel)) dX9_cheapest_188 ?_
                                refine lv_icmp_ge (tgt := 253) hx hb dX9_cheapest_190 (by decide) (fun c_24 => ?_) (fun c_24 => ?_)
                                · refine lv_iinc (v := nI (j + 1)) (lv' := [(3, .int (nI (j + 1))), (0, .ref h0), (1, .int mo6), (2, .int (nI k))]) hx hb dX9_cheapest_253 hl (k := 3) rfl (by exact (nI_1 j)) (by decide) rfl (fun ls hl => ?_)
                                  refine lv_goto (tgt := 75) hx hb dX9_cheapest_256 (by decide) ?_
                                  exact ih_j (j + 1) f_tg6 f_tt6 f_gb6 f_tb6 mo6 (by omega) (by omega) hC5 (IC_a hD5 (FC2_2 c_24)) _ _ (hP.sub [0, 1, 2, 3, 4, 5, 6, 7] rfl) (hD.sub [0, 1, 2, 3, 4, 5, 6, 7] (by decide) rfl) hS ls (lv_sub hl [1, 2, 3, 0] rfl)
                                · refine lv_aload_n hx hb dX9_cheapest_193 rfl (lv_at hl 0 rfl) ?_
                                  refine va_get (D := (dC, dI)) (ci := 9) (v := .ref m44) (C := RX9) (T := TX9) (N := 47) hx hb hts hin9 hown hK hP 0 rfl rfl 44 (by decide) (hts (.fieldLink RX9 102 "YamRidersModel" "toTaker" "[I") (by decide +kernel)) (fun _ h9 => h9) rfl dX9_cheapest_194 ?_
                                  refine lv_iload_n hx hb dX9_cheapest_197 rfl (lv_at hl 3 rfl) ?_
                                  refine va_iald hx hb hK hP 5 4 rfl rfl (vp_in_nI hlt_j (by decide)) dX9_cheapest_198 ?_
                                  refine lv_topi (fun v_25 ev_25 => ?_)
                                  obtain rfl : v_25 = f_tt6 j := ev_25.trans (by rw [(nI_clamp (by omega))])
                                  refine lv_aload_n hx hb dX9_cheapest_199 rfl (lv_at hl 0 rfl) ?_
                                  refine va_get (D := (dC, dI)) (ci := 9) (v := .ref m40) (C := RX9) (T := TX9) (N := 47) hx hb hts hin9 hown hK hP 0 rfl rfl 40 (by decide) (hts (.fieldLink RX9 90 "YamRidersModel" "cost" "[I") (by decide +kernel)) (fun _ h9 => h9) rfl dX9_cheapest_200 ?_
                                  refine lv_bipush (v := 12) hx hb dX9_cheapest_203 (by decide) ?_
                                  refine lv_iload_n hx hb dX9_cheapest_205 rfl (lv_at hl 2 rfl) ?_
                                  refine lv_imul hx hb dX9_cheapest_206 ?_
                                  refine lv_iload_n hx hb dX9_cheapest_207 rfl (lv_at hl 3 rfl) ?_
                                  refine lv_iadd hx hb dX9_cheapest_208 ?_
                                  refine va_iald hx hb hK hP 1 0 rfl rfl (ixN (u := k) (v := j) (by omega) (by decide)) dX9_cheapest_209 ?_
                                  refine lv_topi (fun v_26 ev_26 => ?_)
                                  obtain rfl : v_26 = a_cost (12 * k + j) := ev_26.trans (by rw [(ixc (by omega) (by omega))])
                                  refine lv_isub hx hb dX9_cheapest_210 ?_
                                  refine lv_aload_n hx hb dX9_cheapest_211 rfl (lv_at hl 0 rfl) ?_
                                  refine va_get (D := (dC, dI)) (ci := 9) (v := .ref m43) (C := RX9) (T := TX9) (N := 47) hx hb hts hin9 hown hK hP 0 rfl rfl 43 (by decide) (hts (.fieldLink RX9 99 "YamRidersModel" "toGiver" "[I") (by decide +kernel)) (fun _ h9 => h9) rfl dX9_cheapest_212 ?_
                                  refine lv_iload_n hx hb dX9_cheapest_215 rfl (lv_at hl 2 rfl) ?_
                                  refine va_iald hx hb hK hP 4 3 rfl rfl (vp_in_nI hlt (by decide)) dX9_cheapest_216 ?_
                                  refine lv_topi (fun v_27 ev_27 => ?_)
                                  obtain rfl : v_27 = f_tg6 k := ev_27.trans (by rw [(nI_clamp (by omega))])
                                  refine lv_icmp_ge (tgt := 253) hx hb dX9_cheapest_217 (by decide) (fun c_28 => ?_) (fun c_28 => ?_)
                                  · refine lv_iinc (v := nI (j + 1)) (lv' := [(3, .int (nI (j + 1))), (0, .ref h0), (1, .int mo6), (2, .int (nI k))]) hx hb dX9_cheapest_253 hl (k := 3) rfl (by exact (nI_1 j)) (by decide) rfl (fun ls hl => ?_)
                                    refine lv_goto (tgt := 75) hx hb dX9_cheapest_256 (by decide) ?_
                                    exact ih_j (j + 1) f_tg6 f_tt6 f_gb6 f_tb6 mo6 (by omega) (by omega) hC5 (IC_a hD5 (FC2_3 hCs hPO hC5 (by omega) (by omega) c_28)) _ _ (hP.sub [0, 1, 2, 3, 4, 5, 6, 7] rfl) (hD.sub [0, 1, 2, 3, 4, 5, 6, 7] (by decide) rfl) hS ls (lv_sub hl [1, 2, 3, 0] rfl)
                                  · refine lv_aload_n hx hb dX9_cheapest_220 rfl (lv_at hl 0 rfl) ?_
                                    refine va_get (D := (dC, dI)) (ci := 9) (v := .ref m43) (C := RX9) (T := TX9) (N := 47) hx hb hts hin9 hown hK hP 0 rfl rfl 43 (by decide) (hts (.fieldLink RX9 99 "YamRidersModel" "toGiver" "[I") (by decide +kernel)) (fun _ h9 => h9) rfl dX9_cheapest_221 ?_
                                    refine lv_iload_n hx hb dX9_cheapest_224 rfl (lv_at hl 2 rfl) ?_
                                    refine lv_aload_n hx hb dX9_cheapest_225 rfl (lv_at hl 0 rfl) ?_
                                    refine va_get (D := (dC, dI)) (ci := 9) (v := .ref m44) (C := RX9) (T := TX9) (N := 47) hx hb hts hin9 hown hK hP 0 rfl rfl 44 (by decide) (hts (.fieldLink RX9 102 "YamRidersModel" "toTaker" "[I") (by decide +kernel)) (fun _ h9 => h9) rfl dX9_cheapest_226 ?_
                                    refine lv_iload_n hx hb dX9_cheapest_229 rfl (lv_at hl 3 rfl) ?_
                                    refine va_iald hx hb hK hP 5 4 rfl rfl (vp_in_nI hlt_j (by decide)) dX9_cheapest_230 ?_
                                    refine lv_topi (fun v_29 ev_29 => ?_)
                                    obtain rfl : v_29 = f_tt6 j := ev_29.trans (by rw [(nI_clamp (by omega))])
                                    refine lv_aload_n hx hb dX9_cheapest_231 rfl (lv_at hl 0 rfl) ?_
                                    refine va_get (D := (dC, dI)) (ci := 9) (v := .ref m40) (C := RX9) (T := TX9) (N := 47) hx hb hts hin9 hown hK hP 0 rfl rfl 40 (by decide) (hts (.fieldLink RX9 90 "YamRidersModel" "cost" "[I") (by decide +kernel)) (fun _ h9 => h9) rfl dX9_cheapest_232 ?_
                                    refine lv_bipush (v := 12) hx hb dX9_cheapest_235 (by decide) ?_
                                    refine lv_iload_n hx hb dX9_cheapest_237 rfl (lv_at hl 2 rfl) ?_
                                    refine lv_imul hx hb dX9_cheapest_238 ?_
                                    refine lv_iload_n hx hb dX9_cheapest_239 rfl (lv_at hl 3 rfl) ?_
                                    refine lv_iadd hx hb dX9_cheapest_240 ?_
                                    refine va_iald hx hb hK hP 1 0 rfl rfl (ixN (u := k) (v := j) (by omega) (by decide)) dX9_cheapest_241 ?_
                                    refine lv_topi (fun v_30 ev_30 => ?_)
                                    obtain rfl : v_30 = a_cost (12 * k + j) := ev_30.trans (by rw [(ixc (by omega) (by omega))])
                                    refine lv_isub hx hb dX9_cheapest_242 ?_
                                    refine va_iast hx hb hK hP hD hS 4 3 rfl rfl (vp_in_nI hlt (by decide)) dX9_cheapest_243 (fun H locs hP hD hS => ?_)
                                    have hP : va_P (dC, dI) vwCl [(h0, .inr (9, [.int i_thrown, .ref m1, .int i_length, .int i_size, .int i_p, .ref m5, .ref m6, .ref m7, .int i_token, .int i_at, .int i_number, .int i_fault, .int i_faultAt, .int i_hour, .long i_word, .ref m15, .ref m16, .ref m17, .ref m18, .ref m19, .ref m20, .int i_horses, .ref m22, .ref m23, .ref m24, .ref m25, .ref m26, .ref m27, .ref m28, .ref m29, .ref m30, .ref m31, .ref m32, .ref m33, .ref m34, .int i_tablets, .int i_riders, .ref m37, .ref m38, .ref m39, .ref m40, .ref m41, .ref m42, .ref m43, .ref m44, .ref m45, .ref m46])), (m40, .inl (k_cost, 144, .inl a_cost)), (m39, .inl (k_led, 144, .inl a_led)), (m41, .inl (k_left, 12, .inl a_left)), (m43, .inl (k_toGiver, 12, .inl (upd f_tg6 (nI k).toNatClampNeg ((f_tt6 j) - (a_cost (12 * k + j)))))), (m44, .inl (k_toTaker, 12, .inl f_tt6)), (m45, .inl (k_giverBy, 12, .inl f_gb6)), (m46, .inl (k_takerBy, 12, .inl f_tb6))] H := hP
                                    have hD : va_D A [(h0, .inr (9, [.int i_thrown, .ref m1, .int i_length, .int i_size, .int i_p, .ref m5, .ref m6, .ref m7, .int i_token, .int i_at, .int i_number, .int i_fault, .int i_faultAt, .int i_hour, .long i_word, .ref m15, .ref m16, .ref m17, .ref m18, .ref m19, .ref m20, .int i_horses, .ref m22, .ref m23, .ref m24, .ref m25, .ref m26, .ref m27, .ref m28, .ref m29, .ref m30, .ref m31, .ref m32, .ref m33, .ref m34, .int i_tablets, .int i_riders, .ref m37, .ref m38, .ref m39, .ref m40, .ref m41, .ref m42, .ref m43, .ref m44, .ref m45, .ref m46])), (m40, .inl (k_cost, 144, .inl a_cost)), (m39, .inl (k_led, 144, .inl a_led)), (m41, .inl (k_left, 12, .inl a_left)), (m43, .inl (k_toGiver, 12, .inl (upd f_tg6 (nI k).toNatClampNeg ((f_tt6 j) - (a_cost (12 * k + j)))))), (m44, .inl (k_toTaker, 12, .inl f_tt6)), (m45, .inl (k_giverBy, 12, .inl f_gb6)), (m46, .inl (k_takerBy, 12, .inl f_tb6))] := hD
                                    obtain ⟨f_31, ef_31⟩ : ∃ w9 : Nat → Int32, w9 = upd f_tg6 (nI k).toNatClampNeg ((f_tt6 j) - (a_cost (12 * k + j))) := ⟨_, rfl⟩
                                    rw [← ef_31] at hP hD
                                    rw [(nI_clamp (by omega))] at ef_31
                                    refine lv_aload_n hx hb dX9_cheapest_244 rfl (lv_at hl 0 rfl) ?_
                                    refine va_get (D := (dC, dI)) (ci := 9) (v := .ref m45) (C := RX9) (T := TX9) (N := 47) hx hb hts hin9 hown hK hP 0 rfl rfl 45 (by decide) (hts (.fieldLink RX9 105 "YamRidersModel" "giverBy" "[I") (by decide +kernel)) (fun _ h9 => h9) rfl dX9_cheapest_245 ?_
                                    refine lv_iload_n hx hb dX9_cheapest_248 rfl (lv_at hl 2 rfl) ?_
                                    refine lv_iload_n hx hb dX9_cheapest_249 rfl (lv_at hl 3 rfl) ?_
                                    refine va_iast hx hb hK hP hD hS 6 5 rfl rfl (vp_in_nI hlt (by decide)) dX9_cheapest_250 (fun H locs hP hD hS => ?_)
                                    have hP : va_P (dC, dI) vwCl [(h0, .inr (9, [.int i_thrown, .ref m1, .int i_length, .int i_size, .int i_p, .ref m5, .ref m6, .ref m7, .int i_token, .int i_at, .int i_number, .int i_fault, .int i_faultAt, .int i_hour, .long i_word, .ref m15, .ref m16, .ref m17, .ref m18, .ref m19, .ref m20, .int i_horses, .ref m22, .ref m23, .ref m24, .ref m25, .ref m26, .ref m27, .ref m28, .ref m29, .ref m30, .ref m31, .ref m32, .ref m33, .ref m34, .int i_tablets, .int i_riders, .ref m37, .ref m38, .ref m39, .ref m40, .ref m41, .ref m42, .ref m43, .ref m44, .ref m45, .ref m46])), (m40, .inl (k_cost, 144, .inl a_cost)), (m39, .inl (k_led, 144, .inl a_led)), (m41, .inl (k_left, 12, .inl a_left)), (m43, .inl (k_toGiver, 12, .inl f_31)), (m44, .inl (k_toTaker, 12, .inl f_tt6)), (m45, .inl (k_giverBy, 12, .inl (upd f_gb6 (nI k).toNatClampNeg (nI j)))), (m46, .inl (k_takerBy, 12, .inl f_tb6))] H := hP
                                    have hD : va_D A [(h0, .inr (9, [.int i_thrown, .ref m1, .int i_length, .int i_size, .int i_p, .ref m5, .ref m6, .ref m7, .int i_token, .int i_at, .int i_number, .int i_fault, .int i_faultAt, .int i_hour, .long i_word, .ref m15, .ref m16, .ref m17, .ref m18, .ref m19, .ref m20, .int i_horses, .ref m22, .ref m23, .ref m24, .ref m25, .ref m26, .ref m27, .ref m28, .ref m29, .ref m30, .ref m31, .ref m32, .ref m33, .ref m34, .int i_tablets, .int i_riders, .ref m37, .ref m38, .ref m39, .ref m40, .ref m41, .ref m42, .ref m43, .ref m44, .ref m45, .ref m46])), (m40, .inl (k_cost, 144, .inl a_cost)), (m39, .inl (k_led, 144, .inl a_led)), (m41, .inl (k_left, 12, .inl a_left)), (m43, .inl (k_toGiver, 12, .inl f_31)), (m44, .inl (k_toTaker, 12, .inl f_tt6)), (m45, .inl (k_giverBy, 12, .inl (upd f_gb6 (nI k).toNatClampNeg (nI j)))), (m46, .inl (k_takerBy, 12, .inl f_tb6))] := hD
                                    obtain ⟨f_32, ef_32⟩ : ∃ w9 : Nat → Int32, w9 = upd f_gb6 (nI k).toNatClampNeg (nI j) := ⟨_, rfl⟩
                                    rw [← ef_32] at hP hD
                                    rw [(nI_clamp (by omega))] at ef_32
                                    refine lv_iconst (v := 1) hx hb dX9_cheapest_251 (by decide) ?_
                                    refine lv_istore_n (lv' := [(1, .int 1), (0, .ref h0), (2, .int (nI k)), (3, .int (nI j))]) hx hb dX9_cheapest_252 rfl hl (by decide) rfl (fun ls hl => ?_)
                                    refine lv_iinc (v := nI (j + 1)) (lv' := [(3, .int (nI (j + 1))), (1, .int 1), (0, .ref h0), (2, .int (nI k))]) hx hb dX9_cheapest_253 hl (k := 3) rfl (by exact (nI_1 j)) (by decide) rfl (fun ls hl => ?_)
                                    refine lv_goto (tgt := 75) hx hb dX9_cheapest_256 (by decide) ?_
                                    exact ih_j (j + 1) f_31 f_tt6 f_32 f_tb6 1 (by omega) (by omega) (by rw [ef_31, ef_32]; exact (UG hCs hPO hC5 (by omega) (by omega) c_22 c_24 c_28 hD5).1) (by rw [ef_31]; exact (UG hCs hPO hC5 (by omega) (by omega) c_22 c_24 c_28 hD5).2) _ _ (hP.sub [0, 1, 2, 3, 4, 5, 6, 7] rfl) (hD.sub [0, 1, 2, 3, 4, 5, 6, 7] (by decide) rfl) hS ls (lv_sub hl [2, 1, 3, 0] rfl)
                            · refine lv_aload_n hx hb dX9_cheapest_108 rfl (lv_at hl 0 rfl) ?_
                              refine va_get (D := (dC, dI)) (ci := 9) (v := .ref m43) (C := RX9) (T := TX9) (N := 47) hx hb hts hin9 hown hK hP 0 rfl rfl 43 (by decide) (hts (.fieldLink RX9 99 "YamRidersModel" "toGiver" "[I") (by decide +kernel)) (fun _ h9 => h9) rfl dX9_cheapest_109 ?_
                              refine lv_iload_n hx hb dX9_cheapest_112 rfl (lv_at hl 2 rfl) ?_
                              refine va_iald hx hb hK hP 4 3 rfl rfl (vp_in_nI hlt (by decide)) dX9_cheapest_113 ?_
                              refine lv_topi (fun v_33 ev_33 => ?_)
                              obtain rfl : v_33 = f_tg6 k := ev_33.trans (by rw [(nI_clamp (by omega))])
                              refine lv_aload_n hx hb dX9_cheapest_114 rfl (lv_at hl 0 rfl) ?_
                              refine va_get (D := (dC, dI)) (ci := 9) (v := .ref m40) (C := RX9) (T := TX9) (N := 47) hx hb hts hin9 hown hK hP 0 rfl rfl 40 (by decide) (hts (.fieldLink RX9 90 "YamRidersModel" "cost" "[I") (by decide +kernel)) (fun _ h9 => h9) rfl dX9_cheapest_115 ?_
                              refine lv_bipush (v := 12) hx hb dX9_cheapest_118 (by decide) ?_
                              refine lv_iload_n hx hb dX9_cheapest_120 rfl (lv_at hl 2 rfl) ?_
                              refine lv_imul hx hb dX9_cheapest_121 ?_
                              refine lv_iload_n hx hb dX9_cheapest_122 rfl (lv_at hl 3 rfl) ?_
                              refine lv_iadd hx hb dX9_cheapest_123 ?_
                              refine va_iald hx hb hK hP 1 0 rfl rfl (ixN (u := k) (v := j) (by omega) (by decide)) dX9_cheapest_124 ?_
                              refine lv_topi (fun v_34 ev_34 => ?_)
                              obtain rfl : v_34 = a_cost (12 * k + j) := ev_34.trans (by rw [(ixc (by omega) (by omega))])
                              refine lv_iadd hx hb dX9_cheapest_125 ?_
                              refine lv_aload_n hx hb dX9_cheapest_126 rfl (lv_at hl 0 rfl) ?_
                              refine va_get (D := (dC, dI)) (ci := 9) (v := .ref m44) (C := RX9) (T := TX9) (N := 47) hx hb hts hin9 hown hK hP 0 rfl rfl 44 (by decide) (hts (.fieldLink RX9 102 "YamRidersModel" "toTaker" "[I") (by decide +kernel)) (fun _ h9 => h9) rfl dX9_cheapest_127 ?_
                              refine lv_iload_n hx hb dX9_cheapest_130 rfl (lv_at hl 3 rfl) ?_
                              refine va_iald hx hb hK hP 5 4 rfl rfl (vp_in_nI hlt_j (by decide)) dX9_cheapest_131 ?_
                              refine lv_topi (fun v_35 ev_35 => ?_)
                              obtain rfl : v_35 = f_tt6 j := ev_35.trans (by rw [(nI_clamp (by omega))])
                              refine lv_icmp_ge (tgt := 168) hx hb dX9_cheapest_132 (by decide) (fun c_36 => ?_) (fun c_36 => ?_)
                              · have hD5 := ID_a hI6 (FC1_3 hCs hPO hC6 (by omega) (by omega) c_36)
                                have hC5 := hC6
                                refine lv_aload_n hx hb dX9_cheapest_168 rfl (lv_at hl 0 rfl) ?_
                                refine va_get (D := (dC, dI)) (ci := 9) (v := .ref m39) (C := RX9) (T := TX9) (N := 47) hx hb hts hin9 hown hK hP 0 rfl rfl 39 (by decide) (hts (.fieldLink RX9 87 "YamRidersModel" "led" "[I") (by decide +kernel)) (fun _ h9 => h9) rfl dX9_cheapest_169 ?_
                                refine lv_bipush (v := 12) hx hb dX9_cheapest_172 (by decide) ?_
                                refine lv_iload_n hx hb dX9_cheapest_174 rfl (lv_at hl 2 rfl) ?_
                                refine lv_imul hx hb dX9_cheapest_175 ?_
                                refine lv_iload_n hx hb dX9_cheapest_176 rfl (lv_at hl 3 rfl) ?_
                                refine lv_iadd hx hb dX9_cheapest_177 ?_
                                refine va_iald hx hb hK hP 2 1 rfl rfl (ixN (u := k) (v := j) (by omega) (by decide)) dX9_cheapest_178 ?_
                                refine lv_topi (fun v_37 ev_37 => ?_)
                                obtain rfl : v_37 = a_led (12 * k + j) := ev_37.trans (by rw [(ixc (by omega) (by omega))])
                                refine lv_if_le (tgt := 253) hx hb dX9_cheapest_179 (by decide) (fun c_38 => ?_) (fun c_38 => ?_)
                                · refine lv_iinc (v := nI (j + 1)) (lv' := [(3, .int (nI (j + 1))), (0, .ref h0), (1, .int mo6), (2, .int (nI k))]) hx hb dX9_cheapest_253 hl (k := 3) rfl (by exact (nI_1 j)) (by decide) rfl (fun ls hl => ?_)
                                  refine lv_goto (tgt := 75) hx hb dX9_cheapest_256 (by decide) ?_
                                  exact ih_j (j + 1) f_tg6 f_tt6 f_gb6 f_tb6 mo6 (by omega) (by omega) hC5 (IC_a hD5 (FC2_1 c_38)) _ _ (hP.sub [0, 1, 2, 3, 4, 5, 6, 7] rfl) (hD.sub [0, 1, 2, 3, 4, 5, 6, 7] (by decide) rfl) hS ls (lv_sub hl [1, 2, 3, 0] rfl)
                                · refine lv_aload_n hx hb dX9_cheapest_182 rfl (lv_at hl 0 rfl) ?_
                                  refine va_get (D := (dC, dI)) (ci := 9) (v := .ref m44) (C := RX9) (T := TX9) (N := 47) hx hb hts hin9 hown hK hP 0 rfl rfl 44 (by decide) (hts (.fieldLink RX9 102 "YamRidersModel" "toTaker" "[I") (by decide +kernel)) (fun _ h9 => h9) rfl dX9_cheapest_183 ?_
                                  refine lv_iload_n hx hb dX9_cheapest_186 rfl (lv_at hl 3 rfl) ?_
                                  refine va_iald hx hb hK hP 5 4 rfl rfl (vp_in_nI hlt_j (by decide)) dX9_cheapest_187 ?_
                                  refine lv_topi (fun v_39 ev_39 => ?_)
                                  obtain rfl : v_39 = f_tt6 j := ev_39.trans (by rw [(nI_clamp (by omega))])
                                  refine lv_ldc (v := 1000000) hx hb hown (hts (.constant RX9 194 (1000000)) (by decide +kernel)) dX9_cheapest_188 ?_
                                  refine lv_icmp_ge (tgt := 253) hx hb dX9_cheapest_190 (by decide) (fun c_40 => ?_) (fun c_40 => ?_)
                                  · refine lv_iinc (v := nI (j + 1)) (lv' := [(3, .int (nI (j + 1))), (0, .ref h0), (1, .int mo6), (2, .int (nI k))]) hx hb dX9_cheapest_253 hl (k := 3) rfl (by exact (nI_1 j)) (by decide) rfl (fun ls hl => ?_)
                                    refine lv_goto (tgt := 75) hx hb dX9_cheapest_256 (by decide) ?_
                                    exact ih_j (j + 1) f_tg6 f_tt6 f_gb6 f_tb6 mo6 (by omega) (by omega) hC5 (IC_a hD5 (FC2_2 c_40)) _ _ (hP.sub [0, 1, 2, 3, 4, 5, 6, 7] rfl) (hD.sub [0, 1, 2, 3, 4, 5, 6, 7] (by decide) rfl) hS ls (lv_sub hl [1, 2, 3, 0] rfl)
                                  · refine lv_aload_n hx hb dX9_cheapest_193 rfl (lv_at hl 0 rfl) ?_
                                    refine va_get (D := (dC, dI)) (ci := 9) (v := .ref m44) (C := RX9) (T := TX9) (N := 47) hx hb hts hin9 hown hK hP 0 rfl rfl 44 (by decide) (hts (.fieldLink RX9 102 "YamRidersModel" "toTaker" "[I") (by decide +kernel)) (fun _ h9 => h9) rfl dX9_cheapest_194 ?_
                                    refine lv_iload_n hx hb dX9_cheapest_197 rfl (lv_at hl 3 rfl) ?_
                                    refine va_iald hx hb hK hP 5 4 rfl rfl (vp_in_nI hlt_j (by decide)) dX9_cheapest_198 ?_
                                    refine lv_topi (fun v_41 ev_41 => ?_)
                                    obtain rfl : v_41 = f_tt6 j := ev_41.trans (by rw [(nI_clamp (by omega))])
                                    refine lv_aload_n hx hb dX9_cheapest_199 rfl (lv_at hl 0 rfl) ?_
                                    refine va_get (D := (dC, dI)) (ci := 9) (v := .ref m40) (C := RX9) (T := TX9) (N := 47) hx hb hts hin9 hown hK hP 0 rfl rfl 40 (by decide) (hts (.fieldLink RX9 90 "YamRidersModel" "cost" "[I") (by decide +kernel)) (fun _ h9 => h9) rfl dX9_cheapest_200 ?_
                                    refine lv_bipush (v := 12) hx hb dX9_cheapest_203 (by decide) ?_
                                    refine lv_iload_n hx hb dX9_cheapest_205 rfl (lv_at hl 2 rfl) ?_
                                    refine lv_imul hx hb dX9_cheapest_206 ?_
                                    refine lv_iload_n hx hb dX9_cheapest_207 rfl (lv_at hl 3 rfl) ?_
                                    refine lv_iadd hx hb dX9_cheapest_208 ?_
                                    refine va_iald hx hb hK hP 1 0 rfl rfl (ixN (u := k) (v := j) (by omega) (by decide)) dX9_cheapest_209 ?_
                                    refine lv_topi (fun v_42 ev_42 => ?_)
                                    obtain rfl : v_42 = a_cost (12 * k + j) := ev_42.trans (by rw [(ixc (by omega) (by omega))])
                                    refine lv_isub hx hb dX9_cheapest_210 ?_
                                    refine lv_aload_n hx hb dX9_cheapest_211 rfl (lv_at hl 0 rfl) ?_
                                    refine va_get (D := (dC, dI)) (ci := 9) (v := .ref m43) (C := RX9) (T := TX9) (N := 47) hx hb hts hin9 hown hK hP 0 rfl rfl 43 (by decide) (hts (.fieldLink RX9 99 "YamRidersModel" "toGiver" "[I") (by decide +kernel)) (fun _ h9 => h9) rfl dX9_cheapest_212 ?_
                                    refine lv_iload_n hx hb dX9_cheapest_215 rfl (lv_at hl 2 rfl) ?_
                                    refine va_iald hx hb hK hP 4 3 rfl rfl (vp_in_nI hlt (by decide)) dX9_cheapest_216 ?_
                                    refine lv_topi (fun v_43 ev_43 => ?_)
                                    obtain rfl : v_43 = f_tg6 k := ev_43.trans (by rw [(nI_clamp (by omega))])
                                    refine lv_icmp_ge (tgt := 253) hx hb dX9_cheapest_217 (by decide) (fun c_44 => ?_) (fun c_44 => ?_)
                                    · refine lv_iinc (v := nI (j + 1)) (lv' := [(3, .int (nI (j + 1))), (0, .ref h0), (1, .int mo6), (2, .int (nI k))]) hx hb dX9_cheapest_253 hl (k := 3) rfl (by exact (nI_1 j)) (by decide) rfl (fun ls hl => ?_)
                                      refine lv_goto (tgt := 75) hx hb dX9_cheapest_256 (by decide) ?_
                                      exact ih_j (j + 1) f_tg6 f_tt6 f_gb6 f_tb6 mo6 (by omega) (by omega) hC5 (IC_a hD5 (FC2_3 hCs hPO hC5 (by omega) (by omega) c_44)) _ _ (hP.sub [0, 1, 2, 3, 4, 5, 6, 7] rfl) (hD.sub [0, 1, 2, 3, 4, 5, 6, 7] (by decide) rfl) hS ls (lv_sub hl [1, 2, 3, 0] rfl)
                                    · refine lv_aload_n hx hb dX9_cheapest_220 rfl (lv_at hl 0 rfl) ?_
                                      refine va_get (D := (dC, dI)) (ci := 9) (v := .ref m43) (C := RX9) (T := TX9) (N := 47) hx hb hts hin9 hown hK hP 0 rfl rfl 43 (by decide) (hts (.fieldLink RX9 99 "YamRidersModel" "toGiver" "[I") (by decide +kernel)) (fun _ h9 => h9) rfl dX9_cheapest_221 ?_
                                      refine lv_iload_n hx hb dX9_cheapest_224 rfl (lv_at hl 2 rfl) ?_
                                      refine lv_aload_n hx hb dX9_cheapest_225 rfl (lv_at hl 0 rfl) ?_
                                      refine va_get (D := (dC, dI)) (ci := 9) (v := .ref m44) (C := RX9) (T := TX9) (N := 47) hx hb hts hin9 hown hK hP 0 rfl rfl 44 (by decide) (hts (.fieldLink RX9 102 "YamRidersModel" "toTaker" "[I") (by decide +kernel)) (fun _ h9 => h9) rfl dX9_cheapest_226 ?_
                                      refine lv_iload_n hx hb dX9_cheapest_229 rfl (lv_at hl 3 rfl) ?_
                                      refine va_iald hx hb hK hP 5 4 rfl rfl (vp_in_nI hlt_j (by decide)) dX9_cheapest_230 ?_
                                      refine lv_topi (fun v_45 ev_45 => ?_)
                                      obtain rfl : v_45 = f_tt6 j := ev_45.trans (by rw [(nI_clamp (by omega))])
                                      refine lv_aload_n hx hb dX9_cheapest_231 rfl (lv_at hl 0 rfl) ?_
                                      refine va_get (D := (dC, dI)) (ci := 9) (v := .ref m40) (C := RX9) (T := TX9) (N := 47) hx hb hts hin9 hown hK hP 0 rfl rfl 40 (by decide) (hts (.fieldLink RX9 90 "YamRidersModel" "cost" "[I") (by decide +kernel)) (fun _ h9 => h9) rfl dX9_cheapest_232 ?_
                                      refine lv_bipush (v := 12) hx hb dX9_cheapest_235 (by decide) ?_
                                      refine lv_iload_n hx hb dX9_cheapest_237 rfl (lv_at hl 2 rfl) ?_
                                      refine lv_imul hx hb dX9_cheapest_238 ?_
                                      refine lv_iload_n hx hb dX9_cheapest_239 rfl (lv_at hl 3 rfl) ?_
                                      refine lv_iadd hx hb dX9_cheapest_240 ?_
                                      refine va_iald hx hb hK hP 1 0 rfl rfl (ixN (u := k) (v := j) (by omega) (by decide)) dX9_cheapest_241 ?_
                                      refine lv_topi (fun v_46 ev_46 => ?_)
                                      obtain rfl : v_46 = a_cost (12 * k + j) := ev_46.trans (by rw [(ixc (by omega) (by omega))])
                                      refine lv_isub hx hb dX9_cheapest_242 ?_
                                      refine va_iast hx hb hK hP hD hS 4 3 rfl rfl (vp_in_nI hlt (by decide)) dX9_cheapest_243 (fun H locs hP hD hS => ?_)
                                      have hP : va_P (dC, dI) vwCl [(h0, .inr (9, [.int i_thrown, .ref m1, .int i_length, .int i_size, .int i_p, .ref m5, .ref m6, .ref m7, .int i_token, .int i_at, .int i_number, .int i_fault, .int i_faultAt, .int i_hour, .long i_word, .ref m15, .ref m16, .ref m17, .ref m18, .ref m19, .ref m20, .int i_horses, .ref m22, .ref m23, .ref m24, .ref m25, .ref m26, .ref m27, .ref m28, .ref m29, .ref m30, .ref m31, .ref m32, .ref m33, .ref m34, .int i_tablets, .int i_riders, .ref m37, .ref m38, .ref m39, .ref m40, .ref m41, .ref m42, .ref m43, .ref m44, .ref m45, .ref m46])), (m40, .inl (k_cost, 144, .inl a_cost)), (m39, .inl (k_led, 144, .inl a_led)), (m41, .inl (k_left, 12, .inl a_left)), (m43, .inl (k_toGiver, 12, .inl (upd f_tg6 (nI k).toNatClampNeg ((f_tt6 j) - (a_cost (12 * k + j)))))), (m44, .inl (k_toTaker, 12, .inl f_tt6)), (m45, .inl (k_giverBy, 12, .inl f_gb6)), (m46, .inl (k_takerBy, 12, .inl f_tb6))] H := hP
                                      have hD : va_D A [(h0, .inr (9, [.int i_thrown, .ref m1, .int i_length, .int i_size, .int i_p, .ref m5, .ref m6, .ref m7, .int i_token, .int i_at, .int i_number, .int i_fault, .int i_faultAt, .int i_hour, .long i_word, .ref m15, .ref m16, .ref m17, .ref m18, .ref m19, .ref m20, .int i_horses, .ref m22, .ref m23, .ref m24, .ref m25, .ref m26, .ref m27, .ref m28, .ref m29, .ref m30, .ref m31, .ref m32, .ref m33, .ref m34, .int i_tablets, .int i_riders, .ref m37, .ref m38, .ref m39, .ref m40, .ref m41, .ref m42, .ref m43, .ref m44, .ref m45, .ref m46])), (m40, .inl (k_cost, 144, .inl a_cost)), (m39, .inl (k_led, 144, .inl a_led)), (m41, .inl (k_left, 12, .inl a_left)), (m43, .inl (k_toGiver, 12, .inl (upd f_tg6 (nI k).toNatClampNeg ((f_tt6 j) - (a_cost (12 * k + j)))))), (m44, .inl (k_toTaker, 12, .inl f_tt6)), (m45, .inl (k_giverBy, 12, .inl f_gb6)), (m46, .inl (k_takerBy, 12, .inl f_tb6))] := hD
                                      obtain ⟨f_47, ef_47⟩ : ∃ w9 : Nat → Int32, w9 = upd f_tg6 (nI k).toNatClampNeg ((f_tt6 j) - (a_cost (12 * k + j))) := ⟨_, rfl⟩
                                      rw [← ef_47] at hP hD
                                      rw [(nI_clamp (by omega))] at ef_47
                                      refine lv_aload_n hx hb dX9_cheapest_244 rfl (lv_at hl 0 rfl) ?_
                                      refine va_get (D := (dC, dI)) (ci := 9) (v := .ref m45) (C := RX9) (T := TX9) (N := 47) hx hb hts hin9 hown hK hP 0 rfl rfl 45 (by decide) (hts (.fieldLink RX9 105 "YamRidersModel" "giverBy" "[I") (by decide +kernel)) (fun _ h9 => h9) rfl dX9_cheapest_245 ?_
                                      refine lv_iload_n hx hb dX9_cheapest_248 rfl (lv_at hl 2 rfl) ?_
                                      refine lv_iload_n hx hb dX9_cheapest_249 rfl (lv_at hl 3 rfl) ?_
                                      refine va_iast hx hb hK hP hD hS 6 5 rfl rfl (vp_in_nI hlt (by decide)) dX9_cheapest_250 (fun H locs hP hD hS => ?_)
                                      have hP : va_P (dC, dI) vwCl [(h0, .inr (9, [.int i_thrown, .ref m1, .int i_length, .int i_size, .int i_p, .ref m5, .ref m6, .ref m7, .int i_token, .int i_at, .int i_number, .int i_fault, .int i_faultAt, .int i_hour, .long i_word, .ref m15, .ref m16, .ref m17, .ref m18, .ref m19, .ref m20, .int i_horses, .ref m22, .ref m23, .ref m24, .ref m25, .ref m26, .ref m27, .ref m28, .ref m29, .ref m30, .ref m31, .ref m32, .ref m33, .ref m34, .int i_tablets, .int i_riders, .ref m37, .ref m38, .ref m39, .ref m40, .ref m41, .ref m42, .ref m43, .ref m44, .ref m45, .ref m46])), (m40, .inl (k_cost, 144, .inl a_cost)), (m39, .inl (k_led, 144, .inl a_led)), (m41, .inl (k_left, 12, .inl a_left)), (m43, .inl (k_toGiver, 12, .inl f_47)), (m44, .inl (k_toTaker, 12, .inl f_tt6)), (m45, .inl (k_giverBy, 12, .inl (upd f_gb6 (nI k).toNatClampNeg (nI j)))), (m46, .inl (k_takerBy, 12, .inl f_tb6))] H := hP
                                      have hD : va_D A [(h0, .inr (9, [.int i_thrown, .ref m1, .int i_length, .int i_size, .int i_p, .ref m5, .ref m6, .ref m7, .int i_token, .int i_at, .int i_number, .int i_fault, .int i_faultAt, .int i_hour, .long i_word, .ref m15, .ref m16, .ref m17, .ref m18, .ref m19, .ref m20, .int i_horses, .ref m22, .ref m23, .ref m24, .ref m25, .ref m26, .ref m27, .ref m28, .ref m29, .ref m30, .ref m31, .ref m32, .ref m33, .ref m34, .int i_tablets, .int i_riders, .ref m37, .ref m38, .ref m39, .ref m40, .ref m41, .ref m42, .ref m43, .ref m44, .ref m45, .ref m46])), (m40, .inl (k_cost, 144, .inl a_cost)), (m39, .inl (k_led, 144, .inl a_led)), (m41, .inl (k_left, 12, .inl a_left)), (m43, .inl (k_toGiver, 12, .inl f_47)), (m44, .inl (k_toTaker, 12, .inl f_tt6)), (m45, .inl (k_giverBy, 12, .inl (upd f_gb6 (nI k).toNatClampNeg (nI j)))), (m46, .inl (k_takerBy, 12, .inl f_tb6))] := hD
                                      obtain ⟨f_48, ef_48⟩ : ∃ w9 : Nat → Int32, w9 = upd f_gb6 (nI k).toNatClampNeg (nI j) := ⟨_, rfl⟩
                                      rw [← ef_48] at hP hD
                                      rw [(nI_clamp (by omega))] at ef_48
                                      refine lv_iconst (v := 1) hx hb dX9_cheapest_251 (by decide) ?_
                                      refine lv_istore_n (lv' := [(1, .int 1), (0, .ref h0), (2, .int (nI k)), (3, .int (nI j))]) hx hb dX9_cheapest_252 rfl hl (by decide) rfl (fun ls hl => ?_)
                                      refine lv_iinc (v := nI (j + 1)) (lv' := [(3, .int (nI (j + 1))), (1, .int 1), (0, .ref h0), (2, .int (nI k))]) hx hb dX9_cheapest_253 hl (k := 3) rfl (by exact (nI_1 j)) (by decide) rfl (fun ls hl => ?_)
                                      refine lv_goto (tgt := 75) hx hb dX9_cheapest_256 (by decide) ?_
                                      exact ih_j (j + 1) f_47 f_tt6 f_48 f_tb6 1 (by omega) (by omega) (by rw [ef_47, ef_48]; exact (UG hCs hPO hC5 (by omega) (by omega) c_38 c_40 c_44 hD5).1) (by rw [ef_47]; exact (UG hCs hPO hC5 (by omega) (by omega) c_38 c_40 c_44 hD5).2) _ _ (hP.sub [0, 1, 2, 3, 4, 5, 6, 7] rfl) (hD.sub [0, 1, 2, 3, 4, 5, 6, 7] (by decide) rfl) hS ls (lv_sub hl [2, 1, 3, 0] rfl)
                              · refine lv_aload_n hx hb dX9_cheapest_135 rfl (lv_at hl 0 rfl) ?_
                                refine va_get (D := (dC, dI)) (ci := 9) (v := .ref m44) (C := RX9) (T := TX9) (N := 47) hx hb hts hin9 hown hK hP 0 rfl rfl 44 (by decide) (hts (.fieldLink RX9 102 "YamRidersModel" "toTaker" "[I") (by decide +kernel)) (fun _ h9 => h9) rfl dX9_cheapest_136 ?_
                                refine lv_iload_n hx hb dX9_cheapest_139 rfl (lv_at hl 3 rfl) ?_
                                refine lv_aload_n hx hb dX9_cheapest_140 rfl (lv_at hl 0 rfl) ?_
                                refine va_get (D := (dC, dI)) (ci := 9) (v := .ref m43) (C := RX9) (T := TX9) (N := 47) hx hb hts hin9 hown hK hP 0 rfl rfl 43 (by decide) (hts (.fieldLink RX9 99 "YamRidersModel" "toGiver" "[I") (by decide +kernel)) (fun _ h9 => h9) rfl dX9_cheapest_141 ?_
                                refine lv_iload_n hx hb dX9_cheapest_144 rfl (lv_at hl 2 rfl) ?_
                                refine va_iald hx hb hK hP 4 3 rfl rfl (vp_in_nI hlt (by decide)) dX9_cheapest_145 ?_
                                refine lv_topi (fun v_49 ev_49 => ?_)
                                obtain rfl : v_49 = f_tg6 k := ev_49.trans (by rw [(nI_clamp (by omega))])
                                refine lv_aload_n hx hb dX9_cheapest_146 rfl (lv_at hl 0 rfl) ?_
                                refine va_get (D := (dC, dI)) (ci := 9) (v := .ref m40) (C := RX9) (T := TX9) (N := 47) hx hb hts hin9 hown hK hP 0 rfl rfl 40 (by decide) (hts (.fieldLink RX9 90 "YamRidersModel" "cost" "[I") (by decide +kernel)) (fun _ h9 => h9) rfl dX9_cheapest_147 ?_
                                refine lv_bipush (v := 12) hx hb dX9_cheapest_150 (by decide) ?_
                                refine lv_iload_n hx hb dX9_cheapest_152 rfl (lv_at hl 2 rfl) ?_
                                refine lv_imul hx hb dX9_cheapest_153 ?_
                                refine lv_iload_n hx hb dX9_cheapest_154 rfl (lv_at hl 3 rfl) ?_
                                refine lv_iadd hx hb dX9_cheapest_155 ?_
                                refine va_iald hx hb hK hP 1 0 rfl rfl (ixN (u := k) (v := j) (by omega) (by decide)) dX9_cheapest_156 ?_
                                refine lv_topi (fun v_50 ev_50 => ?_)
                                obtain rfl : v_50 = a_cost (12 * k + j) := ev_50.trans (by rw [(ixc (by omega) (by omega))])
                                refine lv_iadd hx hb dX9_cheapest_157 ?_
                                refine va_iast hx hb hK hP hD hS 5 4 rfl rfl (vp_in_nI hlt_j (by decide)) dX9_cheapest_158 (fun H locs hP hD hS => ?_)
                                have hP : va_P (dC, dI) vwCl [(h0, .inr (9, [.int i_thrown, .ref m1, .int i_length, .int i_size, .int i_p, .ref m5, .ref m6, .ref m7, .int i_token, .int i_at, .int i_number, .int i_fault, .int i_faultAt, .int i_hour, .long i_word, .ref m15, .ref m16, .ref m17, .ref m18, .ref m19, .ref m20, .int i_horses, .ref m22, .ref m23, .ref m24, .ref m25, .ref m26, .ref m27, .ref m28, .ref m29, .ref m30, .ref m31, .ref m32, .ref m33, .ref m34, .int i_tablets, .int i_riders, .ref m37, .ref m38, .ref m39, .ref m40, .ref m41, .ref m42, .ref m43, .ref m44, .ref m45, .ref m46])), (m40, .inl (k_cost, 144, .inl a_cost)), (m39, .inl (k_led, 144, .inl a_led)), (m41, .inl (k_left, 12, .inl a_left)), (m43, .inl (k_toGiver, 12, .inl f_tg6)), (m44, .inl (k_toTaker, 12, .inl (upd f_tt6 (nI j).toNatClampNeg ((f_tg6 k) + (a_cost (12 * k + j)))))), (m45, .inl (k_giverBy, 12, .inl f_gb6)), (m46, .inl (k_takerBy, 12, .inl f_tb6))] H := hP
                                have hD : va_D A [(h0, .inr (9, [.int i_thrown, .ref m1, .int i_length, .int i_size, .int i_p, .ref m5, .ref m6, .ref m7, .int i_token, .int i_at, .int i_number, .int i_fault, .int i_faultAt, .int i_hour, .long i_word, .ref m15, .ref m16, .ref m17, .ref m18, .ref m19, .ref m20, .int i_horses, .ref m22, .ref m23, .ref m24, .ref m25, .ref m26, .ref m27, .ref m28, .ref m29, .ref m30, .ref m31, .ref m32, .ref m33, .ref m34, .int i_tablets, .int i_riders, .ref m37, .ref m38, .ref m39, .ref m40, .ref m41, .ref m42, .ref m43, .ref m44, .ref m45, .ref m46])), (m40, .inl (k_cost, 144, .inl a_cost)), (m39, .inl (k_led, 144, .inl a_led)), (m41, .inl (k_left, 12, .inl a_left)), (m43, .inl (k_toGiver, 12, .inl f_tg6)), (m44, .inl (k_toTaker, 12, .inl (upd f_tt6 (nI j).toNatClampNeg ((f_tg6 k) + (a_cost (12 * k + j)))))), (m45, .inl (k_giverBy, 12, .inl f_gb6)), (m46, .inl (k_takerBy, 12, .inl f_tb6))] := hD
                                obtain ⟨f_51, ef_51⟩ : ∃ w9 : Nat → Int32, w9 = upd f_tt6 (nI j).toNatClampNeg ((f_tg6 k) + (a_cost (12 * k + j))) := ⟨_, rfl⟩
                                rw [← ef_51] at hP hD
                                rw [(nI_clamp (by omega))] at ef_51
                                refine lv_aload_n hx hb dX9_cheapest_159 rfl (lv_at hl 0 rfl) ?_
                                refine va_get (D := (dC, dI)) (ci := 9) (v := .ref m46) (C := RX9) (T := TX9) (N := 47) hx hb hts hin9 hown hK hP 0 rfl rfl 46 (by decide) (hts (.fieldLink RX9 108 "YamRidersModel" "takerBy" "[I") (by decide +kernel)) (fun _ h9 => h9) rfl dX9_cheapest_160 ?_
                                refine lv_iload_n hx hb dX9_cheapest_163 rfl (lv_at hl 3 rfl) ?_
                                refine lv_iload_n hx hb dX9_cheapest_164 rfl (lv_at hl 2 rfl) ?_
                                refine va_iast hx hb hK hP hD hS 7 6 rfl rfl (vp_in_nI hlt_j (by decide)) dX9_cheapest_165 (fun H locs hP hD hS => ?_)
                                have hP : va_P (dC, dI) vwCl [(h0, .inr (9, [.int i_thrown, .ref m1, .int i_length, .int i_size, .int i_p, .ref m5, .ref m6, .ref m7, .int i_token, .int i_at, .int i_number, .int i_fault, .int i_faultAt, .int i_hour, .long i_word, .ref m15, .ref m16, .ref m17, .ref m18, .ref m19, .ref m20, .int i_horses, .ref m22, .ref m23, .ref m24, .ref m25, .ref m26, .ref m27, .ref m28, .ref m29, .ref m30, .ref m31, .ref m32, .ref m33, .ref m34, .int i_tablets, .int i_riders, .ref m37, .ref m38, .ref m39, .ref m40, .ref m41, .ref m42, .ref m43, .ref m44, .ref m45, .ref m46])), (m40, .inl (k_cost, 144, .inl a_cost)), (m39, .inl (k_led, 144, .inl a_led)), (m41, .inl (k_left, 12, .inl a_left)), (m43, .inl (k_toGiver, 12, .inl f_tg6)), (m44, .inl (k_toTaker, 12, .inl f_51)), (m45, .inl (k_giverBy, 12, .inl f_gb6)), (m46, .inl (k_takerBy, 12, .inl (upd f_tb6 (nI j).toNatClampNeg (nI k))))] H := hP
                                have hD : va_D A [(h0, .inr (9, [.int i_thrown, .ref m1, .int i_length, .int i_size, .int i_p, .ref m5, .ref m6, .ref m7, .int i_token, .int i_at, .int i_number, .int i_fault, .int i_faultAt, .int i_hour, .long i_word, .ref m15, .ref m16, .ref m17, .ref m18, .ref m19, .ref m20, .int i_horses, .ref m22, .ref m23, .ref m24, .ref m25, .ref m26, .ref m27, .ref m28, .ref m29, .ref m30, .ref m31, .ref m32, .ref m33, .ref m34, .int i_tablets, .int i_riders, .ref m37, .ref m38, .ref m39, .ref m40, .ref m41, .ref m42, .ref m43, .ref m44, .ref m45, .ref m46])), (m40, .inl (k_cost, 144, .inl a_cost)), (m39, .inl (k_led, 144, .inl a_led)), (m41, .inl (k_left, 12, .inl a_left)), (m43, .inl (k_toGiver, 12, .inl f_tg6)), (m44, .inl (k_toTaker, 12, .inl f_51)), (m45, .inl (k_giverBy, 12, .inl f_gb6)), (m46, .inl (k_takerBy, 12, .inl (upd f_tb6 (nI j).toNatClampNeg (nI k))))] := hD
                                obtain ⟨f_52, ef_52⟩ : ∃ w9 : Nat → Int32, w9 = upd f_tb6 (nI j).toNatClampNeg (nI k) := ⟨_, rfl⟩
                                rw [← ef_52] at hP hD
                                rw [(nI_clamp (by omega))] at ef_52
                                refine lv_iconst (v := 1) hx hb dX9_cheapest_166 (by decide) ?_
                                refine lv_istore_n (lv' := [(1, .int 1), (0, .ref h0), (2, .int (nI k)), (3, .int (nI j))]) hx hb dX9_cheapest_167 rfl hl (by decide) rfl (fun ls hl => ?_)
                                have hU5 := UT hCs hPO hC6 (by omega) (by omega) c_6 c_20 c_36 hI6
                                rw [← ef_51, ← ef_52] at hU5
                                have hD5 := hU5.2
                                have hC5 := hU5.1
                                refine lv_aload_n hx hb dX9_cheapest_168 rfl (lv_at hl 1 rfl) ?_
                                refine va_get (D := (dC, dI)) (ci := 9) (v := .ref m39) (C := RX9) (T := TX9) (N := 47) hx hb hts hin9 hown hK hP 0 rfl rfl 39 (by decide) (hts (.fieldLink RX9 87 "YamRidersModel" "led" "[I") (by decide +kernel)) (fun _ h9 => h9) rfl dX9_cheapest_169 ?_
                                refine lv_bipush (v := 12) hx hb dX9_cheapest_172 (by decide) ?_
                                refine lv_iload_n hx hb dX9_cheapest_174 rfl (lv_at hl 2 rfl) ?_
                                refine lv_imul hx hb dX9_cheapest_175 ?_
                                refine lv_iload_n hx hb dX9_cheapest_176 rfl (lv_at hl 3 rfl) ?_
                                refine lv_iadd hx hb dX9_cheapest_177 ?_
                                refine va_iald hx hb hK hP 2 1 rfl rfl (ixN (u := k) (v := j) (by omega) (by decide)) dX9_cheapest_178 ?_
                                refine lv_topi (fun v_53 ev_53 => ?_)
                                obtain rfl : v_53 = a_led (12 * k + j) := ev_53.trans (by rw [(ixc (by omega) (by omega))])
                                refine lv_if_le (tgt := 253) hx hb dX9_cheapest_179 (by decide) (fun c_54 => ?_) (fun c_54 => ?_)
                                · refine lv_iinc (v := nI (j + 1)) (lv' := [(3, .int (nI (j + 1))), (1, .int 1), (0, .ref h0), (2, .int (nI k))]) hx hb dX9_cheapest_253 hl (k := 3) rfl (by exact (nI_1 j)) (by decide) rfl (fun ls hl => ?_)
                                  refine lv_goto (tgt := 75) hx hb dX9_cheapest_256 (by decide) ?_
                                  exact ih_j (j + 1) f_tg6 f_51 f_gb6 f_52 1 (by omega) (by omega) hC5 (IC_a hD5 (FC2_1 c_54)) _ _ (hP.sub [0, 1, 2, 3, 4, 5, 6, 7] rfl) (hD.sub [0, 1, 2, 3, 4, 5, 6, 7] (by decide) rfl) hS ls (lv_sub hl [2, 1, 3, 0] rfl)
                                · refine lv_aload_n hx hb dX9_cheapest_182 rfl (lv_at hl 1 rfl) ?_
                                  refine va_get (D := (dC, dI)) (ci := 9) (v := .ref m44) (C := RX9) (T := TX9) (N := 47) hx hb hts hin9 hown hK hP 0 rfl rfl 44 (by decide) (hts (.fieldLink RX9 102 "YamRidersModel" "toTaker" "[I") (by decide +kernel)) (fun _ h9 => h9) rfl dX9_cheapest_183 ?_
                                  refine lv_iload_n hx hb dX9_cheapest_186 rfl (lv_at hl 3 rfl) ?_
                                  refine va_iald hx hb hK hP 5 4 rfl rfl (vp_in_nI hlt_j (by decide)) dX9_cheapest_187 ?_
                                  refine lv_topi (fun v_55 ev_55 => ?_)
                                  obtain rfl : v_55 = f_51 j := ev_55.trans (by rw [(nI_clamp (by omega))])
                                  refine lv_ldc (v := 1000000) hx hb hown (hts (.constant RX9 194 (1000000)) (by decide +kernel)) dX9_cheapest_188 ?_
                                  refine lv_icmp_ge (tgt := 253) hx hb dX9_cheapest_190 (by decide) (fun c_56 => ?_) (fun c_56 => ?_)
                                  · refine lv_iinc (v := nI (j + 1)) (lv' := [(3, .int (nI (j + 1))), (1, .int 1), (0, .ref h0), (2, .int (nI k))]) hx hb dX9_cheapest_253 hl (k := 3) rfl (by exact (nI_1 j)) (by decide) rfl (fun ls hl => ?_)
                                    refine lv_goto (tgt := 75) hx hb dX9_cheapest_256 (by decide) ?_
                                    exact ih_j (j + 1) f_tg6 f_51 f_gb6 f_52 1 (by omega) (by omega) hC5 (IC_a hD5 (FC2_2 c_56)) _ _ (hP.sub [0, 1, 2, 3, 4, 5, 6, 7] rfl) (hD.sub [0, 1, 2, 3, 4, 5, 6, 7] (by decide) rfl) hS ls (lv_sub hl [2, 1, 3, 0] rfl)
                                  · refine lv_aload_n hx hb dX9_cheapest_193 rfl (lv_at hl 1 rfl) ?_
                                    refine va_get (D := (dC, dI)) (ci := 9) (v := .ref m44) (C := RX9) (T := TX9) (N := 47) hx hb hts hin9 hown hK hP 0 rfl rfl 44 (by decide) (hts (.fieldLink RX9 102 "YamRidersModel" "toTaker" "[I") (by decide +kernel)) (fun _ h9 => h9) rfl dX9_cheapest_194 ?_
                                    refine lv_iload_n hx hb dX9_cheapest_197 rfl (lv_at hl 3 rfl) ?_
                                    refine va_iald hx hb hK hP 5 4 rfl rfl (vp_in_nI hlt_j (by decide)) dX9_cheapest_198 ?_
                                    refine lv_topi (fun v_57 ev_57 => ?_)
                                    obtain rfl : v_57 = f_51 j := ev_57.trans (by rw [(nI_clamp (by omega))])
                                    refine lv_aload_n hx hb dX9_cheapest_199 rfl (lv_at hl 1 rfl) ?_
                                    refine va_get (D := (dC, dI)) (ci := 9) (v := .ref m40) (C := RX9) (T := TX9) (N := 47) hx hb hts hin9 hown hK hP 0 rfl rfl 40 (by decide) (hts (.fieldLink RX9 90 "YamRidersModel" "cost" "[I") (by decide +kernel)) (fun _ h9 => h9) rfl dX9_cheapest_200 ?_
                                    refine lv_bipush (v := 12) hx hb dX9_cheapest_203 (by decide) ?_
                                    refine lv_iload_n hx hb dX9_cheapest_205 rfl (lv_at hl 2 rfl) ?_
                                    refine lv_imul hx hb dX9_cheapest_206 ?_
                                    refine lv_iload_n hx hb dX9_cheapest_207 rfl (lv_at hl 3 rfl) ?_
                                    refine lv_iadd hx hb dX9_cheapest_208 ?_
                                    refine va_iald hx hb hK hP 1 0 rfl rfl (ixN (u := k) (v := j) (by omega) (by decide)) dX9_cheapest_209 ?_
                                    refine lv_topi (fun v_58 ev_58 => ?_)
                                    obtain rfl : v_58 = a_cost (12 * k + j) := ev_58.trans (by rw [(ixc (by omega) (by omega))])
                                    refine lv_isub hx hb dX9_cheapest_210 ?_
                                    refine lv_aload_n hx hb dX9_cheapest_211 rfl (lv_at hl 1 rfl) ?_
                                    refine va_get (D := (dC, dI)) (ci := 9) (v := .ref m43) (C := RX9) (T := TX9) (N := 47) hx hb hts hin9 hown hK hP 0 rfl rfl 43 (by decide) (hts (.fieldLink RX9 99 "YamRidersModel" "toGiver" "[I") (by decide +kernel)) (fun _ h9 => h9) rfl dX9_cheapest_212 ?_
                                    refine lv_iload_n hx hb dX9_cheapest_215 rfl (lv_at hl 2 rfl) ?_
                                    refine va_iald hx hb hK hP 4 3 rfl rfl (vp_in_nI hlt (by decide)) dX9_cheapest_216 ?_
                                    refine lv_topi (fun v_59 ev_59 => ?_)
                                    obtain rfl : v_59 = f_tg6 k := ev_59.trans (by rw [(nI_clamp (by omega))])
                                    refine lv_icmp_ge (tgt := 253) hx hb dX9_cheapest_217 (by decide) (fun c_60 => ?_) (fun c_60 => ?_)
                                    · refine lv_iinc (v := nI (j + 1)) (lv' := [(3, .int (nI (j + 1))), (1, .int 1), (0, .ref h0), (2, .int (nI k))]) hx hb dX9_cheapest_253 hl (k := 3) rfl (by exact (nI_1 j)) (by decide) rfl (fun ls hl => ?_)
                                      refine lv_goto (tgt := 75) hx hb dX9_cheapest_256 (by decide) ?_
                                      exact ih_j (j + 1) f_tg6 f_51 f_gb6 f_52 1 (by omega) (by omega) hC5 (IC_a hD5 (FC2_3 hCs hPO hC5 (by omega) (by omega) c_60)) _ _ (hP.sub [0, 1, 2, 3, 4, 5, 6, 7] rfl) (hD.sub [0, 1, 2, 3, 4, 5, 6, 7] (by decide) rfl) hS ls (lv_sub hl [2, 1, 3, 0] rfl)
                                    · refine lv_aload_n hx hb dX9_cheapest_220 rfl (lv_at hl 1 rfl) ?_
                                      refine va_get (D := (dC, dI)) (ci := 9) (v := .ref m43) (C := RX9) (T := TX9) (N := 47) hx hb hts hin9 hown hK hP 0 rfl rfl 43 (by decide) (hts (.fieldLink RX9 99 "YamRidersModel" "toGiver" "[I") (by decide +kernel)) (fun _ h9 => h9) rfl dX9_cheapest_221 ?_
                                      refine lv_iload_n hx hb dX9_cheapest_224 rfl (lv_at hl 2 rfl) ?_
                                      refine lv_aload_n hx hb dX9_cheapest_225 rfl (lv_at hl 1 rfl) ?_
                                      refine va_get (D := (dC, dI)) (ci := 9) (v := .ref m44) (C := RX9) (T := TX9) (N := 47) hx hb hts hin9 hown hK hP 0 rfl rfl 44 (by decide) (hts (.fieldLink RX9 102 "YamRidersModel" "toTaker" "[I") (by decide +kernel)) (fun _ h9 => h9) rfl dX9_cheapest_226 ?_
                                      refine lv_iload_n hx hb dX9_cheapest_229 rfl (lv_at hl 3 rfl) ?_
                                      refine va_iald hx hb hK hP 5 4 rfl rfl (vp_in_nI hlt_j (by decide)) dX9_cheapest_230 ?_
                                      refine lv_topi (fun v_61 ev_61 => ?_)
                                      obtain rfl : v_61 = f_51 j := ev_61.trans (by rw [(nI_clamp (by omega))])
                                      refine lv_aload_n hx hb dX9_cheapest_231 rfl (lv_at hl 1 rfl) ?_
                                      refine va_get (D := (dC, dI)) (ci := 9) (v := .ref m40) (C := RX9) (T := TX9) (N := 47) hx hb hts hin9 hown hK hP 0 rfl rfl 40 (by decide) (hts (.fieldLink RX9 90 "YamRidersModel" "cost" "[I") (by decide +kernel)) (fun _ h9 => h9) rfl dX9_cheapest_232 ?_
                                      refine lv_bipush (v := 12) hx hb dX9_cheapest_235 (by decide) ?_
                                      refine lv_iload_n hx hb dX9_cheapest_237 rfl (lv_at hl 2 rfl) ?_
                                      refine lv_imul hx hb dX9_cheapest_238 ?_
                                      refine lv_iload_n hx hb dX9_cheapest_239 rfl (lv_at hl 3 rfl) ?_
                                      refine lv_iadd hx hb dX9_cheapest_240 ?_
                                      refine va_iald hx hb hK hP 1 0 rfl rfl (ixN (u := k) (v := j) (by omega) (by decide)) dX9_cheapest_241 ?_
                                      refine lv_topi (fun v_62 ev_62 => ?_)
                                      obtain rfl : v_62 = a_cost (12 * k + j) := ev_62.trans (by rw [(ixc (by omega) (by omega))])
                                      refine lv_isub hx hb dX9_cheapest_242 ?_
                                      refine va_iast hx hb hK hP hD hS 4 3 rfl rfl (vp_in_nI hlt (by decide)) dX9_cheapest_243 (fun H locs hP hD hS => ?_)
                                      have hP : va_P (dC, dI) vwCl [(h0, .inr (9, [.int i_thrown, .ref m1, .int i_length, .int i_size, .int i_p, .ref m5, .ref m6, .ref m7, .int i_token, .int i_at, .int i_number, .int i_fault, .int i_faultAt, .int i_hour, .long i_word, .ref m15, .ref m16, .ref m17, .ref m18, .ref m19, .ref m20, .int i_horses, .ref m22, .ref m23, .ref m24, .ref m25, .ref m26, .ref m27, .ref m28, .ref m29, .ref m30, .ref m31, .ref m32, .ref m33, .ref m34, .int i_tablets, .int i_riders, .ref m37, .ref m38, .ref m39, .ref m40, .ref m41, .ref m42, .ref m43, .ref m44, .ref m45, .ref m46])), (m40, .inl (k_cost, 144, .inl a_cost)), (m39, .inl (k_led, 144, .inl a_led)), (m41, .inl (k_left, 12, .inl a_left)), (m43, .inl (k_toGiver, 12, .inl (upd f_tg6 (nI k).toNatClampNeg ((f_51 j) - (a_cost (12 * k + j)))))), (m44, .inl (k_toTaker, 12, .inl f_51)), (m45, .inl (k_giverBy, 12, .inl f_gb6)), (m46, .inl (k_takerBy, 12, .inl f_52))] H := hP
                                      have hD : va_D A [(h0, .inr (9, [.int i_thrown, .ref m1, .int i_length, .int i_size, .int i_p, .ref m5, .ref m6, .ref m7, .int i_token, .int i_at, .int i_number, .int i_fault, .int i_faultAt, .int i_hour, .long i_word, .ref m15, .ref m16, .ref m17, .ref m18, .ref m19, .ref m20, .int i_horses, .ref m22, .ref m23, .ref m24, .ref m25, .ref m26, .ref m27, .ref m28, .ref m29, .ref m30, .ref m31, .ref m32, .ref m33, .ref m34, .int i_tablets, .int i_riders, .ref m37, .ref m38, .ref m39, .ref m40, .ref m41, .ref m42, .ref m43, .ref m44, .ref m45, .ref m46])), (m40, .inl (k_cost, 144, .inl a_cost)), (m39, .inl (k_led, 144, .inl a_led)), (m41, .inl (k_left, 12, .inl a_left)), (m43, .inl (k_toGiver, 12, .inl (upd f_tg6 (nI k).toNatClampNeg ((f_51 j) - (a_cost (12 * k + j)))))), (m44, .inl (k_toTaker, 12, .inl f_51)), (m45, .inl (k_giverBy, 12, .inl f_gb6)), (m46, .inl (k_takerBy, 12, .inl f_52))] := hD
                                      obtain ⟨f_63, ef_63⟩ : ∃ w9 : Nat → Int32, w9 = upd f_tg6 (nI k).toNatClampNeg ((f_51 j) - (a_cost (12 * k + j))) := ⟨_, rfl⟩
                                      rw [← ef_63] at hP hD
                                      rw [(nI_clamp (by omega))] at ef_63
                                      refine lv_aload_n hx hb dX9_cheapest_244 rfl (lv_at hl 1 rfl) ?_
                                      refine va_get (D := (dC, dI)) (ci := 9) (v := .ref m45) (C := RX9) (T := TX9) (N := 47) hx hb hts hin9 hown hK hP 0 rfl rfl 45 (by decide) (hts (.fieldLink RX9 105 "YamRidersModel" "giverBy" "[I") (by decide +kernel)) (fun _ h9 => h9) rfl dX9_cheapest_245 ?_
                                      refine lv_iload_n hx hb dX9_cheapest_248 rfl (lv_at hl 2 rfl) ?_
                                      refine lv_iload_n hx hb dX9_cheapest_249 rfl (lv_at hl 3 rfl) ?_
                                      refine va_iast hx hb hK hP hD hS 6 5 rfl rfl (vp_in_nI hlt (by decide)) dX9_cheapest_250 (fun H locs hP hD hS => ?_)
                                      have hP : va_P (dC, dI) vwCl [(h0, .inr (9, [.int i_thrown, .ref m1, .int i_length, .int i_size, .int i_p, .ref m5, .ref m6, .ref m7, .int i_token, .int i_at, .int i_number, .int i_fault, .int i_faultAt, .int i_hour, .long i_word, .ref m15, .ref m16, .ref m17, .ref m18, .ref m19, .ref m20, .int i_horses, .ref m22, .ref m23, .ref m24, .ref m25, .ref m26, .ref m27, .ref m28, .ref m29, .ref m30, .ref m31, .ref m32, .ref m33, .ref m34, .int i_tablets, .int i_riders, .ref m37, .ref m38, .ref m39, .ref m40, .ref m41, .ref m42, .ref m43, .ref m44, .ref m45, .ref m46])), (m40, .inl (k_cost, 144, .inl a_cost)), (m39, .inl (k_led, 144, .inl a_led)), (m41, .inl (k_left, 12, .inl a_left)), (m43, .inl (k_toGiver, 12, .inl f_63)), (m44, .inl (k_toTaker, 12, .inl f_51)), (m45, .inl (k_giverBy, 12, .inl (upd f_gb6 (nI k).toNatClampNeg (nI j)))), (m46, .inl (k_takerBy, 12, .inl f_52))] H := hP
                                      have hD : va_D A [(h0, .inr (9, [.int i_thrown, .ref m1, .int i_length, .int i_size, .int i_p, .ref m5, .ref m6, .ref m7, .int i_token, .int i_at, .int i_number, .int i_fault, .int i_faultAt, .int i_hour, .long i_word, .ref m15, .ref m16, .ref m17, .ref m18, .ref m19, .ref m20, .int i_horses, .ref m22, .ref m23, .ref m24, .ref m25, .ref m26, .ref m27, .ref m28, .ref m29, .ref m30, .ref m31, .ref m32, .ref m33, .ref m34, .int i_tablets, .int i_riders, .ref m37, .ref m38, .ref m39, .ref m40, .ref m41, .ref m42, .ref m43, .ref m44, .ref m45, .ref m46])), (m40, .inl (k_cost, 144, .inl a_cost)), (m39, .inl (k_led, 144, .inl a_led)), (m41, .inl (k_left, 12, .inl a_left)), (m43, .inl (k_toGiver, 12, .inl f_63)), (m44, .inl (k_toTaker, 12, .inl f_51)), (m45, .inl (k_giverBy, 12, .inl (upd f_gb6 (nI k).toNatClampNeg (nI j)))), (m46, .inl (k_takerBy, 12, .inl f_52))] := hD
                                      obtain ⟨f_64, ef_64⟩ : ∃ w9 : Nat → Int32, w9 = upd f_gb6 (nI k).toNatClampNeg (nI j) := ⟨_, rfl⟩
                                      rw [← ef_64] at hP hD
                                      rw [(nI_clamp (by omega))] at ef_64
                                      refine lv_iconst (v := 1) hx hb dX9_cheapest_251 (by decide) ?_
                                      refine lv_istore_n (lv' := [(1, .int 1), (0, .ref h0), (2, .int (nI k)), (3, .int (nI j))]) hx hb dX9_cheapest_252 rfl hl (by decide) rfl (fun ls hl => ?_)
                                      refine lv_iinc (v := nI (j + 1)) (lv' := [(3, .int (nI (j + 1))), (1, .int 1), (0, .ref h0), (2, .int (nI k))]) hx hb dX9_cheapest_253 hl (k := 3) rfl (by exact (nI_1 j)) (by decide) rfl (fun ls hl => ?_)
                                      refine lv_goto (tgt := 75) hx hb dX9_cheapest_256 (by decide) ?_
                                      exact ih_j (j + 1) f_63 f_51 f_64 f_52 1 (by omega) (by omega) (by rw [ef_63, ef_64]; exact (UG hCs hPO hC5 (by omega) (by omega) c_54 c_56 c_60 hD5).1) (by rw [ef_63]; exact (UG hCs hPO hC5 (by omega) (by omega) c_54 c_56 c_60 hD5).2) _ _ (hP.sub [0, 1, 2, 3, 4, 5, 6, 7] rfl) (hD.sub [0, 1, 2, 3, 4, 5, 6, 7] (by decide) rfl) hS ls (lv_sub hl [2, 1, 3, 0] rfl)
                    exact HL_j 13 0 f_tg7 f_tt7 f_gb7 f_tb7 mo7 (by omega) (by omega) hC7 hI7 _ _ (hP.sub [0, 1, 2, 3, 4, 5, 6, 7] rfl) (hD.sub [0, 1, 2, 3, 4, 5, 6, 7] (by decide) rfl) hS ls (lv_sub hl [1, 2, 3, 0] rfl)
              exact HL 13 0 f_tg8 f_tt8 f_gb8 f_tb8 0 (by omega) (by omega) hC8 IC_0 _ _ (hP.sub [0, 1, 2, 3, 4, 5, 6, 7] rfl) (hD.sub [0, 1, 2, 3, 4, 5, 6, 7] (by decide) rfl) hS ls (lv_sub hl [2, 1, 0] rfl)
        exact HL_a (Ms f_tg9 f_tt9 + 1 + wb 1) f_tg9 f_tt9 f_gb9 f_tb9 1 (by omega) (CI_C hPO (hke_i ▸ hCI)) (Or.inr rfl) _ _ (hP.sub [0, 1, 2, 3, 4, 5, 6, 7] rfl) (hD.sub [0, 1, 2, 3, 4, 5, 6, 7] (by decide) rfl) hS ls (lv_sub hl [1, 0] rfl)
      · have hlt_i : i < 12 := by
          rcases Nat.lt_or_ge i 12 with q | q
          · exact q
          · exact absurd (show nI 12 ≤ nI i from nI_le q (by omega)) c_1
        refine lv_aload_n hx hb dX9_cheapest_8 rfl (lv_at hl 0 rfl) ?_
        refine va_get (D := (dC, dI)) (ci := 9) (v := .ref m43) (C := RX9) (T := TX9) (N := 47) hx hb hts hin9 hown hK hP 0 rfl rfl 43 (by decide) (hts (.fieldLink RX9 99 "YamRidersModel" "toGiver" "[I") (by decide +kernel)) (fun _ h9 => h9) rfl dX9_cheapest_9 ?_
        refine lv_iload_n hx hb dX9_cheapest_12 rfl (lv_at hl 1 rfl) ?_
        refine lv_aload_n hx hb dX9_cheapest_13 rfl (lv_at hl 0 rfl) ?_
        refine va_get (D := (dC, dI)) (ci := 9) (v := .ref m41) (C := RX9) (T := TX9) (N := 47) hx hb hts hin9 hown hK hP 0 rfl rfl 41 (by decide) (hts (.fieldLink RX9 93 "YamRidersModel" "left" "[I") (by decide +kernel)) (fun _ h9 => h9) rfl dX9_cheapest_14 ?_
        refine lv_iload_n hx hb dX9_cheapest_17 rfl (lv_at hl 1 rfl) ?_
        refine va_iald hx hb hK hP 3 2 rfl rfl (vp_in_nI hlt_i (by decide)) dX9_cheapest_18 ?_
        refine lv_topi (fun v_65 ev_65 => ?_)
        obtain rfl : v_65 = a_left i := ev_65.trans (by rw [(nI_clamp (by omega))])
        refine lv_if_le (tgt := 26) hx hb dX9_cheapest_19 (by decide) (fun c_66 => ?_) (fun c_66 => ?_)
        · refine lv_ldc (v := 1000000) hx hb hown (hts (.constant RX9 194 (1000000)) (by decide +kernel)) dX9_cheapest_26 ?_
          refine va_iast hx hb hK hP hD hS 4 3 rfl rfl (vp_in_nI hlt_i (by decide)) dX9_cheapest_28 (fun H locs hP hD hS => ?_)
          have hP : va_P (dC, dI) vwCl [(h0, .inr (9, [.int i_thrown, .ref m1, .int i_length, .int i_size, .int i_p, .ref m5, .ref m6, .ref m7, .int i_token, .int i_at, .int i_number, .int i_fault, .int i_faultAt, .int i_hour, .long i_word, .ref m15, .ref m16, .ref m17, .ref m18, .ref m19, .ref m20, .int i_horses, .ref m22, .ref m23, .ref m24, .ref m25, .ref m26, .ref m27, .ref m28, .ref m29, .ref m30, .ref m31, .ref m32, .ref m33, .ref m34, .int i_tablets, .int i_riders, .ref m37, .ref m38, .ref m39, .ref m40, .ref m41, .ref m42, .ref m43, .ref m44, .ref m45, .ref m46])), (m40, .inl (k_cost, 144, .inl a_cost)), (m39, .inl (k_led, 144, .inl a_led)), (m41, .inl (k_left, 12, .inl a_left)), (m43, .inl (k_toGiver, 12, .inl (upd f_tg9 (nI i).toNatClampNeg 1000000))), (m44, .inl (k_toTaker, 12, .inl f_tt9)), (m45, .inl (k_giverBy, 12, .inl f_gb9)), (m46, .inl (k_takerBy, 12, .inl f_tb9))] H := hP
          have hD : va_D A [(h0, .inr (9, [.int i_thrown, .ref m1, .int i_length, .int i_size, .int i_p, .ref m5, .ref m6, .ref m7, .int i_token, .int i_at, .int i_number, .int i_fault, .int i_faultAt, .int i_hour, .long i_word, .ref m15, .ref m16, .ref m17, .ref m18, .ref m19, .ref m20, .int i_horses, .ref m22, .ref m23, .ref m24, .ref m25, .ref m26, .ref m27, .ref m28, .ref m29, .ref m30, .ref m31, .ref m32, .ref m33, .ref m34, .int i_tablets, .int i_riders, .ref m37, .ref m38, .ref m39, .ref m40, .ref m41, .ref m42, .ref m43, .ref m44, .ref m45, .ref m46])), (m40, .inl (k_cost, 144, .inl a_cost)), (m39, .inl (k_led, 144, .inl a_led)), (m41, .inl (k_left, 12, .inl a_left)), (m43, .inl (k_toGiver, 12, .inl (upd f_tg9 (nI i).toNatClampNeg 1000000))), (m44, .inl (k_toTaker, 12, .inl f_tt9)), (m45, .inl (k_giverBy, 12, .inl f_gb9)), (m46, .inl (k_takerBy, 12, .inl f_tb9))] := hD
          obtain ⟨f_67, ef_67⟩ : ∃ w9 : Nat → Int32, w9 = upd f_tg9 (nI i).toNatClampNeg 1000000 := ⟨_, rfl⟩
          rw [← ef_67] at hP hD
          rw [(nI_clamp (by omega))] at ef_67
          refine lv_aload_n hx hb dX9_cheapest_29 rfl (lv_at hl 0 rfl) ?_
          refine va_get (D := (dC, dI)) (ci := 9) (v := .ref m45) (C := RX9) (T := TX9) (N := 47) hx hb hts hin9 hown hK hP 0 rfl rfl 45 (by decide) (hts (.fieldLink RX9 105 "YamRidersModel" "giverBy" "[I") (by decide +kernel)) (fun _ h9 => h9) rfl dX9_cheapest_30 ?_
          refine lv_iload_n hx hb dX9_cheapest_33 rfl (lv_at hl 1 rfl) ?_
          refine lv_iconst (v := (-1)) hx hb dX9_cheapest_34 (by decide) ?_
          refine va_iast hx hb hK hP hD hS 6 5 rfl rfl (vp_in_nI hlt_i (by decide)) dX9_cheapest_35 (fun H locs hP hD hS => ?_)
          have hP : va_P (dC, dI) vwCl [(h0, .inr (9, [.int i_thrown, .ref m1, .int i_length, .int i_size, .int i_p, .ref m5, .ref m6, .ref m7, .int i_token, .int i_at, .int i_number, .int i_fault, .int i_faultAt, .int i_hour, .long i_word, .ref m15, .ref m16, .ref m17, .ref m18, .ref m19, .ref m20, .int i_horses, .ref m22, .ref m23, .ref m24, .ref m25, .ref m26, .ref m27, .ref m28, .ref m29, .ref m30, .ref m31, .ref m32, .ref m33, .ref m34, .int i_tablets, .int i_riders, .ref m37, .ref m38, .ref m39, .ref m40, .ref m41, .ref m42, .ref m43, .ref m44, .ref m45, .ref m46])), (m40, .inl (k_cost, 144, .inl a_cost)), (m39, .inl (k_led, 144, .inl a_led)), (m41, .inl (k_left, 12, .inl a_left)), (m43, .inl (k_toGiver, 12, .inl f_67)), (m44, .inl (k_toTaker, 12, .inl f_tt9)), (m45, .inl (k_giverBy, 12, .inl (upd f_gb9 (nI i).toNatClampNeg (-1)))), (m46, .inl (k_takerBy, 12, .inl f_tb9))] H := hP
          have hD : va_D A [(h0, .inr (9, [.int i_thrown, .ref m1, .int i_length, .int i_size, .int i_p, .ref m5, .ref m6, .ref m7, .int i_token, .int i_at, .int i_number, .int i_fault, .int i_faultAt, .int i_hour, .long i_word, .ref m15, .ref m16, .ref m17, .ref m18, .ref m19, .ref m20, .int i_horses, .ref m22, .ref m23, .ref m24, .ref m25, .ref m26, .ref m27, .ref m28, .ref m29, .ref m30, .ref m31, .ref m32, .ref m33, .ref m34, .int i_tablets, .int i_riders, .ref m37, .ref m38, .ref m39, .ref m40, .ref m41, .ref m42, .ref m43, .ref m44, .ref m45, .ref m46])), (m40, .inl (k_cost, 144, .inl a_cost)), (m39, .inl (k_led, 144, .inl a_led)), (m41, .inl (k_left, 12, .inl a_left)), (m43, .inl (k_toGiver, 12, .inl f_67)), (m44, .inl (k_toTaker, 12, .inl f_tt9)), (m45, .inl (k_giverBy, 12, .inl (upd f_gb9 (nI i).toNatClampNeg (-1)))), (m46, .inl (k_takerBy, 12, .inl f_tb9))] := hD
          obtain ⟨f_68, ef_68⟩ : ∃ w9 : Nat → Int32, w9 = upd f_gb9 (nI i).toNatClampNeg (-1) := ⟨_, rfl⟩
          rw [← ef_68] at hP hD
          rw [(nI_clamp (by omega))] at ef_68
          refine lv_aload_n hx hb dX9_cheapest_36 rfl (lv_at hl 0 rfl) ?_
          refine va_get (D := (dC, dI)) (ci := 9) (v := .ref m44) (C := RX9) (T := TX9) (N := 47) hx hb hts hin9 hown hK hP 0 rfl rfl 44 (by decide) (hts (.fieldLink RX9 102 "YamRidersModel" "toTaker" "[I") (by decide +kernel)) (fun _ h9 => h9) rfl dX9_cheapest_37 ?_
          refine lv_iload_n hx hb dX9_cheapest_40 rfl (lv_at hl 1 rfl) ?_
          refine lv_ldc (v := 1000000) hx hb hown (hts (.constant RX9 194 (1000000)) (by decide +kernel)) dX9_cheapest_41 ?_
          refine va_iast hx hb hK hP hD hS 5 4 rfl rfl (vp_in_nI hlt_i (by decide)) dX9_cheapest_43 (fun H locs hP hD hS => ?_)
          have hP : va_P (dC, dI) vwCl [(h0, .inr (9, [.int i_thrown, .ref m1, .int i_length, .int i_size, .int i_p, .ref m5, .ref m6, .ref m7, .int i_token, .int i_at, .int i_number, .int i_fault, .int i_faultAt, .int i_hour, .long i_word, .ref m15, .ref m16, .ref m17, .ref m18, .ref m19, .ref m20, .int i_horses, .ref m22, .ref m23, .ref m24, .ref m25, .ref m26, .ref m27, .ref m28, .ref m29, .ref m30, .ref m31, .ref m32, .ref m33, .ref m34, .int i_tablets, .int i_riders, .ref m37, .ref m38, .ref m39, .ref m40, .ref m41, .ref m42, .ref m43, .ref m44, .ref m45, .ref m46])), (m40, .inl (k_cost, 144, .inl a_cost)), (m39, .inl (k_led, 144, .inl a_led)), (m41, .inl (k_left, 12, .inl a_left)), (m43, .inl (k_toGiver, 12, .inl f_67)), (m44, .inl (k_toTaker, 12, .inl (upd f_tt9 (nI i).toNatClampNeg 1000000))), (m45, .inl (k_giverBy, 12, .inl f_68)), (m46, .inl (k_takerBy, 12, .inl f_tb9))] H := hP
          have hD : va_D A [(h0, .inr (9, [.int i_thrown, .ref m1, .int i_length, .int i_size, .int i_p, .ref m5, .ref m6, .ref m7, .int i_token, .int i_at, .int i_number, .int i_fault, .int i_faultAt, .int i_hour, .long i_word, .ref m15, .ref m16, .ref m17, .ref m18, .ref m19, .ref m20, .int i_horses, .ref m22, .ref m23, .ref m24, .ref m25, .ref m26, .ref m27, .ref m28, .ref m29, .ref m30, .ref m31, .ref m32, .ref m33, .ref m34, .int i_tablets, .int i_riders, .ref m37, .ref m38, .ref m39, .ref m40, .ref m41, .ref m42, .ref m43, .ref m44, .ref m45, .ref m46])), (m40, .inl (k_cost, 144, .inl a_cost)), (m39, .inl (k_led, 144, .inl a_led)), (m41, .inl (k_left, 12, .inl a_left)), (m43, .inl (k_toGiver, 12, .inl f_67)), (m44, .inl (k_toTaker, 12, .inl (upd f_tt9 (nI i).toNatClampNeg 1000000))), (m45, .inl (k_giverBy, 12, .inl f_68)), (m46, .inl (k_takerBy, 12, .inl f_tb9))] := hD
          obtain ⟨f_69, ef_69⟩ : ∃ w9 : Nat → Int32, w9 = upd f_tt9 (nI i).toNatClampNeg 1000000 := ⟨_, rfl⟩
          rw [← ef_69] at hP hD
          rw [(nI_clamp (by omega))] at ef_69
          refine lv_aload_n hx hb dX9_cheapest_44 rfl (lv_at hl 0 rfl) ?_
          refine va_get (D := (dC, dI)) (ci := 9) (v := .ref m46) (C := RX9) (T := TX9) (N := 47) hx hb hts hin9 hown hK hP 0 rfl rfl 46 (by decide) (hts (.fieldLink RX9 108 "YamRidersModel" "takerBy" "[I") (by decide +kernel)) (fun _ h9 => h9) rfl dX9_cheapest_45 ?_
          refine lv_iload_n hx hb dX9_cheapest_48 rfl (lv_at hl 1 rfl) ?_
          refine lv_iconst (v := (-1)) hx hb dX9_cheapest_49 (by decide) ?_
          refine va_iast hx hb hK hP hD hS 7 6 rfl rfl (vp_in_nI hlt_i (by decide)) dX9_cheapest_50 (fun H locs hP hD hS => ?_)
          have hP : va_P (dC, dI) vwCl [(h0, .inr (9, [.int i_thrown, .ref m1, .int i_length, .int i_size, .int i_p, .ref m5, .ref m6, .ref m7, .int i_token, .int i_at, .int i_number, .int i_fault, .int i_faultAt, .int i_hour, .long i_word, .ref m15, .ref m16, .ref m17, .ref m18, .ref m19, .ref m20, .int i_horses, .ref m22, .ref m23, .ref m24, .ref m25, .ref m26, .ref m27, .ref m28, .ref m29, .ref m30, .ref m31, .ref m32, .ref m33, .ref m34, .int i_tablets, .int i_riders, .ref m37, .ref m38, .ref m39, .ref m40, .ref m41, .ref m42, .ref m43, .ref m44, .ref m45, .ref m46])), (m40, .inl (k_cost, 144, .inl a_cost)), (m39, .inl (k_led, 144, .inl a_led)), (m41, .inl (k_left, 12, .inl a_left)), (m43, .inl (k_toGiver, 12, .inl f_67)), (m44, .inl (k_toTaker, 12, .inl f_69)), (m45, .inl (k_giverBy, 12, .inl f_68)), (m46, .inl (k_takerBy, 12, .inl (upd f_tb9 (nI i).toNatClampNeg (-1))))] H := hP
          have hD : va_D A [(h0, .inr (9, [.int i_thrown, .ref m1, .int i_length, .int i_size, .int i_p, .ref m5, .ref m6, .ref m7, .int i_token, .int i_at, .int i_number, .int i_fault, .int i_faultAt, .int i_hour, .long i_word, .ref m15, .ref m16, .ref m17, .ref m18, .ref m19, .ref m20, .int i_horses, .ref m22, .ref m23, .ref m24, .ref m25, .ref m26, .ref m27, .ref m28, .ref m29, .ref m30, .ref m31, .ref m32, .ref m33, .ref m34, .int i_tablets, .int i_riders, .ref m37, .ref m38, .ref m39, .ref m40, .ref m41, .ref m42, .ref m43, .ref m44, .ref m45, .ref m46])), (m40, .inl (k_cost, 144, .inl a_cost)), (m39, .inl (k_led, 144, .inl a_led)), (m41, .inl (k_left, 12, .inl a_left)), (m43, .inl (k_toGiver, 12, .inl f_67)), (m44, .inl (k_toTaker, 12, .inl f_69)), (m45, .inl (k_giverBy, 12, .inl f_68)), (m46, .inl (k_takerBy, 12, .inl (upd f_tb9 (nI i).toNatClampNeg (-1))))] := hD
          obtain ⟨f_70, ef_70⟩ : ∃ w9 : Nat → Int32, w9 = upd f_tb9 (nI i).toNatClampNeg (-1) := ⟨_, rfl⟩
          rw [← ef_70] at hP hD
          rw [(nI_clamp (by omega))] at ef_70
          refine lv_iinc (v := nI (i + 1)) (lv' := [(1, .int (nI (i + 1))), (0, .ref h0)]) hx hb dX9_cheapest_51 hl (k := 1) rfl (by exact (nI_1 i)) (by decide) rfl (fun ls hl => ?_)
          refine lv_goto (tgt := 2) hx hb dX9_cheapest_54 (by decide) ?_
          exact ih_i (i + 1) f_67 f_69 f_68 f_70 (by omega) (by omega) (by rw [ef_67, ef_69, ef_68, ef_70]; exact CI_s hCI (Or.inr ⟨c_66, rfl⟩)) _ _ (hP.sub [0, 1, 2, 3, 4, 5, 6, 7] rfl) (hD.sub [0, 1, 2, 3, 4, 5, 6, 7] (by decide) rfl) hS ls (lv_sub hl [1, 0] rfl)
        · refine lv_iconst (v := 0) hx hb dX9_cheapest_22 (by decide) ?_
          refine lv_goto (tgt := 28) hx hb dX9_cheapest_23 (by decide) ?_
          refine va_iast hx hb hK hP hD hS 4 3 rfl rfl (vp_in_nI hlt_i (by decide)) dX9_cheapest_28 (fun H locs hP hD hS => ?_)
          have hP : va_P (dC, dI) vwCl [(h0, .inr (9, [.int i_thrown, .ref m1, .int i_length, .int i_size, .int i_p, .ref m5, .ref m6, .ref m7, .int i_token, .int i_at, .int i_number, .int i_fault, .int i_faultAt, .int i_hour, .long i_word, .ref m15, .ref m16, .ref m17, .ref m18, .ref m19, .ref m20, .int i_horses, .ref m22, .ref m23, .ref m24, .ref m25, .ref m26, .ref m27, .ref m28, .ref m29, .ref m30, .ref m31, .ref m32, .ref m33, .ref m34, .int i_tablets, .int i_riders, .ref m37, .ref m38, .ref m39, .ref m40, .ref m41, .ref m42, .ref m43, .ref m44, .ref m45, .ref m46])), (m40, .inl (k_cost, 144, .inl a_cost)), (m39, .inl (k_led, 144, .inl a_led)), (m41, .inl (k_left, 12, .inl a_left)), (m43, .inl (k_toGiver, 12, .inl (upd f_tg9 (nI i).toNatClampNeg 0))), (m44, .inl (k_toTaker, 12, .inl f_tt9)), (m45, .inl (k_giverBy, 12, .inl f_gb9)), (m46, .inl (k_takerBy, 12, .inl f_tb9))] H := hP
          have hD : va_D A [(h0, .inr (9, [.int i_thrown, .ref m1, .int i_length, .int i_size, .int i_p, .ref m5, .ref m6, .ref m7, .int i_token, .int i_at, .int i_number, .int i_fault, .int i_faultAt, .int i_hour, .long i_word, .ref m15, .ref m16, .ref m17, .ref m18, .ref m19, .ref m20, .int i_horses, .ref m22, .ref m23, .ref m24, .ref m25, .ref m26, .ref m27, .ref m28, .ref m29, .ref m30, .ref m31, .ref m32, .ref m33, .ref m34, .int i_tablets, .int i_riders, .ref m37, .ref m38, .ref m39, .ref m40, .ref m41, .ref m42, .ref m43, .ref m44, .ref m45, .ref m46])), (m40, .inl (k_cost, 144, .inl a_cost)), (m39, .inl (k_led, 144, .inl a_led)), (m41, .inl (k_left, 12, .inl a_left)), (m43, .inl (k_toGiver, 12, .inl (upd f_tg9 (nI i).toNatClampNeg 0))), (m44, .inl (k_toTaker, 12, .inl f_tt9)), (m45, .inl (k_giverBy, 12, .inl f_gb9)), (m46, .inl (k_takerBy, 12, .inl f_tb9))] := hD
          obtain ⟨f_71, ef_71⟩ : ∃ w9 : Nat → Int32, w9 = upd f_tg9 (nI i).toNatClampNeg 0 := ⟨_, rfl⟩
          rw [← ef_71] at hP hD
          rw [(nI_clamp (by omega))] at ef_71
          refine lv_aload_n hx hb dX9_cheapest_29 rfl (lv_at hl 0 rfl) ?_
          refine va_get (D := (dC, dI)) (ci := 9) (v := .ref m45) (C := RX9) (T := TX9) (N := 47) hx hb hts hin9 hown hK hP 0 rfl rfl 45 (by decide) (hts (.fieldLink RX9 105 "YamRidersModel" "giverBy" "[I") (by decide +kernel)) (fun _ h9 => h9) rfl dX9_cheapest_30 ?_
          refine lv_iload_n hx hb dX9_cheapest_33 rfl (lv_at hl 1 rfl) ?_
          refine lv_iconst (v := (-1)) hx hb dX9_cheapest_34 (by decide) ?_
          refine va_iast hx hb hK hP hD hS 6 5 rfl rfl (vp_in_nI hlt_i (by decide)) dX9_cheapest_35 (fun H locs hP hD hS => ?_)
          have hP : va_P (dC, dI) vwCl [(h0, .inr (9, [.int i_thrown, .ref m1, .int i_length, .int i_size, .int i_p, .ref m5, .ref m6, .ref m7, .int i_token, .int i_at, .int i_number, .int i_fault, .int i_faultAt, .int i_hour, .long i_word, .ref m15, .ref m16, .ref m17, .ref m18, .ref m19, .ref m20, .int i_horses, .ref m22, .ref m23, .ref m24, .ref m25, .ref m26, .ref m27, .ref m28, .ref m29, .ref m30, .ref m31, .ref m32, .ref m33, .ref m34, .int i_tablets, .int i_riders, .ref m37, .ref m38, .ref m39, .ref m40, .ref m41, .ref m42, .ref m43, .ref m44, .ref m45, .ref m46])), (m40, .inl (k_cost, 144, .inl a_cost)), (m39, .inl (k_led, 144, .inl a_led)), (m41, .inl (k_left, 12, .inl a_left)), (m43, .inl (k_toGiver, 12, .inl f_71)), (m44, .inl (k_toTaker, 12, .inl f_tt9)), (m45, .inl (k_giverBy, 12, .inl (upd f_gb9 (nI i).toNatClampNeg (-1)))), (m46, .inl (k_takerBy, 12, .inl f_tb9))] H := hP
          have hD : va_D A [(h0, .inr (9, [.int i_thrown, .ref m1, .int i_length, .int i_size, .int i_p, .ref m5, .ref m6, .ref m7, .int i_token, .int i_at, .int i_number, .int i_fault, .int i_faultAt, .int i_hour, .long i_word, .ref m15, .ref m16, .ref m17, .ref m18, .ref m19, .ref m20, .int i_horses, .ref m22, .ref m23, .ref m24, .ref m25, .ref m26, .ref m27, .ref m28, .ref m29, .ref m30, .ref m31, .ref m32, .ref m33, .ref m34, .int i_tablets, .int i_riders, .ref m37, .ref m38, .ref m39, .ref m40, .ref m41, .ref m42, .ref m43, .ref m44, .ref m45, .ref m46])), (m40, .inl (k_cost, 144, .inl a_cost)), (m39, .inl (k_led, 144, .inl a_led)), (m41, .inl (k_left, 12, .inl a_left)), (m43, .inl (k_toGiver, 12, .inl f_71)), (m44, .inl (k_toTaker, 12, .inl f_tt9)), (m45, .inl (k_giverBy, 12, .inl (upd f_gb9 (nI i).toNatClampNeg (-1)))), (m46, .inl (k_takerBy, 12, .inl f_tb9))] := hD
          obtain ⟨f_72, ef_72⟩ : ∃ w9 : Nat → Int32, w9 = upd f_gb9 (nI i).toNatClampNeg (-1) := ⟨_, rfl⟩
          rw [← ef_72] at hP hD
          rw [(nI_clamp (by omega))] at ef_72
          refine lv_aload_n hx hb dX9_cheapest_36 rfl (lv_at hl 0 rfl) ?_
          refine va_get (D := (dC, dI)) (ci := 9) (v := .ref m44) (C := RX9) (T := TX9) (N := 47) hx hb hts hin9 hown hK hP 0 rfl rfl 44 (by decide) (hts (.fieldLink RX9 102 "YamRidersModel" "toTaker" "[I") (by decide +kernel)) (fun _ h9 => h9) rfl dX9_cheapest_37 ?_
          refine lv_iload_n hx hb dX9_cheapest_40 rfl (lv_at hl 1 rfl) ?_
          refine lv_ldc (v := 1000000) hx hb hown (hts (.constant RX9 194 (1000000)) (by decide +kernel)) dX9_cheapest_41 ?_
          refine va_iast hx hb hK hP hD hS 5 4 rfl rfl (vp_in_nI hlt_i (by decide)) dX9_cheapest_43 (fun H locs hP hD hS => ?_)
          have hP : va_P (dC, dI) vwCl [(h0, .inr (9, [.int i_thrown, .ref m1, .int i_length, .int i_size, .int i_p, .ref m5, .ref m6, .ref m7, .int i_token, .int i_at, .int i_number, .int i_fault, .int i_faultAt, .int i_hour, .long i_word, .ref m15, .ref m16, .ref m17, .ref m18, .ref m19, .ref m20, .int i_horses, .ref m22, .ref m23, .ref m24, .ref m25, .ref m26, .ref m27, .ref m28, .ref m29, .ref m30, .ref m31, .ref m32, .ref m33, .ref m34, .int i_tablets, .int i_riders, .ref m37, .ref m38, .ref m39, .ref m40, .ref m41, .ref m42, .ref m43, .ref m44, .ref m45, .ref m46])), (m40, .inl (k_cost, 144, .inl a_cost)), (m39, .inl (k_led, 144, .inl a_led)), (m41, .inl (k_left, 12, .inl a_left)), (m43, .inl (k_toGiver, 12, .inl f_71)), (m44, .inl (k_toTaker, 12, .inl (upd f_tt9 (nI i).toNatClampNeg 1000000))), (m45, .inl (k_giverBy, 12, .inl f_72)), (m46, .inl (k_takerBy, 12, .inl f_tb9))] H := hP
          have hD : va_D A [(h0, .inr (9, [.int i_thrown, .ref m1, .int i_length, .int i_size, .int i_p, .ref m5, .ref m6, .ref m7, .int i_token, .int i_at, .int i_number, .int i_fault, .int i_faultAt, .int i_hour, .long i_word, .ref m15, .ref m16, .ref m17, .ref m18, .ref m19, .ref m20, .int i_horses, .ref m22, .ref m23, .ref m24, .ref m25, .ref m26, .ref m27, .ref m28, .ref m29, .ref m30, .ref m31, .ref m32, .ref m33, .ref m34, .int i_tablets, .int i_riders, .ref m37, .ref m38, .ref m39, .ref m40, .ref m41, .ref m42, .ref m43, .ref m44, .ref m45, .ref m46])), (m40, .inl (k_cost, 144, .inl a_cost)), (m39, .inl (k_led, 144, .inl a_led)), (m41, .inl (k_left, 12, .inl a_left)), (m43, .inl (k_toGiver, 12, .inl f_71)), (m44, .inl (k_toTaker, 12, .inl (upd f_tt9 (nI i).toNatClampNeg 1000000))), (m45, .inl (k_giverBy, 12, .inl f_72)), (m46, .inl (k_takerBy, 12, .inl f_tb9))] := hD
          obtain ⟨f_73, ef_73⟩ : ∃ w9 : Nat → Int32, w9 = upd f_tt9 (nI i).toNatClampNeg 1000000 := ⟨_, rfl⟩
          rw [← ef_73] at hP hD
          rw [(nI_clamp (by omega))] at ef_73
          refine lv_aload_n hx hb dX9_cheapest_44 rfl (lv_at hl 0 rfl) ?_
          refine va_get (D := (dC, dI)) (ci := 9) (v := .ref m46) (C := RX9) (T := TX9) (N := 47) hx hb hts hin9 hown hK hP 0 rfl rfl 46 (by decide) (hts (.fieldLink RX9 108 "YamRidersModel" "takerBy" "[I") (by decide +kernel)) (fun _ h9 => h9) rfl dX9_cheapest_45 ?_
          refine lv_iload_n hx hb dX9_cheapest_48 rfl (lv_at hl 1 rfl) ?_
          refine lv_iconst (v := (-1)) hx hb dX9_cheapest_49 (by decide) ?_
          refine va_iast hx hb hK hP hD hS 7 6 rfl rfl (vp_in_nI hlt_i (by decide)) dX9_cheapest_50 (fun H locs hP hD hS => ?_)
          have hP : va_P (dC, dI) vwCl [(h0, .inr (9, [.int i_thrown, .ref m1, .int i_length, .int i_size, .int i_p, .ref m5, .ref m6, .ref m7, .int i_token, .int i_at, .int i_number, .int i_fault, .int i_faultAt, .int i_hour, .long i_word, .ref m15, .ref m16, .ref m17, .ref m18, .ref m19, .ref m20, .int i_horses, .ref m22, .ref m23, .ref m24, .ref m25, .ref m26, .ref m27, .ref m28, .ref m29, .ref m30, .ref m31, .ref m32, .ref m33, .ref m34, .int i_tablets, .int i_riders, .ref m37, .ref m38, .ref m39, .ref m40, .ref m41, .ref m42, .ref m43, .ref m44, .ref m45, .ref m46])), (m40, .inl (k_cost, 144, .inl a_cost)), (m39, .inl (k_led, 144, .inl a_led)), (m41, .inl (k_left, 12, .inl a_left)), (m43, .inl (k_toGiver, 12, .inl f_71)), (m44, .inl (k_toTaker, 12, .inl f_73)), (m45, .inl (k_giverBy, 12, .inl f_72)), (m46, .inl (k_takerBy, 12, .inl (upd f_tb9 (nI i).toNatClampNeg (-1))))] H := hP
          have hD : va_D A [(h0, .inr (9, [.int i_thrown, .ref m1, .int i_length, .int i_size, .int i_p, .ref m5, .ref m6, .ref m7, .int i_token, .int i_at, .int i_number, .int i_fault, .int i_faultAt, .int i_hour, .long i_word, .ref m15, .ref m16, .ref m17, .ref m18, .ref m19, .ref m20, .int i_horses, .ref m22, .ref m23, .ref m24, .ref m25, .ref m26, .ref m27, .ref m28, .ref m29, .ref m30, .ref m31, .ref m32, .ref m33, .ref m34, .int i_tablets, .int i_riders, .ref m37, .ref m38, .ref m39, .ref m40, .ref m41, .ref m42, .ref m43, .ref m44, .ref m45, .ref m46])), (m40, .inl (k_cost, 144, .inl a_cost)), (m39, .inl (k_led, 144, .inl a_led)), (m41, .inl (k_left, 12, .inl a_left)), (m43, .inl (k_toGiver, 12, .inl f_71)), (m44, .inl (k_toTaker, 12, .inl f_73)), (m45, .inl (k_giverBy, 12, .inl f_72)), (m46, .inl (k_takerBy, 12, .inl (upd f_tb9 (nI i).toNatClampNeg (-1))))] := hD
          obtain ⟨f_74, ef_74⟩ : ∃ w9 : Nat → Int32, w9 = upd f_tb9 (nI i).toNatClampNeg (-1) := ⟨_, rfl⟩
          rw [← ef_74] at hP hD
          rw [(nI_clamp (by omega))] at ef_74
          refine lv_iinc (v := nI (i + 1)) (lv' := [(1, .int (nI (i + 1))), (0, .ref h0)]) hx hb dX9_cheapest_51 hl (k := 1) rfl (by exact (nI_1 i)) (by decide) rfl (fun ls hl => ?_)
          refine lv_goto (tgt := 2) hx hb dX9_cheapest_54 (by decide) ?_
          exact ih_i (i + 1) f_71 f_73 f_72 f_74 (by omega) (by omega) (by rw [ef_71, ef_73, ef_72, ef_74]; exact CI_s hCI (Or.inl ⟨c_66, rfl⟩)) _ _ (hP.sub [0, 1, 2, 3, 4, 5, 6, 7] rfl) (hD.sub [0, 1, 2, 3, 4, 5, 6, 7] (by decide) rfl) hS ls (lv_sub hl [1, 0] rfl)
  exact HL_i 13 0 a_toGiver a_toTaker a_giverBy a_takerBy (by omega) (by omega) (fun _ q => absurd q (by omega)) _ _ (hP.sub [0, 1, 2, 3, 4, 5, 6, 7] rfl) (hD.sub [0, 1, 2, 3, 4, 5, 6, 7] (by decide) rfl) hS ls (lv_sub hl [1, 0] rfl)
