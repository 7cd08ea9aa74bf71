theorem bsm_y {S : Nat → Nat → Nat → Int32} {p x : Int32} {k : Nat} (e : x = bst S p k) (c : S 1 k 0 = p) (c2 : x = -1 ∨ ¬ S 2 k 0 ≤ S 2 x.toNatClampNeg 0) : nI k = bst S p (k + 1) := by
  show nI k = if _ then nI k else _
  rw [e] at c2
  rw [if_pos ⟨c, c2⟩]
theorem bsm_n {S : Nat → Nat → Nat → Int32} {p x : Int32} {k : Nat} (e : x = bst S p k) (c : ¬ (S 1 k 0 = p ∧ (x = -1 ∨ ¬ S 2 k 0 ≤ S 2 x.toNatClampNeg 0))) : x = bst S p (k + 1) := by
  show x = if _ then nI k else _
  rw [e] at c
  rw [if_neg c, e]
theorem bst_lt {S : Nat → Nat → Nat → Int32} {p x : Int32} {k : Nat} (e : x = bst S p k) (c : ¬ x < 0) : ∃ j, j < k ∧ x = nI j := by
  rcases bst_v (S := S) (p := p) k with h | ⟨u, hu, h⟩
  · rw [e, h] at c; exact absurd (by decide) c
  · exact ⟨u, hu, e.trans h⟩
theorem bst_m {S : Nat → Nat → Nat → Int32} {p x : Int32} {k : Nat} (e : x = bst S p k) (hk : k < 2 ^ 31) (c : x < 0) : x = -1 := by
  rcases bst_v (S := S) (p := p) k with h | ⟨u, hu, h⟩
  · exact e.trans h
  · rw [e, h] at c; exact absurd c (nI_pos (by omega))

set_option maxHeartbeats 4000000 in
set_option maxRecDepth 100000 in
theorem r_X9_strongest (l : Launch) (dC : Nat → ClassId) (dI : Nat → Nat → Nat) (h0 : Nat) (m1 : Nat) (m5 : Nat) (m6 : Nat) (m7 : Nat) (m15 : Nat) (m16 : Nat) (m17 : Nat) (m18 : Nat) (m19 : Nat) (m20 : Nat) (m22 : Nat) (m23 : Nat) (m24 : Nat) (m25 : Nat) (m26 : Nat) (m27 : Nat) (m28 : Nat) (m29 : Nat) (m30 : Nat) (m31 : Nat) (m32 : Nat) (m33 : Nat) (m34 : Nat) (m37 : Nat) (m38 : Nat) (m39 : Nat) (m40 : Nat) (m41 : Nat) (m42 : Nat) (m43 : Nat) (m44 : Nat) (m45 : Nat) (m46 : Nat) (i_thrown : Int32) (i_length : Int32) (i_size : Int32) (i_p : Int32) (i_token : Int32) (i_at : Int32) (i_number : Int32) (i_fault : Int32) (i_faultAt : Int32) (i_hour : Int32) (i_tablets : Int32) (i_riders : Int32) (i_word : Int64) (k_stands : ClassId) (k_strength : ClassId) (a_stands : Nat → Int32) (a_strength : Nat → Int32) (p0 : Int32) (h9 : Nat) (S : Nat → Nat → Nat → Int32) (sz : Nat) (hh9 : h9 ≤ 60) (hRH : RH S h9 a_stands a_strength) : Met l yX9_strongest wsX9_strongest ({ frames := 0, cells := 0, slots := 0, locals := 0 }) (va_Pc [.ref h0, .int p0] (cP dC dI [(h0, .inr (9, [.int i_thrown, .ref m1, .int i_length, .int i_size, .int i_p, .ref m5, .ref m6, .ref m7, .int i_token, .int i_at, .int i_number, .int i_fault, .int i_faultAt, .int i_hour, .long i_word, .ref m15, .ref m16, .ref m17, .ref m18, .ref m19, .ref m20, .int (nI h9), .ref m22, .ref m23, .ref m24, .ref m25, .ref m26, .ref m27, .ref m28, .ref m29, .ref m30, .ref m31, .ref m32, .ref m33, .ref m34, .int i_tablets, .int i_riders, .ref m37, .ref m38, .ref m39, .ref m40, .ref m41, .ref m42, .ref m43, .ref m44, .ref m45, .ref m46])), (m20, .inl (k_stands, 60, .inl a_stands)), (m19, .inl (k_strength, 60, .inl a_strength))] [(k_stands, .int), (k_strength, .int)] sz)) (vp_Si (fun r => r = bst S p0 h9)) 0 0 (fun _ => False) := by
  refine Met.ofW (cc := cX9_strongest) (maxL := 4) (ret := (some .int)) (by decide) rfl ?_
  intro p e s m args below meth c s₁ B hml hv
  obtain ⟨rfl, hsz, hP, hK, hD0, hN⟩ := hv
  have hx := B.exec
  have hb := B.bytes
  have hr := B.returns
  have hts := atoms_spec (ws := wsX9_strongest) B.pre
  have hown : s.vm.findClass RX9 = some m.cls := findClass_of_methodNamed B.named
  have hlocks := B.notSynchronized
  subst hsz
  have hin9 : ∀ w ∈ u_ws RX9 TX9 47, w ∈ wsX9_strongest := by decide +kernel
  have hD := hD0
  have hP : va_P (dC, dI) vwCl [(h0, .inr (9, [.int i_thrown, .ref m1, .int i_length, .int i_size, .int i_p, .ref m5, .ref m6, .ref m7, .int i_token, .int i_at, .int i_number, .int i_fault, .int i_faultAt, .int i_hour, .long i_word, .ref m15, .ref m16, .ref m17, .ref m18, .ref m19, .ref m20, .int (nI h9), .ref m22, .ref m23, .ref m24, .ref m25, .ref m26, .ref m27, .ref m28, .ref m29, .ref m30, .ref m31, .ref m32, .ref m33, .ref m34, .int i_tablets, .int i_riders, .ref m37, .ref m38, .ref m39, .ref m40, .ref m41, .ref m42, .ref m43, .ref m44, .ref m45, .ref m46])), (m20, .inl (k_stands, 60, .inl a_stands)), (m19, .inl (k_strength, 60, .inl a_strength))] s.heap := hP
  have hl := lv_entry ([.ref h0, .int p0]) (n := 4) (Nat.le_of_ble_eq_true rfl)
  rw [lg_entry_eq]
  generalize (lg_sl ([.ref h0, .int p0]) ++ List.replicate (4 - (lg_sl ([.ref h0, .int p0])).length) Slot.unset).toArray = ls at hl ⊢
  have hl : lv_has ls 4 [(0, .ref h0), (1, .int p0)] := hl
  refine lv_iconst (v := (-1)) hx hb dX9_strongest_0 (by decide) ?_
  refine lv_istore_n (lv' := [(2, .int (-1)), (0, .ref h0), (1, .int p0)]) hx hb dX9_strongest_1 rfl hl (by decide) rfl (fun ls hl => ?_)
  refine lv_iconst (v := 0) hx hb dX9_strongest_2 (by decide) ?_
  refine lv_istore_n (lv' := [(3, .int 0), (2, .int (-1)), (0, .ref h0), (1, .int p0)]) hx hb dX9_strongest_3 rfl hl (by decide) rfl (fun ls hl => ?_)
  have HL : ∀ (n k : Nat) (b9 : Int32), k ≤ h9 → h9 + 1 ≤ k + n → (b9 = bst S p0 k) → ∀ ls : Array Slot, lv_has ls 4 [(0, .ref h0), (1, .int p0), (2, .int b9), (3, .int (nI k))] → W p l e (headSpec wsX9_strongest ({ frames := 0, cells := 0, slots := 0, locals := 0 })).room s m ([.ref h0, .int p0]).toArray below meth c s.heap [] 0 0 (MQ below (vp_Si (fun r => r = bst S p0 h9)) ([.ref h0, .int p0]).toArray s 0 0 (fun _ => False)) (F0 m 4 ls []) := by
    intro n
    induction n with
    | zero => intro k b9 h1 h2; exact absurd h2 (by omega)
    | succ n ih =>
      intro k b9 hk hn hb9 ls hl
      refine lv_iload_n hx hb dX9_strongest_4 rfl (lv_at hl 3 rfl) ?_
      refine lv_aload_n hx hb dX9_strongest_5 rfl (lv_at hl 0 rfl) ?_
      refine va_get (D := (dC, dI)) (ci := 9) (v := .int (nI h9)) (C := RX9) (T := TX9) (N := 47) hx hb hts hin9 hown hK hP 0 rfl rfl 21 (by decide) (hts (.fieldLink RX9 202 "YamRidersModel" "horses" "I") (by decide +kernel)) (fun _ h9 => h9) rfl dX9_strongest_6 ?_
      refine lv_icmp_ge (tgt := 49) hx hb dX9_strongest_9 (by decide) (fun c_1 => ?_) (fun c_1 => ?_)
      · have hke : k = h9 := by
          have h9 := (nI_leI (by omega) (by omega)).mp c_1
          omega
        refine lv_iload_n hx hb dX9_strongest_49 rfl (lv_at hl 2 rfl) ?_
        exact W.iret (v := b9) hx hb hr (fun t9 ht hW => ⟨_, rfl, (hke ▸ hb9), ht⟩) (fun q h => nomatch h) dX9_strongest_50
      · have hlt : k < h9 := Decidable.byContradiction fun q => c_1 (nI_le (by omega) (by omega))
        refine lv_aload_n hx hb dX9_strongest_12 rfl (lv_at hl 0 rfl) ?_
        refine va_get (D := (dC, dI)) (ci := 9) (v := .ref m20) (C := RX9) (T := TX9) (N := 47) hx hb hts hin9 hown hK hP 0 rfl rfl 20 (by decide) (hts (.fieldLink RX9 39 "YamRidersModel" "stands" "[I") (by decide +kernel)) (fun _ h9 => h9) rfl dX9_strongest_13 ?_
        refine lv_iload_n hx hb dX9_strongest_16 rfl (lv_at hl 3 rfl) ?_
        refine va_iald hx hb hK hP 1 0 rfl rfl (vp_in_nI (by omega) (by decide)) dX9_strongest_17 ?_
        refine lv_topi (fun v_2 ev_2 => ?_)
        obtain rfl : v_2 = a_stands k := ev_2.trans (by rw [(nI_clamp (by omega))])
        refine lv_iload_n hx hb dX9_strongest_18 rfl (lv_at hl 1 rfl) ?_
        refine lv_icmp_ne (tgt := 43) hx hb dX9_strongest_19 (by decide) (fun c_3 => ?_) (fun c_3 => ?_)
        · refine lv_iinc (v := nI (k + 1)) (lv' := [(3, .int (nI (k + 1))), (0, .ref h0), (1, .int p0), (2, .int b9)]) hx hb dX9_strongest_43 hl (k := 3) rfl (by exact (nI_1 k)) (by decide) rfl (fun ls hl => ?_)
          refine lv_goto (tgt := 4) hx hb dX9_strongest_46 (by decide) ?_
          exact ih (k + 1) b9 (by omega) (by omega) (bsm_n hb9 (fun w => c_3 (by rw [(hRH k (by omega)).1]; exact w.1))) ls (lv_sub hl [1, 2, 3, 0] rfl)
        · refine lv_iload_n hx hb dX9_strongest_22 rfl (lv_at hl 2 rfl) ?_
          refine lv_if_lt (tgt := 41) hx hb dX9_strongest_23 (by decide) (fun c_4 => ?_) (fun c_4 => ?_)
          · refine lv_iload_n hx hb dX9_strongest_41 rfl (lv_at hl 3 rfl) ?_
            refine lv_istore_n (lv' := [(2, .int (nI k)), (0, .ref h0), (1, .int p0), (3, .int (nI k))]) hx hb dX9_strongest_42 rfl hl (by decide) rfl (fun ls hl => ?_)
            refine lv_iinc (v := nI (k + 1)) (lv' := [(3, .int (nI (k + 1))), (2, .int (nI k)), (0, .ref h0), (1, .int p0)]) hx hb dX9_strongest_43 hl (k := 3) rfl (by exact (nI_1 k)) (by decide) rfl (fun ls hl => ?_)
            refine lv_goto (tgt := 4) hx hb dX9_strongest_46 (by decide) ?_
            exact ih (k + 1) (nI k) (by omega) (by omega) (bsm_y hb9 (by rw [← (hRH k (by omega)).1]; exact c_3) (Or.inl (bst_m hb9 (by omega) c_4))) ls (lv_sub hl [2, 3, 1, 0] rfl)
          · obtain ⟨jb, hjb, rfl⟩ := bst_lt hb9 c_4
            refine lv_aload_n hx hb dX9_strongest_26 rfl (lv_at hl 0 rfl) ?_
            refine va_get (D := (dC, dI)) (ci := 9) (v := .ref m19) (C := RX9) (T := TX9) (N := 47) hx hb hts hin9 hown hK hP 0 rfl rfl 19 (by decide) (hts (.fieldLink RX9 36 "YamRidersModel" "strength" "[I") (by decide +kernel)) (fun _ h9 => h9) rfl dX9_strongest_27 ?_
            refine lv_iload_n hx hb dX9_strongest_30 rfl (lv_at hl 3 rfl) ?_
            refine va_iald hx hb hK hP 2 1 rfl rfl (vp_in_nI (by omega) (by decide)) dX9_strongest_31 ?_
            refine lv_topi (fun v_5 ev_5 => ?_)
            obtain rfl : v_5 = a_strength k := ev_5.trans (by rw [(nI_clamp (by omega))])
            refine lv_aload_n hx hb dX9_strongest_32 rfl (lv_at hl 0 rfl) ?_
            refine va_get (D := (dC, dI)) (ci := 9) (v := .ref m19) (C := RX9) (T := TX9) (N := 47) hx hb hts hin9 hown hK hP 0 rfl rfl 19 (by decide) (hts (.fieldLink RX9 36 "YamRidersModel" "strength" "[I") (by decide +kernel)) (fun _ h9 => h9) rfl dX9_strongest_33 ?_
            refine lv_iload_n hx hb dX9_strongest_36 rfl (lv_at hl 2 rfl) ?_
            refine va_iald hx hb hK hP 2 1 rfl rfl (vp_in_nI (by omega) (by decide)) dX9_strongest_37 ?_
            refine lv_topi (fun v_6 ev_6 => ?_)
            obtain rfl : v_6 = a_strength jb := ev_6.trans (by rw [(nI_clamp (by omega))])
            refine lv_icmp_le (tgt := 43) hx hb dX9_strongest_38 (by decide) (fun c_7 => ?_) (fun c_7 => ?_)
            · refine lv_iinc (v := nI (k + 1)) (lv' := [(3, .int (nI (k + 1))), (0, .ref h0), (1, .int p0), (2, .int (nI jb))]) hx hb dX9_strongest_43 hl (k := 3) rfl (by exact (nI_1 k)) (by decide) rfl (fun ls hl => ?_)
              refine lv_goto (tgt := 4) hx hb dX9_strongest_46 (by decide) ?_
              exact ih (k + 1) (nI jb) (by omega) (by omega) (bsm_n hb9 (fun w => w.2.elim (nI_m (by omega)) (fun y => y (by rw [nI_clamp (by omega), ← (hRH k (by omega)).2, ← (hRH jb (by omega)).2]; exact c_7)))) ls (lv_sub hl [1, 2, 3, 0] rfl)
            · refine lv_iload_n hx hb dX9_strongest_41 rfl (lv_at hl 3 rfl) ?_
              refine lv_istore_n (lv' := [(2, .int (nI k)), (0, .ref h0), (1, .int p0), (3, .int (nI k))]) hx hb dX9_strongest_42 rfl hl (by decide) rfl (fun ls hl => ?_)
              refine lv_iinc (v := nI (k + 1)) (lv' := [(3, .int (nI (k + 1))), (2, .int (nI k)), (0, .ref h0), (1, .int p0)]) hx hb dX9_strongest_43 hl (k := 3) rfl (by exact (nI_1 k)) (by decide) rfl (fun ls hl => ?_)
              refine lv_goto (tgt := 4) hx hb dX9_strongest_46 (by decide) ?_
              exact ih (k + 1) (nI k) (by omega) (by omega) (bsm_y hb9 (by rw [← (hRH k (by omega)).1]; exact c_3) (Or.inr (by rw [nI_clamp (by omega), ← (hRH k (by omega)).2, ← (hRH jb (by omega)).2]; exact c_7))) ls (lv_sub hl [2, 3, 1, 0] rfl)
  exact HL (h9 + 1) 0 (-1) (by omega) (by omega) rfl ls (lv_sub hl [2, 3, 1, 0] rfl)
