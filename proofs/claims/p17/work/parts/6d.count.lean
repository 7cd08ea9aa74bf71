def cntE (f : Nat → Int32) (x : Int32) : Nat → Nat
  | 0 => 0
  | k + 1 => cntE f x k + (if f k = x then 1 else 0)
theorem cntE_t {f : Nat → Int32} {x : Int32} {k c9 : Nat} (hc : c9 = cntE f x k) (hk : k < 2 ^ 31) (h : f (nI k).toNatClampNeg = x) : c9 + 1 = cntE f x (k + 1) := by
  rw [nI_clamp hk] at h
  show c9 + 1 = cntE f x k + (if f k = x then 1 else 0)
  rw [if_pos h, hc]
theorem cntE_f {f : Nat → Int32} {x : Int32} {k c9 : Nat} (hc : c9 = cntE f x k) (hk : k < 2 ^ 31) (h : ¬ f (nI k).toNatClampNeg = x) : c9 = cntE f x (k + 1) := by
  rw [nI_clamp hk] at h
  show c9 = cntE f x k + (if f k = x then 1 else 0)
  rw [if_neg h, hc]; rfl
def bestP (f : Nat → Int32) (x : Int32) (n : Nat) (r : Int32) : Prop := r = -1 ∨ ∃ j, j < n ∧ r = nI j ∧ f j = x
theorem best_in {f : Nat → Int32} {x : Int32} {n : Nat} {r : Int32} (h : bestP f x n r) (hn : n ≤ 60) (c : ¬ r < 0) : vp_in r 60 := by
  rcases h with h | ⟨j, hj, rfl, -⟩
  · rw [h] at c; exact absurd (by decide) c
  · exact vp_in_nI (by omega) (by decide)
theorem best_up {f : Nat → Int32} {x : Int32} {n : Nat} {r : Int32} (h : bestP f x n r) : bestP f x (n + 1) r := by
  rcases h with h | ⟨j, hj, e, g⟩
  · exact Or.inl h
  · exact Or.inr ⟨j, by omega, e, g⟩
theorem best_new {f : Nat → Int32} {x : Int32} {k : Nat} (hk : k < 2 ^ 31) (h : f (nI k).toNatClampNeg = x) : bestP f x (k + 1) (nI k) := by
  rw [nI_clamp hk] at h
  exact Or.inr ⟨k, by omega, rfl, h⟩

set_option maxHeartbeats 4000000 in
set_option maxRecDepth 100000 in
theorem g_X9_horsesAt (l : Launch) (dC : Nat → ClassId) (dI : Nat → Nat → Nat) (h0 : Nat) (m1 : Nat) (m5 : Nat) (m6 : Nat) (m7 : Nat) (m15 : Nat) (m16 : Nat) (m17 : Nat) (m18 : Nat) (m19 : Nat) (m20 : Nat) (m22 : Nat) (m23 : Nat) (m24 : Nat) (m25 : Nat) (m26 : Nat) (m27 : Nat) (m28 : Nat) (m29 : Nat) (m30 : Nat) (m31 : Nat) (m32 : Nat) (m33 : Nat) (m34 : Nat) (m37 : Nat) (m38 : Nat) (m39 : Nat) (m40 : Nat) (m41 : Nat) (m42 : Nat) (m43 : Nat) (m44 : Nat) (m45 : Nat) (m46 : Nat) (i_thrown : Int32) (i_length : Int32) (i_size : Int32) (i_p : Int32) (i_token : Int32) (i_at : Int32) (i_number : Int32) (i_fault : Int32) (i_faultAt : Int32) (i_hour : Int32) (i_tablets : Int32) (i_riders : Int32) (i_word : Int64) (k_stands : ClassId) (a_stands : Nat → Int32) (p0 : Int32) (h9 : Nat) (sz : Nat) (hh9 : h9 ≤ 60) : Met l yX9_horsesAt wsX9_horsesAt ({ frames := 0, cells := 0, slots := 0, locals := 0 }) (va_Pc [.ref h0, .int p0] (cP dC dI [(h0, .inr (9, [.int i_thrown, .ref m1, .int i_length, .int i_size, .int i_p, .ref m5, .ref m6, .ref m7, .int i_token, .int i_at, .int i_number, .int i_fault, .int i_faultAt, .int i_hour, .long i_word, .ref m15, .ref m16, .ref m17, .ref m18, .ref m19, .ref m20, .int (nI h9), .ref m22, .ref m23, .ref m24, .ref m25, .ref m26, .ref m27, .ref m28, .ref m29, .ref m30, .ref m31, .ref m32, .ref m33, .ref m34, .int i_tablets, .int i_riders, .ref m37, .ref m38, .ref m39, .ref m40, .ref m41, .ref m42, .ref m43, .ref m44, .ref m45, .ref m46])), (m20, .inl (k_stands, 60, .inl a_stands))] [(k_stands, .int)] sz)) (vp_Si (fun r => r = nI (cntE a_stands p0 h9))) 0 0 (fun _ => False) := by
  refine Met.ofW (cc := cX9_horsesAt) (maxL := 4) (ret := (some .int)) (by decide) rfl ?_
  intro p e s m args below meth c s₁ B hml hv
  obtain ⟨rfl, hsz, hP, hK, hD0, hN⟩ := hv
  have hx := B.exec
  have hb := B.bytes
  have hr := B.returns
  have hts := atoms_spec (ws := wsX9_horsesAt) B.pre
  have hown : s.vm.findClass RX9 = some m.cls := findClass_of_methodNamed B.named
  have hlocks := B.notSynchronized
  subst hsz
  have hin9 : ∀ w ∈ u_ws RX9 TX9 47, w ∈ wsX9_horsesAt := by decide +kernel
  have hD := hD0
  have hP : va_P (dC, dI) vwCl [(h0, .inr (9, [.int i_thrown, .ref m1, .int i_length, .int i_size, .int i_p, .ref m5, .ref m6, .ref m7, .int i_token, .int i_at, .int i_number, .int i_fault, .int i_faultAt, .int i_hour, .long i_word, .ref m15, .ref m16, .ref m17, .ref m18, .ref m19, .ref m20, .int (nI h9), .ref m22, .ref m23, .ref m24, .ref m25, .ref m26, .ref m27, .ref m28, .ref m29, .ref m30, .ref m31, .ref m32, .ref m33, .ref m34, .int i_tablets, .int i_riders, .ref m37, .ref m38, .ref m39, .ref m40, .ref m41, .ref m42, .ref m43, .ref m44, .ref m45, .ref m46])), (m20, .inl (k_stands, 60, .inl a_stands))] s.heap := hP
  have hl := lv_entry ([.ref h0, .int p0]) (n := 4) (Nat.le_of_ble_eq_true rfl)
  rw [lg_entry_eq]
  generalize (lg_sl ([.ref h0, .int p0]) ++ List.replicate (4 - (lg_sl ([.ref h0, .int p0])).length) Slot.unset).toArray = ls at hl ⊢
  have hl : lv_has ls 4 [(0, .ref h0), (1, .int p0)] := hl
  refine lv_iconst (v := 0) hx hb dX9_horsesAt_0 (by decide) ?_
  refine lv_istore_n (lv' := [(2, .int 0), (0, .ref h0), (1, .int p0)]) hx hb dX9_horsesAt_1 rfl hl (by decide) rfl (fun ls hl => ?_)
  refine lv_iconst (v := 0) hx hb dX9_horsesAt_2 (by decide) ?_
  refine lv_istore_n (lv' := [(3, .int 0), (2, .int 0), (0, .ref h0), (1, .int p0)]) hx hb dX9_horsesAt_3 rfl hl (by decide) rfl (fun ls hl => ?_)
  have HL : ∀ (n k : Nat) (c9 : Nat), k ≤ h9 → h9 + 1 ≤ k + n → (c9 = cntE a_stands p0 k) → ∀ ls : Array Slot, lv_has ls 4 [(0, .ref h0), (1, .int p0), (2, .int (nI c9)), (3, .int (nI k))] → W p l e (headSpec wsX9_horsesAt ({ frames := 0, cells := 0, slots := 0, locals := 0 })).room s m ([.ref h0, .int p0]).toArray below meth c s.heap [] 0 0 (MQ below (vp_Si (fun r => r = nI (cntE a_stands p0 h9))) ([.ref h0, .int p0]).toArray s 0 0 (fun _ => False)) (F0 m 4 ls []) := by
    intro n
    induction n with
    | zero => intro k c9 h1 h2; exact absurd h2 (by omega)
    | succ n ih =>
      intro k c9 hk hn hc ls hl
      refine lv_iload_n hx hb dX9_horsesAt_4 rfl (lv_at hl 3 rfl) ?_
      refine lv_aload_n hx hb dX9_horsesAt_5 rfl (lv_at hl 0 rfl) ?_
      refine va_get (D := (dC, dI)) (ci := 9) (v := .int (nI h9)) (C := RX9) (T := TX9) (N := 47) hx hb hts hin9 hown hK hP 0 rfl rfl 21 (by decide) (hts (.fieldLink RX9 202 "YamRidersModel" "horses" "I") (by decide +kernel)) (fun _ h9 => h9) rfl dX9_horsesAt_6 ?_
      refine lv_icmp_ge (tgt := 36) hx hb dX9_horsesAt_9 (by decide) (fun c_1 => ?_) (fun c_1 => ?_)
      · have hke : k = h9 := by
          have h9 := (nI_leI (by omega) (by omega)).mp c_1
          omega
        refine lv_iload_n hx hb dX9_horsesAt_36 rfl (lv_at hl 2 rfl) ?_
        exact W.iret (v := nI c9) hx hb hr (fun t9 ht hW => ⟨_, rfl, (by rw [hc, hke]), ht⟩) (fun q h => nomatch h) dX9_horsesAt_37
      · have hlt : k < h9 := Decidable.byContradiction fun q => c_1 (nI_le (by omega) (by omega))
        refine lv_iload_n hx hb dX9_horsesAt_12 rfl (lv_at hl 2 rfl) ?_
        refine lv_aload_n hx hb dX9_horsesAt_13 rfl (lv_at hl 0 rfl) ?_
        refine va_get (D := (dC, dI)) (ci := 9) (v := .ref m20) (C := RX9) (T := TX9) (N := 47) hx hb hts hin9 hown hK hP 0 rfl rfl 20 (by decide) (hts (.fieldLink RX9 39 "YamRidersModel" "stands" "[I") (by decide +kernel)) (fun _ h9 => h9) rfl dX9_horsesAt_14 ?_
        refine lv_iload_n hx hb dX9_horsesAt_17 rfl (lv_at hl 3 rfl) ?_
        refine va_iald hx hb hK hP 1 0 rfl rfl (vp_in_nI (by omega) (by decide)) dX9_horsesAt_18 ?_
        refine lv_iload_n hx hb dX9_horsesAt_19 rfl (lv_at hl 1 rfl) ?_
        refine lv_icmp_ne (tgt := 27) hx hb dX9_horsesAt_20 (by decide) (fun c_2 => ?_) (fun c_2 => ?_)
        · refine lv_iconst (v := 0) hx hb dX9_horsesAt_27 (by decide) ?_
          refine lv_iadd hx hb dX9_horsesAt_28 ?_
          refine lv_topi (fun y_3 ey_3 => ?_)
          obtain rfl : y_3 = nI c9 := ey_3.trans (Int32.add_zero _)
          refine lv_istore_n (lv' := [(2, .int (nI c9)), (0, .ref h0), (1, .int p0), (3, .int (nI k))]) hx hb dX9_horsesAt_29 rfl hl (by decide) rfl (fun ls hl => ?_)
          refine lv_iinc (v := nI (k + 1)) (lv' := [(3, .int (nI (k + 1))), (2, .int (nI c9)), (0, .ref h0), (1, .int p0)]) hx hb dX9_horsesAt_30 hl (k := 3) rfl (by exact (nI_1 k)) (by decide) rfl (fun ls hl => ?_)
          refine lv_goto (tgt := 4) hx hb dX9_horsesAt_33 (by decide) ?_
          exact ih (k + 1) c9 (by omega) (by omega) (cntE_f hc (by omega) c_2) ls (lv_sub hl [2, 3, 1, 0] rfl)
        · refine lv_iconst (v := 1) hx hb dX9_horsesAt_23 (by decide) ?_
          refine lv_goto (tgt := 28) hx hb dX9_horsesAt_24 (by decide) ?_
          refine lv_iadd hx hb dX9_horsesAt_28 ?_
          refine lv_topi (fun y_4 ey_4 => ?_)
          obtain rfl : y_4 = nI (c9 + 1) := ey_4.trans (nI_1 c9)
          refine lv_istore_n (lv' := [(2, .int (nI (c9 + 1))), (0, .ref h0), (1, .int p0), (3, .int (nI k))]) hx hb dX9_horsesAt_29 rfl hl (by decide) rfl (fun ls hl => ?_)
          refine lv_iinc (v := nI (k + 1)) (lv' := [(3, .int (nI (k + 1))), (2, .int (nI (c9 + 1))), (0, .ref h0), (1, .int p0)]) hx hb dX9_horsesAt_30 hl (k := 3) rfl (by exact (nI_1 k)) (by decide) rfl (fun ls hl => ?_)
          refine lv_goto (tgt := 4) hx hb dX9_horsesAt_33 (by decide) ?_
          exact ih (k + 1) (c9 + 1) (by omega) (by omega) (cntE_t hc (by omega) c_2) ls (lv_sub hl [2, 3, 1, 0] rfl)
  exact HL (h9 + 1) 0 0 (by omega) (by omega) rfl ls (lv_sub hl [2, 3, 1, 0] rfl)
