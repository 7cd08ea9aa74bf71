theorem fs_of {S : Nat → Nat → Nat → Int32} {z : Nat → Int32} {n : Nat} {b : Int32} (h : fsK S z n b) (c : ¬ b < 0) : ∃ j, j < n ∧ b = nI j ∧ z j = 0 ∧ ∀ i, i < n → z i = 0 → i = j ∨ lr2 S j i := by
  rcases h with ⟨h, _⟩ | h
  · rw [h] at c; exact absurd (by decide) c
  · exact h
theorem fs_none {S : Nat → Nat → Nat → Int32} {z : Nat → Int32} {n : Nat} {b : Int32} (h : fsK S z n b) (hn : n < 2 ^ 31) (c : b < 0) : b = -1 ∧ ∀ i, i < n → ¬ z i = 0 := by
  rcases h with h | ⟨j, hj, e, _⟩
  · exact h
  · rw [e] at c; exact absurd c (nI_pos (by omega))

theorem lr_a {S : Nat → Nat → Nat → Int32} {k j : Nat} {v w : Int32} (hk : v = S 33 k 0) (hj : w = S 33 j 0) (c : v < w) : lr2 S k j := Or.inl (by rw [hk, hj] at c; exact lt_i.mp c)
theorem lr_b {S : Nat → Nat → Nat → Int32} {k j : Nat} {v w v2 w2 : Int32} (hk : v = S 33 k 0) (hj : w = S 33 j 0) (hk2 : v2 = S 33 k 0) (hj2 : w2 = S 33 j 0) (c : ¬ v < w) (c2 : ¬ v2 = w2) : lr2 S j k := Or.inl (by
  rw [hk, hj, lt_i] at c
  rw [hk2, hj2, eq_I] at c2
  unfold rK; omega)
theorem lr_c {S : Nat → Nat → Nat → Int32} {k j : Nat} {v w x y : Int32} (hk : v = S 33 k 0) (hj : w = S 33 j 0) (c : v = w) (hx : x = S 38 j 0) (hy : y = S 38 k 0) (c2 : x ≤ y) (hjk : j < k) : lr2 S j k := by
  rw [hk, hj, eq_I] at c
  rw [hx, hy, le_i] at c2
  unfold lr2 rK cM; omega
theorem lr_d {S : Nat → Nat → Nat → Int32} {k j : Nat} {v w x y : Int32} (hk : v = S 33 k 0) (hj : w = S 33 j 0) (c : v = w) (hx : x = S 38 j 0) (hy : y = S 38 k 0) (c2 : ¬ x ≤ y) : lr2 S k j := by
  rw [hk, hj, eq_I] at c
  rw [hx, hy, le_i] at c2
  unfold lr2 rK cM; omega

set_option maxHeartbeats 4000000 in
set_option maxRecDepth 100000 in
theorem r_X9_first (l : Launch) (dC : Nat → ClassId) (dI : Nat → Nat → Nat) (h0 : Nat) (m1 : Nat) (m5 : Nat) (m6 : Nat) (m7 : Nat) (m15 : Nat) (m16 : Nat) (m17 : Nat) (m18 : Nat) (m19 : Nat) (m20 : Nat) (m22 : Nat) (m23 : Nat) (m24 : Nat) (m25 : Nat) (m26 : Nat) (m27 : Nat) (m28 : Nat) (m29 : Nat) (m30 : Nat) (m31 : Nat) (m32 : Nat) (m33 : Nat) (m34 : Nat) (m37 : Nat) (m38 : Nat) (m39 : Nat) (m40 : Nat) (m41 : Nat) (m42 : Nat) (m43 : Nat) (m44 : Nat) (m45 : Nat) (m46 : Nat) (i_thrown : Int32) (i_length : Int32) (i_size : Int32) (i_p : Int32) (i_token : Int32) (i_at : Int32) (i_number : Int32) (i_fault : Int32) (i_faultAt : Int32) (i_hour : Int32) (i_horses : Int32) (i_tablets : Int32) (i_word : Int64) (k_asked : ClassId) (k_rank : ClassId) (k_tabletOf : ClassId) (k_cameIn : ClassId) (a_asked : Nat → Int32) (a_rank : Nat → Int32) (a_tabletOf : Nat → Int32) (a_cameIn : Nat → Int32) (r9 : Nat) (S : Nat → Nat → Nat → Int32) (sz : Nat) (hr9 : r9 ≤ 60) (hTb : Tb a_tabletOf r9) (hRC : ∀ r, r < r9 → a_rank (a_tabletOf r).toNatClampNeg = S 33 r 0 ∧ a_cameIn r = S 38 r 0) : Met l yX9_first wsX9_first ({ frames := 0, cells := 0, slots := 0, locals := 0 }) (va_Pc [.ref h0] (cP dC dI [(h0, .inr (9, [.int i_thrown, .ref m1, .int i_length, .int i_size, .int i_p, .ref m5, .ref m6, .ref m7, .int i_token, .int i_at, .int i_number, .int i_fault, .int i_faultAt, .int i_hour, .long i_word, .ref m15, .ref m16, .ref m17, .ref m18, .ref m19, .ref m20, .int i_horses, .ref m22, .ref m23, .ref m24, .ref m25, .ref m26, .ref m27, .ref m28, .ref m29, .ref m30, .ref m31, .ref m32, .ref m33, .ref m34, .int i_tablets, .int (nI r9), .ref m37, .ref m38, .ref m39, .ref m40, .ref m41, .ref m42, .ref m43, .ref m44, .ref m45, .ref m46])), (m38, .inl (k_asked, 60, .inl a_asked)), (m22, .inl (k_rank, 20, .inl a_rank)), (m27, .inl (k_tabletOf, 60, .inl a_tabletOf)), (m30, .inl (k_cameIn, 60, .inl a_cameIn))] [(k_asked, .boolean), (k_rank, .int), (k_tabletOf, .int), (k_cameIn, .int)] sz)) (vp_Si (fun r => fsK S a_asked r9 r)) 0 0 (fun _ => False) := by
  refine Met.ofW (cc := cX9_first) (maxL := 3) (ret := (some .int)) (by decide) rfl ?_
  intro p e s m args below meth c s₁ B hml hv
  obtain ⟨rfl, hsz, hP, hK, hD0, hN⟩ := hv
  have hx := B.exec
  have hb := B.bytes
  have hr := B.returns
  have hts := atoms_spec (ws := wsX9_first) B.pre
  have hown : s.vm.findClass RX9 = some m.cls := findClass_of_methodNamed B.named
  have hlocks := B.notSynchronized
  subst hsz
  have hin9 : ∀ w ∈ u_ws RX9 TX9 47, w ∈ wsX9_first := by decide +kernel
  have hD := hD0
  have hP : va_P (dC, dI) vwCl [(h0, .inr (9, [.int i_thrown, .ref m1, .int i_length, .int i_size, .int i_p, .ref m5, .ref m6, .ref m7, .int i_token, .int i_at, .int i_number, .int i_fault, .int i_faultAt, .int i_hour, .long i_word, .ref m15, .ref m16, .ref m17, .ref m18, .ref m19, .ref m20, .int i_horses, .ref m22, .ref m23, .ref m24, .ref m25, .ref m26, .ref m27, .ref m28, .ref m29, .ref m30, .ref m31, .ref m32, .ref m33, .ref m34, .int i_tablets, .int (nI r9), .ref m37, .ref m38, .ref m39, .ref m40, .ref m41, .ref m42, .ref m43, .ref m44, .ref m45, .ref m46])), (m38, .inl (k_asked, 60, .inl a_asked)), (m22, .inl (k_rank, 20, .inl a_rank)), (m27, .inl (k_tabletOf, 60, .inl a_tabletOf)), (m30, .inl (k_cameIn, 60, .inl a_cameIn))] s.heap := hP
  have hl := lv_entry ([.ref h0]) (n := 3) (Nat.le_of_ble_eq_true rfl)
  rw [lg_entry_eq]
  generalize (lg_sl ([.ref h0]) ++ List.replicate (3 - (lg_sl ([.ref h0])).length) Slot.unset).toArray = ls at hl ⊢
  have hl : lv_has ls 3 [(0, .ref h0)] := hl
  refine lv_iconst (v := (-1)) hx hb dX9_first_0 (by decide) ?_
  refine lv_istore_n (lv' := [(1, .int (-1)), (0, .ref h0)]) hx hb dX9_first_1 rfl hl (by decide) rfl (fun ls hl => ?_)
  refine lv_iconst (v := 0) hx hb dX9_first_2 (by decide) ?_
  refine lv_istore_n (lv' := [(2, .int 0), (1, .int (-1)), (0, .ref h0)]) hx hb dX9_first_3 rfl hl (by decide) rfl (fun ls hl => ?_)
  have HL : ∀ (n k : Nat) (b9 : Int32), k ≤ r9 → r9 + 1 ≤ k + n → (fsK S a_asked k b9) → ∀ ls : Array Slot, lv_has ls 3 [(0, .ref h0), (1, .int b9), (2, .int (nI k))] → W p l e (headSpec wsX9_first ({ frames := 0, cells := 0, slots := 0, locals := 0 })).room s m ([.ref h0]).toArray below meth c s.heap [] 0 0 (MQ below (vp_Si (fun r => fsK S a_asked r9 r)) ([.ref h0]).toArray s 0 0 (fun _ => False)) (F0 m 4 ls []) := by
    intro n
    induction n with
    | zero => intro k b9 h1 h2; exact absurd h2 (by omega)
    | succ n ih =>
      intro k b9 hk hn hb9 ls hl
      refine lv_iload_n hx hb dX9_first_4 rfl (lv_at hl 2 rfl) ?_
      refine lv_aload_n hx hb dX9_first_5 rfl (lv_at hl 0 rfl) ?_
      refine va_get (D := (dC, dI)) (ci := 9) (v := .int (nI r9)) (C := RX9) (T := TX9) (N := 47) hx hb hts hin9 hown hK hP 0 rfl rfl 36 (by decide) (hts (.fieldLink RX9 208 "YamRidersModel" "riders" "I") (by decide +kernel)) (fun _ h9 => h9) rfl dX9_first_6 ?_
      refine lv_icmp_ge (tgt := 101) hx hb dX9_first_9 (by decide) (fun c_1 => ?_) (fun c_1 => ?_)
      · have hke : k = r9 := by
          have h9 := (nI_leI (by omega) (by omega)).mp c_1
          omega
        refine lv_iload_n hx hb dX9_first_101 rfl (lv_at hl 1 rfl) ?_
        exact W.iret (v := b9) hx hb hr (fun t9 ht hW => ⟨_, rfl, (hke ▸ hb9), ht⟩) (fun q h => nomatch h) dX9_first_102
      · have hlt : k < r9 := Decidable.byContradiction fun q => c_1 (nI_le (by omega) (by omega))
        refine lv_aload_n hx hb dX9_first_12 rfl (lv_at hl 0 rfl) ?_
        refine va_get (D := (dC, dI)) (ci := 9) (v := .ref m38) (C := RX9) (T := TX9) (N := 47) hx hb hts hin9 hown hK hP 0 rfl rfl 38 (by decide) (hts (.fieldLink RX9 84 "YamRidersModel" "asked" "[Z") (by decide +kernel)) (fun _ h9 => h9) rfl dX9_first_13 ?_
        refine lv_iload_n hx hb dX9_first_16 rfl (lv_at hl 2 rfl) ?_
        refine va_zald hx hb hK hP 1 0 rfl rfl (vp_in_nI (by omega) (by decide)) dX9_first_17 ?_
        refine lv_topi (fun v_2 ev_2 => ?_)
        obtain rfl : v_2 = a_asked k := ev_2.trans (by rw [(nI_clamp (by omega))])
        refine lv_if_eq (tgt := 24) hx hb dX9_first_18 (by decide) (fun c_3 => ?_) (fun c_3 => ?_)
        · refine lv_iload_n hx hb dX9_first_24 rfl (lv_at hl 1 rfl) ?_
          refine lv_if_lt (tgt := 93) hx hb dX9_first_25 (by decide) (fun c_4 => ?_) (fun c_4 => ?_)
          · refine lv_iload_n hx hb dX9_first_93 rfl (lv_at hl 2 rfl) ?_
            refine lv_istore_n (lv' := [(1, .int (nI k)), (0, .ref h0), (2, .int (nI k))]) hx hb dX9_first_94 rfl hl (by decide) rfl (fun ls hl => ?_)
            refine lv_iinc (v := nI (k + 1)) (lv' := [(2, .int (nI (k + 1))), (1, .int (nI k)), (0, .ref h0)]) hx hb dX9_first_95 hl (k := 2) rfl (by exact (nI_1 k)) (by decide) rfl (fun ls hl => ?_)
            refine lv_goto (tgt := 4) hx hb dX9_first_98 (by decide) ?_
            exact ih (k + 1) (nI k) (by omega) (by omega) (fs_n c_3 (fun i hi hz => absurd hz ((fs_none hb9 (by omega) c_4).2 i hi))) ls (lv_sub hl [2, 1, 0] rfl)
          · obtain ⟨jb, hjb, rfl, hz0, hmn⟩ := fs_of hb9 c_4
            refine lv_aload_n hx hb dX9_first_28 rfl (lv_at hl 0 rfl) ?_
            refine va_get (D := (dC, dI)) (ci := 9) (v := .ref m22) (C := RX9) (T := TX9) (N := 47) hx hb hts hin9 hown hK hP 0 rfl rfl 22 (by decide) (hts (.fieldLink RX9 42 "YamRidersModel" "rank" "[I") (by decide +kernel)) (fun _ h9 => h9) rfl dX9_first_29 ?_
            refine lv_aload_n hx hb dX9_first_32 rfl (lv_at hl 0 rfl) ?_
            refine va_get (D := (dC, dI)) (ci := 9) (v := .ref m27) (C := RX9) (T := TX9) (N := 47) hx hb hts hin9 hown hK hP 0 rfl rfl 27 (by decide) (hts (.fieldLink RX9 57 "YamRidersModel" "tabletOf" "[I") (by decide +kernel)) (fun _ h9 => h9) rfl dX9_first_33 ?_
            refine lv_iload_n hx hb dX9_first_36 rfl (lv_at hl 2 rfl) ?_
            refine va_iald hx hb hK hP 3 2 rfl rfl (vp_in_nI (by omega) (by decide)) dX9_first_37 ?_
            refine lv_topi (fun v_5 ev_5 => ?_)
            obtain rfl : v_5 = a_tabletOf k := ev_5.trans (by rw [(nI_clamp (by omega))])
            refine va_iald hx hb hK hP 2 1 rfl rfl (vin (hTb k (by omega)).1 (hTb k (by omega)).2) dX9_first_38 ?_
            refine lv_topi (fun v_6 ev_6 => ?_)
            refine lv_aload_n hx hb dX9_first_39 rfl (lv_at hl 0 rfl) ?_
            refine va_get (D := (dC, dI)) (ci := 9) (v := .ref m22) (C := RX9) (T := TX9) (N := 47) hx hb hts hin9 hown hK hP 0 rfl rfl 22 (by decide) (hts (.fieldLink RX9 42 "YamRidersModel" "rank" "[I") (by decide +kernel)) (fun _ h9 => h9) rfl dX9_first_40 ?_
            refine lv_aload_n hx hb dX9_first_43 rfl (lv_at hl 0 rfl) ?_
            refine va_get (D := (dC, dI)) (ci := 9) (v := .ref m27) (C := RX9) (T := TX9) (N := 47) hx hb hts hin9 hown hK hP 0 rfl rfl 27 (by decide) (hts (.fieldLink RX9 57 "YamRidersModel" "tabletOf" "[I") (by decide +kernel)) (fun _ h9 => h9) rfl dX9_first_44 ?_
            refine lv_iload_n hx hb dX9_first_47 rfl (lv_at hl 1 rfl) ?_
            refine va_iald hx hb hK hP 3 2 rfl rfl (vp_in_nI (by omega) (by decide)) dX9_first_48 ?_
            refine lv_topi (fun v_7 ev_7 => ?_)
            obtain rfl : v_7 = a_tabletOf jb := ev_7.trans (by rw [(nI_clamp (by omega))])
            refine va_iald hx hb hK hP 2 1 rfl rfl (vin (hTb jb (by omega)).1 (hTb jb (by omega)).2) dX9_first_49 ?_
            refine lv_topi (fun v_8 ev_8 => ?_)
            refine lv_icmp_lt (tgt := 93) hx hb dX9_first_50 (by decide) (fun c_9 => ?_) (fun c_9 => ?_)
            · refine lv_iload_n hx hb dX9_first_93 rfl (lv_at hl 2 rfl) ?_
              refine lv_istore_n (lv' := [(1, .int (nI k)), (0, .ref h0), (2, .int (nI k))]) hx hb dX9_first_94 rfl hl (by decide) rfl (fun ls hl => ?_)
              refine lv_iinc (v := nI (k + 1)) (lv' := [(2, .int (nI (k + 1))), (1, .int (nI k)), (0, .ref h0)]) hx hb dX9_first_95 hl (k := 2) rfl (by exact (nI_1 k)) (by decide) rfl (fun ls hl => ?_)
              refine lv_goto (tgt := 4) hx hb dX9_first_98 (by decide) ?_
              exact ih (k + 1) (nI k) (by omega) (by omega) (fs_n c_3 (fun i hi hz => (hmn i hi hz).elim (fun e => e ▸ (lr_a (ev_6.trans (hRC k (by omega)).1) (ev_8.trans (hRC jb (by omega)).1) c_9)) (fun w => lr2_tr (lr_a (ev_6.trans (hRC k (by omega)).1) (ev_8.trans (hRC jb (by omega)).1) c_9) w))) ls (lv_sub hl [2, 1, 0] rfl)
            · refine lv_aload_n hx hb dX9_first_53 rfl (lv_at hl 0 rfl) ?_
              refine va_get (D := (dC, dI)) (ci := 9) (v := .ref m22) (C := RX9) (T := TX9) (N := 47) hx hb hts hin9 hown hK hP 0 rfl rfl 22 (by decide) (hts (.fieldLink RX9 42 "YamRidersModel" "rank" "[I") (by decide +kernel)) (fun _ h9 => h9) rfl dX9_first_54 ?_
              refine lv_aload_n hx hb dX9_first_57 rfl (lv_at hl 0 rfl) ?_
              refine va_get (D := (dC, dI)) (ci := 9) (v := .ref m27) (C := RX9) (T := TX9) (N := 47) hx hb hts hin9 hown hK hP 0 rfl rfl 27 (by decide) (hts (.fieldLink RX9 57 "YamRidersModel" "tabletOf" "[I") (by decide +kernel)) (fun _ h9 => h9) rfl dX9_first_58 ?_
              refine lv_iload_n hx hb dX9_first_61 rfl (lv_at hl 2 rfl) ?_
              refine va_iald hx hb hK hP 3 2 rfl rfl (vp_in_nI (by omega) (by decide)) dX9_first_62 ?_
              refine lv_topi (fun v_10 ev_10 => ?_)
              obtain rfl : v_10 = a_tabletOf k := ev_10.trans (by rw [(nI_clamp (by omega))])
              refine va_iald hx hb hK hP 2 1 rfl rfl (vin (hTb k (by omega)).1 (hTb k (by omega)).2) dX9_first_63 ?_
              refine lv_topi (fun v_11 ev_11 => ?_)
              refine lv_aload_n hx hb dX9_first_64 rfl (lv_at hl 0 rfl) ?_
              refine va_get (D := (dC, dI)) (ci := 9) (v := .ref m22) (C := RX9) (T := TX9) (N := 47) hx hb hts hin9 hown hK hP 0 rfl rfl 22 (by decide) (hts (.fieldLink RX9 42 "YamRidersModel" "rank" "[I") (by decide +kernel)) (fun _ h9 => h9) rfl dX9_first_65 ?_
              refine lv_aload_n hx hb dX9_first_68 rfl (lv_at hl 0 rfl) ?_
              refine va_get (D := (dC, dI)) (ci := 9) (v := .ref m27) (C := RX9) (T := TX9) (N := 47) hx hb hts hin9 hown hK hP 0 rfl rfl 27 (by decide) (hts (.fieldLink RX9 57 "YamRidersModel" "tabletOf" "[I") (by decide +kernel)) (fun _ h9 => h9) rfl dX9_first_69 ?_
              refine lv_iload_n hx hb dX9_first_72 rfl (lv_at hl 1 rfl) ?_
              refine va_iald hx hb hK hP 3 2 rfl rfl (vp_in_nI (by omega) (by decide)) dX9_first_73 ?_
              refine lv_topi (fun v_12 ev_12 => ?_)
              obtain rfl : v_12 = a_tabletOf jb := ev_12.trans (by rw [(nI_clamp (by omega))])
              refine va_iald hx hb hK hP 2 1 rfl rfl (vin (hTb jb (by omega)).1 (hTb jb (by omega)).2) dX9_first_74 ?_
              refine lv_topi (fun v_13 ev_13 => ?_)
              refine lv_icmp_ne (tgt := 95) hx hb dX9_first_75 (by decide) (fun c_14 => ?_) (fun c_14 => ?_)
              · refine lv_iinc (v := nI (k + 1)) (lv' := [(2, .int (nI (k + 1))), (0, .ref h0), (1, .int (nI jb))]) hx hb dX9_first_95 hl (k := 2) rfl (by exact (nI_1 k)) (by decide) rfl (fun ls hl => ?_)
                refine lv_goto (tgt := 4) hx hb dX9_first_98 (by decide) ?_
                exact ih (k + 1) (nI jb) (by omega) (by omega) (fs_k hjb hz0 hmn (lr_b (ev_6.trans (hRC k (by omega)).1) (ev_8.trans (hRC jb (by omega)).1) (ev_11.trans (hRC k (by omega)).1) (ev_13.trans (hRC jb (by omega)).1) c_9 c_14)) ls (lv_sub hl [1, 2, 0] rfl)
              · refine lv_aload_n hx hb dX9_first_78 rfl (lv_at hl 0 rfl) ?_
                refine va_get (D := (dC, dI)) (ci := 9) (v := .ref m30) (C := RX9) (T := TX9) (N := 47) hx hb hts hin9 hown hK hP 0 rfl rfl 30 (by decide) (hts (.fieldLink RX9 66 "YamRidersModel" "cameIn" "[I") (by decide +kernel)) (fun _ h9 => h9) rfl dX9_first_79 ?_
                refine lv_iload_n hx hb dX9_first_82 rfl (lv_at hl 2 rfl) ?_
                refine va_iald hx hb hK hP 4 3 rfl rfl (vp_in_nI (by omega) (by decide)) dX9_first_83 ?_
                refine lv_topi (fun v_15 ev_15 => ?_)
                obtain rfl : v_15 = a_cameIn k := ev_15.trans (by rw [(nI_clamp (by omega))])
                refine lv_aload_n hx hb dX9_first_84 rfl (lv_at hl 0 rfl) ?_
                refine va_get (D := (dC, dI)) (ci := 9) (v := .ref m30) (C := RX9) (T := TX9) (N := 47) hx hb hts hin9 hown hK hP 0 rfl rfl 30 (by decide) (hts (.fieldLink RX9 66 "YamRidersModel" "cameIn" "[I") (by decide +kernel)) (fun _ h9 => h9) rfl dX9_first_85 ?_
                refine lv_iload_n hx hb dX9_first_88 rfl (lv_at hl 1 rfl) ?_
                refine va_iald hx hb hK hP 4 3 rfl rfl (vp_in_nI (by omega) (by decide)) dX9_first_89 ?_
                refine lv_topi (fun v_16 ev_16 => ?_)
                obtain rfl : v_16 = a_cameIn jb := ev_16.trans (by rw [(nI_clamp (by omega))])
                refine lv_icmp_ge (tgt := 95) hx hb dX9_first_90 (by decide) (fun c_17 => ?_) (fun c_17 => ?_)
                · refine lv_iinc (v := nI (k + 1)) (lv' := [(2, .int (nI (k + 1))), (0, .ref h0), (1, .int (nI jb))]) hx hb dX9_first_95 hl (k := 2) rfl (by exact (nI_1 k)) (by decide) rfl (fun ls hl => ?_)
                  refine lv_goto (tgt := 4) hx hb dX9_first_98 (by decide) ?_
                  exact ih (k + 1) (nI jb) (by omega) (by omega) (fs_k hjb hz0 hmn (lr_c (ev_11.trans (hRC k (by omega)).1) (ev_13.trans (hRC jb (by omega)).1) c_14 (hRC jb (by omega)).2 (hRC k (by omega)).2 c_17 hjb)) ls (lv_sub hl [1, 2, 0] rfl)
                · refine lv_iload_n hx hb dX9_first_93 rfl (lv_at hl 2 rfl) ?_
                  refine lv_istore_n (lv' := [(1, .int (nI k)), (0, .ref h0), (2, .int (nI k))]) hx hb dX9_first_94 rfl hl (by decide) rfl (fun ls hl => ?_)
                  refine lv_iinc (v := nI (k + 1)) (lv' := [(2, .int (nI (k + 1))), (1, .int (nI k)), (0, .ref h0)]) hx hb dX9_first_95 hl (k := 2) rfl (by exact (nI_1 k)) (by decide) rfl (fun ls hl => ?_)
                  refine lv_goto (tgt := 4) hx hb dX9_first_98 (by decide) ?_
                  exact ih (k + 1) (nI k) (by omega) (by omega) (fs_n c_3 (fun i hi hz => (hmn i hi hz).elim (fun e => e ▸ (lr_d (ev_11.trans (hRC k (by omega)).1) (ev_13.trans (hRC jb (by omega)).1) c_14 (hRC jb (by omega)).2 (hRC k (by omega)).2 c_17)) (fun w => lr2_tr (lr_d (ev_11.trans (hRC k (by omega)).1) (ev_13.trans (hRC jb (by omega)).1) c_14 (hRC jb (by omega)).2 (hRC k (by omega)).2 c_17) w))) ls (lv_sub hl [2, 1, 0] rfl)
        · refine lv_goto (tgt := 95) hx hb dX9_first_21 (by decide) ?_
          refine lv_iinc (v := nI (k + 1)) (lv' := [(2, .int (nI (k + 1))), (0, .ref h0), (1, .int b9)]) hx hb dX9_first_95 hl (k := 2) rfl (by exact (nI_1 k)) (by decide) rfl (fun ls hl => ?_)
          refine lv_goto (tgt := 4) hx hb dX9_first_98 (by decide) ?_
          exact ih (k + 1) b9 (by omega) (by omega) (fs_a hb9 c_3) ls (lv_sub hl [1, 2, 0] rfl)
  exact HL (r9 + 1) 0 (-1) (by omega) (by omega) fs_0 ls (lv_sub hl [2, 1, 0] rfl)
