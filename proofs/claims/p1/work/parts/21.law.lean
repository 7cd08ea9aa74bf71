set_option maxHeartbeats 40000000 in
set_option maxRecDepth 100000 in
theorem whole_start {p : Program} {e : Env} {s : State} {m : MethodId} {below : List Frame} {meth : Method} {c : Code} (l : Launch) (hst : l.stackTraces = false) {b L : Nat} {xs : Nat → Int32} (hL : L ≤ 6) (C0 : lw_At p s m meth c b L xs) : W p l e room_1 s m #[Value.ref b] below meth c s.heap [] 0 0 (lw_Z below #[Value.ref b] s) (entryFrame m ([Value.ref b] : List Value).toArray 7) := by
  obtain ⟨hx, hb, hr, hml, hown, hts0, hX, hbl, hlocks, hgv⟩ := id C0
  have hA : ∀ q : Nat, s.heap.size ≤ q → (fun q : Nat => s.heap.size ≤ q) q := fun _ h => h
  have hbA : ¬ (fun q : Nat => s.heap.size ≤ q) b := Nat.not_le.mpr hbl
  have hts : ∀ w ∈ wsL_law, w.before #[Value.ref b] s = true := fun w h => hts0 w (wsL_law_in w h)
  have hN : NW s := NW.start hts0
  have hnb0 : ∀ w ∈ nbl ++ [Cond.castable nsN nsN], va_Nw w s := fun w hw => va_Nw.of (nbl_tab w hw) (hts0 w (nb_in w hw))
  have hgf := flat_of_before _ hgv
  have hsa_rider := str_of (tx := "no such rider, or nothing of the kind is told of riders") (hgf (.exactly (.string "YamRiders" 175) "java/lang/String") (by decide +kernel)) (hts0 (.stringRef RX8 175 "no such rider, or nothing of the kind is told of riders") (List.mem_of_getElem? (i := 837) (by decide +kernel)))
  have hsa_steed := str_of (tx := "no such horse, or nothing of the kind is told of horses") (hgf (.exactly (.string "YamRiders" 204) "java/lang/String") (by decide +kernel)) (hts0 (.stringRef RX8 204 "no such horse, or nothing of the kind is told of horses") (List.mem_of_getElem? (i := 878) (by decide +kernel)))
  have hUz : vx_Zq Bundle.tN "UNASSIGNED_STACK" Bundle.steD (fun q : Nat => s.heap.size ≤ q) s s.heap := vx_Zqof (hts0 (.laysStatic Bundle.tN "UNASSIGNED_STACK" Bundle.steD) (List.mem_of_getElem? (i := 825) (by decide +kernel))) (hts0 (.initialized Bundle.tN) (List.mem_of_getElem? (i := 82) (by decide +kernel))) (hgf (.isRef (.static Bundle.tN "UNASSIGNED_STACK" Bundle.steD)) (by decide +kernel)) (fun a h => Nat.not_le.mpr h)
  have hSz : vx_Zq Bundle.tN "SUPPRESSED_SENTINEL" Bundle.listD (fun q : Nat => s.heap.size ≤ q) s s.heap := vx_Zqof (hts0 (.laysStatic Bundle.tN "SUPPRESSED_SENTINEL" Bundle.listD) (List.mem_of_getElem? (i := 827) (by decide +kernel))) (hts0 (.initialized Bundle.tN) (List.mem_of_getElem? (i := 82) (by decide +kernel))) (hgf (.isRef (.static Bundle.tN "SUPPRESSED_SENTINEL" Bundle.listD)) (by decide +kernel)) (fun a h => Nat.not_le.mpr h)
  obtain ⟨c0, iS0, hKn0⟩ := u_known (C := RX0) (T := TX0) (N := 3) (n := 3) hts inlX0 (hts0 (.instantiable RX0 3) (inst_in0))
  obtain ⟨c1, iS1, hKn1⟩ := u_known (C := RX1) (T := TX1) (N := 4) (n := 4) hts inlX1 (hts0 (.instantiable RX1 4) (inst_in1))
  obtain ⟨c2, iS2, hKn2⟩ := u_known (C := RX2) (T := TX2) (N := 10) (n := 10) hts inlX2 (hts0 (.instantiable RX2 10) (inst_in2))
  obtain ⟨c3, iS3, hKn3⟩ := u_known (C := RX3) (T := TX3) (N := 5) (n := 5) hts inlX3 (hts0 (.instantiable RX3 5) (inst_in3))
  obtain ⟨c4, iS4, hKn4⟩ := u_known (C := RX4) (T := TX4) (N := 10) (n := 10) hts inlX4 (hts0 (.instantiable RX4 10) (inst_in4))
  obtain ⟨c5, iS5, hKn5⟩ := u_known (C := RX5) (T := TX5) (N := 1) (n := 1) hts inlX5 (hts0 (.instantiable RX5 1) (inst_in5))
  obtain ⟨c6, iS6, hKn6⟩ := u_known (C := RX6) (T := TX6) (N := 2) (n := 2) hts inlX6 (hts0 (.instantiable RX6 2) (inst_in6))
  obtain ⟨c7, iS7, hKn7⟩ := u_known (C := RX7) (T := TX7) (N := 2) (n := 2) hts inlX7 (hts0 (.instantiable RX7 2) (inst_in7))
  obtain ⟨c8, iS8, hKn8⟩ := u_known (C := RX8) (T := TX8) (N := 15) (n := 15) hts inlX8 (hts0 (.instantiable RX8 15) (inst_in8))
  obtain ⟨c9, iS9, hKn9⟩ := u_known (C := RX9) (T := TX9) (N := 47) (n := 47) hts inlX9 (hts0 (.instantiable RX9 47) (inst_in9))
  obtain ⟨dC, dI, hKc⟩ : ∃ (dC : Nat → ClassId) (dI : Nat → Nat → Nat), ∀ (k : Nat) (q : vw_C), vwCl[k]? = some q → u_Kn s q.1 q.2.1 q.2.2 (dC k) (dI k) := by
    refine ⟨fun k => if k = 0 then c0 else (if k = 1 then c1 else (if k = 2 then c2 else (if k = 3 then c3 else (if k = 4 then c4 else (if k = 5 then c5 else (if k = 6 then c6 else (if k = 7 then c7 else (if k = 8 then c8 else (c9))))))))), fun k => if k = 0 then iS0 else (if k = 1 then iS1 else (if k = 2 then iS2 else (if k = 3 then iS3 else (if k = 4 then iS4 else (if k = 5 then iS5 else (if k = 6 then iS6 else (if k = 7 then iS7 else (if k = 8 then iS8 else (iS9))))))))), ?_⟩
    intro k q hq
    match k, hq with
    | 0, hq => cases hq; exact hKn0
    | 1, hq => cases hq; exact hKn1
    | 2, hq => cases hq; exact hKn2
    | 3, hq => cases hq; exact hKn3
    | 4, hq => cases hq; exact hKn4
    | 5, hq => cases hq; exact hKn5
    | 6, hq => cases hq; exact hKn6
    | 7, hq => cases hq; exact hKn7
    | 8, hq => cases hq; exact hKn8
    | 9, hq => cases hq; exact hKn9
    | k + 10, hq => simp [vwCl] at hq
  have hS : va_S (fun q : Nat => s.heap.size ≤ q) s.heap s.heap [] := va_S.rf
  have hK : va_K (dC, dI) vwCl [] s := ⟨hKc, fun k q h => by simp at h⟩
  have hP : va_P (dC, dI) vwCl [] s.heap := fun k q h => by simp at h
  have hD : va_D (fun q : Nat => s.heap.size ≤ q) [] := ⟨fun i j p q h => by simp at h, fun k q h => by simp at h⟩
  have hin8 := inlX8
  have hin9 := inlX9
  have hl := lv_entry ([.ref b]) (n := 7) (Nat.le_of_ble_eq_true rfl)
  rw [lg_entry_eq]
  generalize (lg_sl ([.ref b]) ++ List.replicate (7 - (lg_sl ([.ref b])).length) Slot.unset).toArray = ls at hl ⊢
  have hl : lv_has ls 7 [(0, .ref b)] := hl
  refine va_new (ci := 8) (fs := [.null, .null, .null, .null, .null, .null, .null, .null, .null, .int 0, .int 0, .int 0, .int 0, .int 0, .int 0]) (C := RX8) (T := TX8) (N := 15) hx hb hts hin8 tyX8 tyX8_ok hown (hts (.classLink RL 8 RX8) (by decide +kernel)) (hts (.instantiable RX8 15) (by decide +kernel)) (hts (.initialized RX8) (by decide +kernel)) hK hP hD hS hA rfl (by decide +kernel) (Nat.le_of_ble_eq_true rfl) (Nat.le_of_ble_eq_true rfl) dL_law_0 (fun q_1 H hP hD hS => ?_)
  refine W.widen (k := 1) (n := 15) (Nat.le_of_ble_eq_true rfl) (Nat.le_of_ble_eq_true rfl) ?_
  have hP : va_P (dC, dI) vwCl [(q_1, .inr (8, [.null, .null, .null, .null, .null, .null, .null, .null, .null, .int 0, .int 0, .int 0, .int 0, .int 0, .int 0]))] H := hP
  have hD : va_D (fun q : Nat => s.heap.size ≤ q) [(q_1, .inr (8, [.null, .null, .null, .null, .null, .null, .null, .null, .null, .int 0, .int 0, .int 0, .int 0, .int 0, .int 0]))] := hD
  refine lv_dup hx hb dL_law_3 rfl ?_
  have hPc := hP.sub (ws' := [(q_1, .inr (8, [.null, .null, .null, .null, .null, .null, .null, .null, .null, .int 0, .int 0, .int 0, .int 0, .int 0, .int 0]))]) [0] rfl
  have hDc := hD.sub (ws' := [(q_1, .inr (8, [.null, .null, .null, .null, .null, .null, .null, .null, .null, .int 0, .int 0, .int 0, .int 0, .int 0, .int 0]))]) [0] (by decide) rfl
  have hKc := hK.sub (tys' := []) [] rfl
  have hFc := va_free (wc := [(q_1, .inr (8, [.null, .null, .null, .null, .null, .null, .null, .null, .null, .int 0, .int 0, .int 0, .int 0, .int 0, .int 0]))]) hD hS hA [0] rfl
  refine va_callv (va_runI (As := []) (rest := [.ref q_1]) ⟨hx, hb, hml, hown, hts⟩ (c_X8_init l dC dI q_1 H.size) (cwI 0 hts gL_law_X8_init rfl rfl rfl (hts (.initialized RX8) (by decide +kernel)) (hts (.methodLink RL 18 yX8_init) (by decide +kernel)) (hts (.instanceMethod yX8_init) (by decide +kernel)) rfl (by decide +kernel) ⟨Nat.le_of_ble_eq_true rfl, Nat.le_of_ble_eq_true rfl⟩) ⟨c_blind, c_pre hPc hKc hDc hN⟩ rfl rfl hl.1 rfl (lv_room (Nat.le_of_ble_eq_true rfl)) dL_law_4 ⟨Nat.le_of_ble_eq_true rfl, Nat.le_of_ble_eq_true rfl⟩) hS (fun q _ h => hFc q h) hFc (fun u9 t9 H1 locs ht hvm hw hB hz1 hk1 hS => ?_)
  obtain ⟨a_3, a_4, a_5, a_6, a_7, a_8, a_9, a_10, a_11, e_12, j_13, b_14, b_15, b_16, b_17, b_18, g_19, g_20, ky_21, kt_22, kz_23, kr_24, r_25, r_26, j_27, j_28, j_29, j_30, j_31, e_32, j_33, f_34, hP1, hK1, hD1⟩ := hB
  rw [ht] at hP1
  have hK1 := va_K.moved hvm.symm hK1
  obtain ⟨hP, hD⟩ := va_join (wr := []) (w1 := [(q_1, .inr (8, [.ref a_3, .ref a_4, .ref a_5, .ref a_6, .ref a_7, .ref a_8, .ref a_9, .ref a_10, .ref a_11, .int 0, .int 0, .int 0, .int 0, .int 0, .int 0])), (a_3, .inr (7, [.ref e_12, .int 0])), (e_12, .inl (j_13, 200, .inl (fun _ => 0))), (a_4, .inr (3, [.ref b_14, .ref b_15, .ref b_16, .ref b_17, .ref b_18])), (b_14, .inl (g_19, 12, .inr (.inr (.inr (.inr (fun i => if i < 12 then some (r_25 i) else none)))))), (b_15, .inl (g_20, 12, .inr (.inr (.inr (.inr (fun i => if i < 12 then some (r_26 i) else none)))))), (b_16, .inl (kt_22, 12, .inl (fun _ => 0))), (b_17, .inl (kz_23, 12, .inl (fun _ => 0))), (b_18, .inl (kr_24, 12, .inl (fun _ => 0))), ((r_25 0), .inl (ky_21, 12, .inl (fun _ => 0))), ((r_25 1), .inl (ky_21, 12, .inl (fun _ => 0))), ((r_25 2), .inl (ky_21, 12, .inl (fun _ => 0))), ((r_25 3), .inl (ky_21, 12, .inl (fun _ => 0))), ((r_25 4), .inl (ky_21, 12, .inl (fun _ => 0))), ((r_25 5), .inl (ky_21, 12, .inl (fun _ => 0))), ((r_25 6), .inl (ky_21, 12, .inl (fun _ => 0))), ((r_25 7), .inl (ky_21, 12, .inl (fun _ => 0))), ((r_25 8), .inl (ky_21, 12, .inl (fun _ => 0))), ((r_25 9), .inl (ky_21, 12, .inl (fun _ => 0))), ((r_25 10), .inl (ky_21, 12, .inl (fun _ => 0))), ((r_25 11), .inl (ky_21, 12, .inl (fun _ => 0))), ((r_26 0), .inl (ky_21, 12, .inl (fun _ => 0))), ((r_26 1), .inl (ky_21, 12, .inl (fun _ => 0))), ((r_26 2), .inl (ky_21, 12, .inl (fun _ => 0))), ((r_26 3), .inl (ky_21, 12, .inl (fun _ => 0))), ((r_26 4), .inl (ky_21, 12, .inl (fun _ => 0))), ((r_26 5), .inl (ky_21, 12, .inl (fun _ => 0))), ((r_26 6), .inl (ky_21, 12, .inl (fun _ => 0))), ((r_26 7), .inl (ky_21, 12, .inl (fun _ => 0))), ((r_26 8), .inl (ky_21, 12, .inl (fun _ => 0))), ((r_26 9), .inl (ky_21, 12, .inl (fun _ => 0))), ((r_26 10), .inl (ky_21, 12, .inl (fun _ => 0))), ((r_26 11), .inl (ky_21, 12, .inl (fun _ => 0))), (a_6, .inl (j_27, 12, .inl (fun _ => 0))), (a_7, .inl (j_28, 60, .inr (.inr (.inr (.inr (fun _ => none)))))), (a_8, .inl (j_29, 20, .inr (.inr (.inr (.inr (fun _ => none)))))), (a_9, .inl (j_30, 60, .inr (.inr (.inr (.inr (fun _ => none)))))), (a_10, .inl (j_31, 60, .inr (.inr (.inr (.inr (fun _ => none)))))), (a_11, .inr (5, [.ref e_32])), (e_32, .inl (j_33, 6, .inl f_34))]) hP hD [0] [] rfl rfl (by decide) (by decide) hk1 hFc hP1 hD1
  have hK := (hK.sub (tys' := []) [] rfl).app hK1
  generalize H1 = H at hP hS ⊢
  have hK : va_K (dC, dI) vwCl [(j_13, .int), (g_19, .array .int), (g_20, .array .int), (ky_21, .int), (kt_22, .int), (kz_23, .boolean), (kr_24, .int), (j_27, .int), (j_28, .object "YamRiders$Horse"), (j_29, .object "YamRiders$Tablet"), (j_30, .object "YamRiders$Rider"), (j_31, .object "YamRiders$Rider"), (j_33, .int)] s := hK
  have hP : va_P (dC, dI) vwCl [(q_1, .inr (8, [.ref a_3, .ref a_4, .ref a_5, .ref a_6, .ref a_7, .ref a_8, .ref a_9, .ref a_10, .ref a_11, .int 0, .int 0, .int 0, .int 0, .int 0, .int 0])), (a_3, .inr (7, [.ref e_12, .int 0])), (e_12, .inl (j_13, 200, .inl (fun _ => 0))), (a_4, .inr (3, [.ref b_14, .ref b_15, .ref b_16, .ref b_17, .ref b_18])), (b_14, .inl (g_19, 12, .inr (.inr (.inr (.inr (fun i => if i < 12 then some (r_25 i) else none)))))), (b_15, .inl (g_20, 12, .inr (.inr (.inr (.inr (fun i => if i < 12 then some (r_26 i) else none)))))), (b_16, .inl (kt_22, 12, .inl (fun _ => 0))), (b_17, .inl (kz_23, 12, .inl (fun _ => 0))), (b_18, .inl (kr_24, 12, .inl (fun _ => 0))), ((r_25 0), .inl (ky_21, 12, .inl (fun _ => 0))), ((r_25 1), .inl (ky_21, 12, .inl (fun _ => 0))), ((r_25 2), .inl (ky_21, 12, .inl (fun _ => 0))), ((r_25 3), .inl (ky_21, 12, .inl (fun _ => 0))), ((r_25 4), .inl (ky_21, 12, .inl (fun _ => 0))), ((r_25 5), .inl (ky_21, 12, .inl (fun _ => 0))), ((r_25 6), .inl (ky_21, 12, .inl (fun _ => 0))), ((r_25 7), .inl (ky_21, 12, .inl (fun _ => 0))), ((r_25 8), .inl (ky_21, 12, .inl (fun _ => 0))), ((r_25 9), .inl (ky_21, 12, .inl (fun _ => 0))), ((r_25 10), .inl (ky_21, 12, .inl (fun _ => 0))), ((r_25 11), .inl (ky_21, 12, .inl (fun _ => 0))), ((r_26 0), .inl (ky_21, 12, .inl (fun _ => 0))), ((r_26 1), .inl (ky_21, 12, .inl (fun _ => 0))), ((r_26 2), .inl (ky_21, 12, .inl (fun _ => 0))), ((r_26 3), .inl (ky_21, 12, .inl (fun _ => 0))), ((r_26 4), .inl (ky_21, 12, .inl (fun _ => 0))), ((r_26 5), .inl (ky_21, 12, .inl (fun _ => 0))), ((r_26 6), .inl (ky_21, 12, .inl (fun _ => 0))), ((r_26 7), .inl (ky_21, 12, .inl (fun _ => 0))), ((r_26 8), .inl (ky_21, 12, .inl (fun _ => 0))), ((r_26 9), .inl (ky_21, 12, .inl (fun _ => 0))), ((r_26 10), .inl (ky_21, 12, .inl (fun _ => 0))), ((r_26 11), .inl (ky_21, 12, .inl (fun _ => 0))), (a_6, .inl (j_27, 12, .inl (fun _ => 0))), (a_7, .inl (j_28, 60, .inr (.inr (.inr (.inr (fun _ => none)))))), (a_8, .inl (j_29, 20, .inr (.inr (.inr (.inr (fun _ => none)))))), (a_9, .inl (j_30, 60, .inr (.inr (.inr (.inr (fun _ => none)))))), (a_10, .inl (j_31, 60, .inr (.inr (.inr (.inr (fun _ => none)))))), (a_11, .inr (5, [.ref e_32])), (e_32, .inl (j_33, 6, .inl f_34))] H := hP
  have hD : va_D (fun q : Nat => s.heap.size ≤ q) [(q_1, .inr (8, [.ref a_3, .ref a_4, .ref a_5, .ref a_6, .ref a_7, .ref a_8, .ref a_9, .ref a_10, .ref a_11, .int 0, .int 0, .int 0, .int 0, .int 0, .int 0])), (a_3, .inr (7, [.ref e_12, .int 0])), (e_12, .inl (j_13, 200, .inl (fun _ => 0))), (a_4, .inr (3, [.ref b_14, .ref b_15, .ref b_16, .ref b_17, .ref b_18])), (b_14, .inl (g_19, 12, .inr (.inr (.inr (.inr (fun i => if i < 12 then some (r_25 i) else none)))))), (b_15, .inl (g_20, 12, .inr (.inr (.inr (.inr (fun i => if i < 12 then some (r_26 i) else none)))))), (b_16, .inl (kt_22, 12, .inl (fun _ => 0))), (b_17, .inl (kz_23, 12, .inl (fun _ => 0))), (b_18, .inl (kr_24, 12, .inl (fun _ => 0))), ((r_25 0), .inl (ky_21, 12, .inl (fun _ => 0))), ((r_25 1), .inl (ky_21, 12, .inl (fun _ => 0))), ((r_25 2), .inl (ky_21, 12, .inl (fun _ => 0))), ((r_25 3), .inl (ky_21, 12, .inl (fun _ => 0))), ((r_25 4), .inl (ky_21, 12, .inl (fun _ => 0))), ((r_25 5), .inl (ky_21, 12, .inl (fun _ => 0))), ((r_25 6), .inl (ky_21, 12, .inl (fun _ => 0))), ((r_25 7), .inl (ky_21, 12, .inl (fun _ => 0))), ((r_25 8), .inl (ky_21, 12, .inl (fun _ => 0))), ((r_25 9), .inl (ky_21, 12, .inl (fun _ => 0))), ((r_25 10), .inl (ky_21, 12, .inl (fun _ => 0))), ((r_25 11), .inl (ky_21, 12, .inl (fun _ => 0))), ((r_26 0), .inl (ky_21, 12, .inl (fun _ => 0))), ((r_26 1), .inl (ky_21, 12, .inl (fun _ => 0))), ((r_26 2), .inl (ky_21, 12, .inl (fun _ => 0))), ((r_26 3), .inl (ky_21, 12, .inl (fun _ => 0))), ((r_26 4), .inl (ky_21, 12, .inl (fun _ => 0))), ((r_26 5), .inl (ky_21, 12, .inl (fun _ => 0))), ((r_26 6), .inl (ky_21, 12, .inl (fun _ => 0))), ((r_26 7), .inl (ky_21, 12, .inl (fun _ => 0))), ((r_26 8), .inl (ky_21, 12, .inl (fun _ => 0))), ((r_26 9), .inl (ky_21, 12, .inl (fun _ => 0))), ((r_26 10), .inl (ky_21, 12, .inl (fun _ => 0))), ((r_26 11), .inl (ky_21, 12, .inl (fun _ => 0))), (a_6, .inl (j_27, 12, .inl (fun _ => 0))), (a_7, .inl (j_28, 60, .inr (.inr (.inr (.inr (fun _ => none)))))), (a_8, .inl (j_29, 20, .inr (.inr (.inr (.inr (fun _ => none)))))), (a_9, .inl (j_30, 60, .inr (.inr (.inr (.inr (fun _ => none)))))), (a_10, .inl (j_31, 60, .inr (.inr (.inr (.inr (fun _ => none)))))), (a_11, .inr (5, [.ref e_32])), (e_32, .inl (j_33, 6, .inl f_34))] := hD
  refine W.widen (k := 67) (n := 1015) (Nat.le_of_ble_eq_true rfl) (Nat.le_of_ble_eq_true rfl) ?_
  refine lv_astore_n (lv' := [(1, .ref q_1), (0, .ref b)]) hx hb dL_law_7 rfl hl (by decide) rfl (fun ls hl => ?_)
  refine va_new (ci := 9) (fs := [.int 0, .null, .int 0, .int 0, .int 0, .null, .null, .null, .int 0, .int 0, .int 0, .int 0, .int 0, .int 0, .long 0, .null, .null, .null, .null, .null, .null, .int 0, .null, .null, .null, .null, .null, .null, .null, .null, .null, .null, .null, .null, .null, .int 0, .int 0, .null, .null, .null, .null, .null, .null, .null, .null, .null, .null]) (C := RX9) (T := TX9) (N := 47) hx hb hts hin9 tyX9 tyX9_ok hown (hts (.classLink RL 19 RX9) (by decide +kernel)) (hts (.instantiable RX9 47) (by decide +kernel)) (hts (.initialized RX9) (by decide +kernel)) hK hP hD hS hA rfl (by decide +kernel) (Nat.le_of_ble_eq_true rfl) (Nat.le_of_ble_eq_true rfl) dL_law_8 (fun q_35 H hP hD hS => ?_)
  refine W.widen (k := 68) (n := 1062) (Nat.le_of_ble_eq_true rfl) (Nat.le_of_ble_eq_true rfl) ?_
  have hP : va_P (dC, dI) vwCl [(q_1, .inr (8, [.ref a_3, .ref a_4, .ref a_5, .ref a_6, .ref a_7, .ref a_8, .ref a_9, .ref a_10, .ref a_11, .int 0, .int 0, .int 0, .int 0, .int 0, .int 0])), (a_3, .inr (7, [.ref e_12, .int 0])), (e_12, .inl (j_13, 200, .inl (fun _ => 0))), (a_4, .inr (3, [.ref b_14, .ref b_15, .ref b_16, .ref b_17, .ref b_18])), (b_14, .inl (g_19, 12, .inr (.inr (.inr (.inr (fun i => if i < 12 then some (r_25 i) else none)))))), (b_15, .inl (g_20, 12, .inr (.inr (.inr (.inr (fun i => if i < 12 then some (r_26 i) else none)))))), (b_16, .inl (kt_22, 12, .inl (fun _ => 0))), (b_17, .inl (kz_23, 12, .inl (fun _ => 0))), (b_18, .inl (kr_24, 12, .inl (fun _ => 0))), ((r_25 0), .inl (ky_21, 12, .inl (fun _ => 0))), ((r_25 1), .inl (ky_21, 12, .inl (fun _ => 0))), ((r_25 2), .inl (ky_21, 12, .inl (fun _ => 0))), ((r_25 3), .inl (ky_21, 12, .inl (fun _ => 0))), ((r_25 4), .inl (ky_21, 12, .inl (fun _ => 0))), ((r_25 5), .inl (ky_21, 12, .inl (fun _ => 0))), ((r_25 6), .inl (ky_21, 12, .inl (fun _ => 0))), ((r_25 7), .inl (ky_21, 12, .inl (fun _ => 0))), ((r_25 8), .inl (ky_21, 12, .inl (fun _ => 0))), ((r_25 9), .inl (ky_21, 12, .inl (fun _ => 0))), ((r_25 10), .inl (ky_21, 12, .inl (fun _ => 0))), ((r_25 11), .inl (ky_21, 12, .inl (fun _ => 0))), ((r_26 0), .inl (ky_21, 12, .inl (fun _ => 0))), ((r_26 1), .inl (ky_21, 12, .inl (fun _ => 0))), ((r_26 2), .inl (ky_21, 12, .inl (fun _ => 0))), ((r_26 3), .inl (ky_21, 12, .inl (fun _ => 0))), ((r_26 4), .inl (ky_21, 12, .inl (fun _ => 0))), ((r_26 5), .inl (ky_21, 12, .inl (fun _ => 0))), ((r_26 6), .inl (ky_21, 12, .inl (fun _ => 0))), ((r_26 7), .inl (ky_21, 12, .inl (fun _ => 0))), ((r_26 8), .inl (ky_21, 12, .inl (fun _ => 0))), ((r_26 9), .inl (ky_21, 12, .inl (fun _ => 0))), ((r_26 10), .inl (ky_21, 12, .inl (fun _ => 0))), ((r_26 11), .inl (ky_21, 12, .inl (fun _ => 0))), (a_6, .inl (j_27, 12, .inl (fun _ => 0))), (a_7, .inl (j_28, 60, .inr (.inr (.inr (.inr (fun _ => none)))))), (a_8, .inl (j_29, 20, .inr (.inr (.inr (.inr (fun _ => none)))))), (a_9, .inl (j_30, 60, .inr (.inr (.inr (.inr (fun _ => none)))))), (a_10, .inl (j_31, 60, .inr (.inr (.inr (.inr (fun _ => none)))))), (a_11, .inr (5, [.ref e_32])), (e_32, .inl (j_33, 6, .inl f_34)), (q_35, .inr (9, [.int 0, .null, .int 0, .int 0, .int 0, .null, .null, .null, .int 0, .int 0, .int 0, .int 0, .int 0, .int 0, .long 0, .null, .null, .null, .null, .null, .null, .int 0, .null, .null, .null, .null, .null, .null, .null, .null, .null, .null, .null, .null, .null, .int 0, .int 0, .null, .null, .null, .null, .null, .null, .null, .null, .null, .null]))] H := hP
  have hD : va_D (fun q : Nat => s.heap.size ≤ q) [(q_1, .inr (8, [.ref a_3, .ref a_4, .ref a_5, .ref a_6, .ref a_7, .ref a_8, .ref a_9, .ref a_10, .ref a_11, .int 0, .int 0, .int 0, .int 0, .int 0, .int 0])), (a_3, .inr (7, [.ref e_12, .int 0])), (e_12, .inl (j_13, 200, .inl (fun _ => 0))), (a_4, .inr (3, [.ref b_14, .ref b_15, .ref b_16, .ref b_17, .ref b_18])), (b_14, .inl (g_19, 12, .inr (.inr (.inr (.inr (fun i => if i < 12 then some (r_25 i) else none)))))), (b_15, .inl (g_20, 12, .inr (.inr (.inr (.inr (fun i => if i < 12 then some (r_26 i) else none)))))), (b_16, .inl (kt_22, 12, .inl (fun _ => 0))), (b_17, .inl (kz_23, 12, .inl (fun _ => 0))), (b_18, .inl (kr_24, 12, .inl (fun _ => 0))), ((r_25 0), .inl (ky_21, 12, .inl (fun _ => 0))), ((r_25 1), .inl (ky_21, 12, .inl (fun _ => 0))), ((r_25 2), .inl (ky_21, 12, .inl (fun _ => 0))), ((r_25 3), .inl (ky_21, 12, .inl (fun _ => 0))), ((r_25 4), .inl (ky_21, 12, .inl (fun _ => 0))), ((r_25 5), .inl (ky_21, 12, .inl (fun _ => 0))), ((r_25 6), .inl (ky_21, 12, .inl (fun _ => 0))), ((r_25 7), .inl (ky_21, 12, .inl (fun _ => 0))), ((r_25 8), .inl (ky_21, 12, .inl (fun _ => 0))), ((r_25 9), .inl (ky_21, 12, .inl (fun _ => 0))), ((r_25 10), .inl (ky_21, 12, .inl (fun _ => 0))), ((r_25 11), .inl (ky_21, 12, .inl (fun _ => 0))), ((r_26 0), .inl (ky_21, 12, .inl (fun _ => 0))), ((r_26 1), .inl (ky_21, 12, .inl (fun _ => 0))), ((r_26 2), .inl (ky_21, 12, .inl (fun _ => 0))), ((r_26 3), .inl (ky_21, 12, .inl (fun _ => 0))), ((r_26 4), .inl (ky_21, 12, .inl (fun _ => 0))), ((r_26 5), .inl (ky_21, 12, .inl (fun _ => 0))), ((r_26 6), .inl (ky_21, 12, .inl (fun _ => 0))), ((r_26 7), .inl (ky_21, 12, .inl (fun _ => 0))), ((r_26 8), .inl (ky_21, 12, .inl (fun _ => 0))), ((r_26 9), .inl (ky_21, 12, .inl (fun _ => 0))), ((r_26 10), .inl (ky_21, 12, .inl (fun _ => 0))), ((r_26 11), .inl (ky_21, 12, .inl (fun _ => 0))), (a_6, .inl (j_27, 12, .inl (fun _ => 0))), (a_7, .inl (j_28, 60, .inr (.inr (.inr (.inr (fun _ => none)))))), (a_8, .inl (j_29, 20, .inr (.inr (.inr (.inr (fun _ => none)))))), (a_9, .inl (j_30, 60, .inr (.inr (.inr (.inr (fun _ => none)))))), (a_10, .inl (j_31, 60, .inr (.inr (.inr (.inr (fun _ => none)))))), (a_11, .inr (5, [.ref e_32])), (e_32, .inl (j_33, 6, .inl f_34)), (q_35, .inr (9, [.int 0, .null, .int 0, .int 0, .int 0, .null, .null, .null, .int 0, .int 0, .int 0, .int 0, .int 0, .int 0, .long 0, .null, .null, .null, .null, .null, .null, .int 0, .null, .null, .null, .null, .null, .null, .null, .null, .null, .null, .null, .null, .null, .int 0, .int 0, .null, .null, .null, .null, .null, .null, .null, .null, .null, .null]))] := hD
  refine lv_dup hx hb dL_law_11 rfl ?_
  have hPc := hP.sub (ws' := [(q_35, .inr (9, [.int 0, .null, .int 0, .int 0, .int 0, .null, .null, .null, .int 0, .int 0, .int 0, .int 0, .int 0, .int 0, .long 0, .null, .null, .null, .null, .null, .null, .int 0, .null, .null, .null, .null, .null, .null, .null, .null, .null, .null, .null, .null, .null, .int 0, .int 0, .null, .null, .null, .null, .null, .null, .null, .null, .null, .null]))]) [40] rfl
  have hDc := hD.sub (ws' := [(q_35, .inr (9, [.int 0, .null, .int 0, .int 0, .int 0, .null, .null, .null, .int 0, .int 0, .int 0, .int 0, .int 0, .int 0, .long 0, .null, .null, .null, .null, .null, .null, .int 0, .null, .null, .null, .null, .null, .null, .null, .null, .null, .null, .null, .null, .null, .int 0, .int 0, .null, .null, .null, .null, .null, .null, .null, .null, .null, .null]))]) [40] (by decide) rfl
  have hKc := hK.sub (tys' := []) [] rfl
  have hFc := va_free (wc := [(q_35, .inr (9, [.int 0, .null, .int 0, .int 0, .int 0, .null, .null, .null, .int 0, .int 0, .int 0, .int 0, .int 0, .int 0, .long 0, .null, .null, .null, .null, .null, .null, .int 0, .null, .null, .null, .null, .null, .null, .null, .null, .null, .null, .null, .null, .null, .int 0, .int 0, .null, .null, .null, .null, .null, .null, .null, .null, .null, .null]))]) hD hS hA [40] rfl
  refine va_callv (va_runI (As := []) (rest := [.ref q_35]) ⟨hx, hb, hml, hown, hts⟩ (c_X9_init l dC dI q_35 H.size) (cwI 0 hts gL_law_X9_init rfl rfl rfl (hts (.initialized RX9) (by decide +kernel)) (hts (.methodLink RL 21 yX9_init) (by decide +kernel)) (hts (.instanceMethod yX9_init) (by decide +kernel)) rfl (by decide +kernel) ⟨Nat.le_of_ble_eq_true rfl, Nat.le_of_ble_eq_true rfl⟩) ⟨c_blind, c_pre hPc hKc hDc hN⟩ rfl rfl hl.1 rfl (lv_room (Nat.le_of_ble_eq_true rfl)) dL_law_12 ⟨Nat.le_of_ble_eq_true rfl, Nat.le_of_ble_eq_true rfl⟩) hS (fun q _ h => hFc q h) hFc (fun u9 t9 H1 locs ht hvm hw hB hz1 hk1 hS => ?_)
  obtain ⟨m_37, m_38, m_39, m_40, m_41, m_42, m_43, m_44, m_45, m_46, m_47, m_48, m_49, m_50, m_51, m_52, m_53, m_54, m_55, m_56, m_57, m_58, m_59, m_60, m_61, m_62, m_63, m_64, m_65, m_66, m_67, m_68, m_69, k_tape_70, k_law_71, k_fresh_72, k_isTold_73, k_hours_74, k_snow_75, k_least_76, k_fodder_77, k_strength_78, k_stands_79, k_rank_80, k_voidSince_81, k_newsSince_82, k_ways_83, k_wayMany_84, k_tabletOf_85, k_state_86, k_come_87, k_cameIn_88, k_horseOf_89, k_due_90, k_time_91, k_brings_92, k_loose_93, k_asked_94, k_led_95, k_cost_96, k_left_97, k_wants_98, k_toGiver_99, k_toTaker_100, k_giverBy_101, k_takerBy_102, f_103, hP1, hK1, hD1⟩ := hB
  rw [ht] at hP1
  have hK1 := va_K.moved hvm.symm hK1
  obtain ⟨hP, hD⟩ := va_join (wr := [(q_1, .inr (8, [.ref a_3, .ref a_4, .ref a_5, .ref a_6, .ref a_7, .ref a_8, .ref a_9, .ref a_10, .ref a_11, .int 0, .int 0, .int 0, .int 0, .int 0, .int 0])), (a_3, .inr (7, [.ref e_12, .int 0])), (e_12, .inl (j_13, 200, .inl (fun _ => 0))), (a_4, .inr (3, [.ref b_14, .ref b_15, .ref b_16, .ref b_17, .ref b_18])), (b_14, .inl (g_19, 12, .inr (.inr (.inr (.inr (fun i => if i < 12 then some (r_25 i) else none)))))), (b_15, .inl (g_20, 12, .inr (.inr (.inr (.inr (fun i => if i < 12 then some (r_26 i) else none)))))), (b_16, .inl (kt_22, 12, .inl (fun _ => 0))), (b_17, .inl (kz_23, 12, .inl (fun _ => 0))), (b_18, .inl (kr_24, 12, .inl (fun _ => 0))), ((r_25 0), .inl (ky_21, 12, .inl (fun _ => 0))), ((r_25 1), .inl (ky_21, 12, .inl (fun _ => 0))), ((r_25 2), .inl (ky_21, 12, .inl (fun _ => 0))), ((r_25 3), .inl (ky_21, 12, .inl (fun _ => 0))), ((r_25 4), .inl (ky_21, 12, .inl (fun _ => 0))), ((r_25 5), .inl (ky_21, 12, .inl (fun _ => 0))), ((r_25 6), .inl (ky_21, 12, .inl (fun _ => 0))), ((r_25 7), .inl (ky_21, 12, .inl (fun _ => 0))), ((r_25 8), .inl (ky_21, 12, .inl (fun _ => 0))), ((r_25 9), .inl (ky_21, 12, .inl (fun _ => 0))), ((r_25 10), .inl (ky_21, 12, .inl (fun _ => 0))), ((r_25 11), .inl (ky_21, 12, .inl (fun _ => 0))), ((r_26 0), .inl (ky_21, 12, .inl (fun _ => 0))), ((r_26 1), .inl (ky_21, 12, .inl (fun _ => 0))), ((r_26 2), .inl (ky_21, 12, .inl (fun _ => 0))), ((r_26 3), .inl (ky_21, 12, .inl (fun _ => 0))), ((r_26 4), .inl (ky_21, 12, .inl (fun _ => 0))), ((r_26 5), .inl (ky_21, 12, .inl (fun _ => 0))), ((r_26 6), .inl (ky_21, 12, .inl (fun _ => 0))), ((r_26 7), .inl (ky_21, 12, .inl (fun _ => 0))), ((r_26 8), .inl (ky_21, 12, .inl (fun _ => 0))), ((r_26 9), .inl (ky_21, 12, .inl (fun _ => 0))), ((r_26 10), .inl (ky_21, 12, .inl (fun _ => 0))), ((r_26 11), .inl (ky_21, 12, .inl (fun _ => 0))), (a_6, .inl (j_27, 12, .inl (fun _ => 0))), (a_7, .inl (j_28, 60, .inr (.inr (.inr (.inr (fun _ => none)))))), (a_8, .inl (j_29, 20, .inr (.inr (.inr (.inr (fun _ => none)))))), (a_9, .inl (j_30, 60, .inr (.inr (.inr (.inr (fun _ => none)))))), (a_10, .inl (j_31, 60, .inr (.inr (.inr (.inr (fun _ => none)))))), (a_11, .inr (5, [.ref e_32])), (e_32, .inl (j_33, 6, .inl f_34))]) (w1 := [(q_35, .inr (9, [.int 0, .ref m_37, .int 0, .int 0, .int 0, .ref m_38, .ref m_39, .ref m_40, .int 0, .int 0, .int 0, .int 0, .int 0, .int 0, .long 0, .ref m_41, .ref m_42, .ref m_43, .ref m_44, .ref m_45, .ref m_46, .int 0, .ref m_47, .ref m_48, .ref m_49, .ref m_50, .ref m_51, .ref m_52, .ref m_53, .ref m_54, .ref m_55, .ref m_56, .ref m_57, .ref m_58, .ref m_59, .int 0, .int 0, .ref m_60, .ref m_61, .ref m_62, .ref m_63, .ref m_64, .ref m_65, .ref m_66, .ref m_67, .ref m_68, .ref m_69])), (m_37, .inl (k_tape_70, 200, .inl (fun _ => 0))), (m_38, .inl (k_law_71, 6, .inl f_103)), (m_39, .inl (k_fresh_72, 6, .inl (fun _ => 0))), (m_40, .inl (k_isTold_73, 6, .inl (fun _ => 0))), (m_41, .inl (k_hours_74, 144, .inl (fun _ => 0))), (m_42, .inl (k_snow_75, 144, .inl (fun _ => 0))), (m_43, .inl (k_least_76, 12, .inl (fun _ => 0))), (m_44, .inl (k_fodder_77, 12, .inl (fun _ => 0))), (m_45, .inl (k_strength_78, 60, .inl (fun _ => 0))), (m_46, .inl (k_stands_79, 60, .inl (fun _ => 0))), (m_47, .inl (k_rank_80, 20, .inl (fun _ => 0))), (m_48, .inl (k_voidSince_81, 240, .inl (fun _ => 0))), (m_49, .inl (k_newsSince_82, 720, .inl (fun _ => 0))), (m_50, .inl (k_ways_83, 720, .inl (fun _ => 0))), (m_51, .inl (k_wayMany_84, 60, .inl (fun _ => 0))), (m_52, .inl (k_tabletOf_85, 60, .inl (fun _ => 0))), (m_53, .inl (k_state_86, 60, .inl (fun _ => 0))), (m_54, .inl (k_come_87, 60, .inl (fun _ => 0))), (m_55, .inl (k_cameIn_88, 60, .inl (fun _ => 0))), (m_56, .inl (k_horseOf_89, 60, .inl (fun _ => 0))), (m_57, .inl (k_due_90, 60, .inl (fun _ => 0))), (m_58, .inl (k_time_91, 60, .inl (fun _ => 0))), (m_59, .inl (k_brings_92, 60, .inl (fun _ => 0))), (m_60, .inl (k_loose_93, 60, .inl (fun _ => 0))), (m_61, .inl (k_asked_94, 60, .inl (fun _ => 0))), (m_62, .inl (k_led_95, 144, .inl (fun _ => 0))), (m_63, .inl (k_cost_96, 144, .inl (fun _ => 0))), (m_64, .inl (k_left_97, 12, .inl (fun _ => 0))), (m_65, .inl (k_wants_98, 12, .inl (fun _ => 0))), (m_66, .inl (k_toGiver_99, 12, .inl (fun _ => 0))), (m_67, .inl (k_toTaker_100, 12, .inl (fun _ => 0))), (m_68, .inl (k_giverBy_101, 12, .inl (fun _ => 0))), (m_69, .inl (k_takerBy_102, 12, .inl (fun _ => 0)))]) hP hD [40] [0, 1, 2, 3, 4, 5, 6, 7, 8, 9, 10, 11, 12, 13, 14, 15, 16, 17, 18, 19, 20, 21, 22, 23, 24, 25, 26, 27, 28, 29, 30, 31, 32, 33, 34, 35, 36, 37, 38, 39] rfl rfl (by decide) (by decide) hk1 hFc hP1 hD1
  have hK := (hK.sub (tys' := [(j_13, .int), (g_19, .array .int), (g_20, .array .int), (ky_21, .int), (kt_22, .int), (kz_23, .boolean), (kr_24, .int), (j_27, .int), (j_28, .object "YamRiders$Horse"), (j_29, .object "YamRiders$Tablet"), (j_30, .object "YamRiders$Rider"), (j_31, .object "YamRiders$Rider"), (j_33, .int)]) [0, 1, 2, 3, 4, 5, 6, 7, 8, 9, 10, 11, 12] rfl).app hK1
  generalize H1 = H at hP hS ⊢
  have hK : va_K (dC, dI) vwCl [(j_13, .int), (g_19, .array .int), (g_20, .array .int), (ky_21, .int), (kt_22, .int), (kz_23, .boolean), (kr_24, .int), (j_27, .int), (j_28, .object "YamRiders$Horse"), (j_29, .object "YamRiders$Tablet"), (j_30, .object "YamRiders$Rider"), (j_31, .object "YamRiders$Rider"), (j_33, .int), (k_tape_70, .byte), (k_law_71, .int), (k_fresh_72, .int), (k_isTold_73, .boolean), (k_hours_74, .int), (k_snow_75, .int), (k_least_76, .int), (k_fodder_77, .int), (k_strength_78, .int), (k_stands_79, .int), (k_rank_80, .int), (k_voidSince_81, .int), (k_newsSince_82, .int), (k_ways_83, .int), (k_wayMany_84, .int), (k_tabletOf_85, .int), (k_state_86, .int), (k_come_87, .int), (k_cameIn_88, .int), (k_horseOf_89, .int), (k_due_90, .int), (k_time_91, .int), (k_brings_92, .int), (k_loose_93, .boolean), (k_asked_94, .boolean), (k_led_95, .int), (k_cost_96, .int), (k_left_97, .int), (k_wants_98, .int), (k_toGiver_99, .int), (k_toTaker_100, .int), (k_giverBy_101, .int), (k_takerBy_102, .int)] s := hK
  have hP : va_P (dC, dI) vwCl [(q_1, .inr (8, [.ref a_3, .ref a_4, .ref a_5, .ref a_6, .ref a_7, .ref a_8, .ref a_9, .ref a_10, .ref a_11, .int 0, .int 0, .int 0, .int 0, .int 0, .int 0])), (a_3, .inr (7, [.ref e_12, .int 0])), (e_12, .inl (j_13, 200, .inl (fun _ => 0))), (a_4, .inr (3, [.ref b_14, .ref b_15, .ref b_16, .ref b_17, .ref b_18])), (b_14, .inl (g_19, 12, .inr (.inr (.inr (.inr (fun i => if i < 12 then some (r_25 i) else none)))))), (b_15, .inl (g_20, 12, .inr (.inr (.inr (.inr (fun i => if i < 12 then some (r_26 i) else none)))))), (b_16, .inl (kt_22, 12, .inl (fun _ => 0))), (b_17, .inl (kz_23, 12, .inl (fun _ => 0))), (b_18, .inl (kr_24, 12, .inl (fun _ => 0))), ((r_25 0), .inl (ky_21, 12, .inl (fun _ => 0))), ((r_25 1), .inl (ky_21, 12, .inl (fun _ => 0))), ((r_25 2), .inl (ky_21, 12, .inl (fun _ => 0))), ((r_25 3), .inl (ky_21, 12, .inl (fun _ => 0))), ((r_25 4), .inl (ky_21, 12, .inl (fun _ => 0))), ((r_25 5), .inl (ky_21, 12, .inl (fun _ => 0))), ((r_25 6), .inl (ky_21, 12, .inl (fun _ => 0))), ((r_25 7), .inl (ky_21, 12, .inl (fun _ => 0))), ((r_25 8), .inl (ky_21, 12, .inl (fun _ => 0))), ((r_25 9), .inl (ky_21, 12, .inl (fun _ => 0))), ((r_25 10), .inl (ky_21, 12, .inl (fun _ => 0))), ((r_25 11), .inl (ky_21, 12, .inl (fun _ => 0))), ((r_26 0), .inl (ky_21, 12, .inl (fun _ => 0))), ((r_26 1), .inl (ky_21, 12, .inl (fun _ => 0))), ((r_26 2), .inl (ky_21, 12, .inl (fun _ => 0))), ((r_26 3), .inl (ky_21, 12, .inl (fun _ => 0))), ((r_26 4), .inl (ky_21, 12, .inl (fun _ => 0))), ((r_26 5), .inl (ky_21, 12, .inl (fun _ => 0))), ((r_26 6), .inl (ky_21, 12, .inl (fun _ => 0))), ((r_26 7), .inl (ky_21, 12, .inl (fun _ => 0))), ((r_26 8), .inl (ky_21, 12, .inl (fun _ => 0))), ((r_26 9), .inl (ky_21, 12, .inl (fun _ => 0))), ((r_26 10), .inl (ky_21, 12, .inl (fun _ => 0))), ((r_26 11), .inl (ky_21, 12, .inl (fun _ => 0))), (a_6, .inl (j_27, 12, .inl (fun _ => 0))), (a_7, .inl (j_28, 60, .inr (.inr (.inr (.inr (fun _ => none)))))), (a_8, .inl (j_29, 20, .inr (.inr (.inr (.inr (fun _ => none)))))), (a_9, .inl (j_30, 60, .inr (.inr (.inr (.inr (fun _ => none)))))), (a_10, .inl (j_31, 60, .inr (.inr (.inr (.inr (fun _ => none)))))), (a_11, .inr (5, [.ref e_32])), (e_32, .inl (j_33, 6, .inl f_34)), (q_35, .inr (9, [.int 0, .ref m_37, .int 0, .int 0, .int 0, .ref m_38, .ref m_39, .ref m_40, .int 0, .int 0, .int 0, .int 0, .int 0, .int 0, .long 0, .ref m_41, .ref m_42, .ref m_43, .ref m_44, .ref m_45, .ref m_46, .int 0, .ref m_47, .ref m_48, .ref m_49, .ref m_50, .ref m_51, .ref m_52, .ref m_53, .ref m_54, .ref m_55, .ref m_56, .ref m_57, .ref m_58, .ref m_59, .int 0, .int 0, .ref m_60, .ref m_61, .ref m_62, .ref m_63, .ref m_64, .ref m_65, .ref m_66, .ref m_67, .ref m_68, .ref m_69])), (m_37, .inl (k_tape_70, 200, .inl (fun _ => 0))), (m_38, .inl (k_law_71, 6, .inl f_103)), (m_39, .inl (k_fresh_72, 6, .inl (fun _ => 0))), (m_40, .inl (k_isTold_73, 6, .inl (fun _ => 0))), (m_41, .inl (k_hours_74, 144, .inl (fun _ => 0))), (m_42, .inl (k_snow_75, 144, .inl (fun _ => 0))), (m_43, .inl (k_least_76, 12, .inl (fun _ => 0))), (m_44, .inl (k_fodder_77, 12, .inl (fun _ => 0))), (m_45, .inl (k_strength_78, 60, .inl (fun _ => 0))), (m_46, .inl (k_stands_79, 60, .inl (fun _ => 0))), (m_47, .inl (k_rank_80, 20, .inl (fun _ => 0))), (m_48, .inl (k_voidSince_81, 240, .inl (fun _ => 0))), (m_49, .inl (k_newsSince_82, 720, .inl (fun _ => 0))), (m_50, .inl (k_ways_83, 720, .inl (fun _ => 0))), (m_51, .inl (k_wayMany_84, 60, .inl (fun _ => 0))), (m_52, .inl (k_tabletOf_85, 60, .inl (fun _ => 0))), (m_53, .inl (k_state_86, 60, .inl (fun _ => 0))), (m_54, .inl (k_come_87, 60, .inl (fun _ => 0))), (m_55, .inl (k_cameIn_88, 60, .inl (fun _ => 0))), (m_56, .inl (k_horseOf_89, 60, .inl (fun _ => 0))), (m_57, .inl (k_due_90, 60, .inl (fun _ => 0))), (m_58, .inl (k_time_91, 60, .inl (fun _ => 0))), (m_59, .inl (k_brings_92, 60, .inl (fun _ => 0))), (m_60, .inl (k_loose_93, 60, .inl (fun _ => 0))), (m_61, .inl (k_asked_94, 60, .inl (fun _ => 0))), (m_62, .inl (k_led_95, 144, .inl (fun _ => 0))), (m_63, .inl (k_cost_96, 144, .inl (fun _ => 0))), (m_64, .inl (k_left_97, 12, .inl (fun _ => 0))), (m_65, .inl (k_wants_98, 12, .inl (fun _ => 0))), (m_66, .inl (k_toGiver_99, 12, .inl (fun _ => 0))), (m_67, .inl (k_toTaker_100, 12, .inl (fun _ => 0))), (m_68, .inl (k_giverBy_101, 12, .inl (fun _ => 0))), (m_69, .inl (k_takerBy_102, 12, .inl (fun _ => 0)))] H := hP
  have hD : va_D (fun q : Nat => s.heap.size ≤ q) [(q_1, .inr (8, [.ref a_3, .ref a_4, .ref a_5, .ref a_6, .ref a_7, .ref a_8, .ref a_9, .ref a_10, .ref a_11, .int 0, .int 0, .int 0, .int 0, .int 0, .int 0])), (a_3, .inr (7, [.ref e_12, .int 0])), (e_12, .inl (j_13, 200, .inl (fun _ => 0))), (a_4, .inr (3, [.ref b_14, .ref b_15, .ref b_16, .ref b_17, .ref b_18])), (b_14, .inl (g_19, 12, .inr (.inr (.inr (.inr (fun i => if i < 12 then some (r_25 i) else none)))))), (b_15, .inl (g_20, 12, .inr (.inr (.inr (.inr (fun i => if i < 12 then some (r_26 i) else none)))))), (b_16, .inl (kt_22, 12, .inl (fun _ => 0))), (b_17, .inl (kz_23, 12, .inl (fun _ => 0))), (b_18, .inl (kr_24, 12, .inl (fun _ => 0))), ((r_25 0), .inl (ky_21, 12, .inl (fun _ => 0))), ((r_25 1), .inl (ky_21, 12, .inl (fun _ => 0))), ((r_25 2), .inl (ky_21, 12, .inl (fun _ => 0))), ((r_25 3), .inl (ky_21, 12, .inl (fun _ => 0))), ((r_25 4), .inl (ky_21, 12, .inl (fun _ => 0))), ((r_25 5), .inl (ky_21, 12, .inl (fun _ => 0))), ((r_25 6), .inl (ky_21, 12, .inl (fun _ => 0))), ((r_25 7), .inl (ky_21, 12, .inl (fun _ => 0))), ((r_25 8), .inl (ky_21, 12, .inl (fun _ => 0))), ((r_25 9), .inl (ky_21, 12, .inl (fun _ => 0))), ((r_25 10), .inl (ky_21, 12, .inl (fun _ => 0))), ((r_25 11), .inl (ky_21, 12, .inl (fun _ => 0))), ((r_26 0), .inl (ky_21, 12, .inl (fun _ => 0))), ((r_26 1), .inl (ky_21, 12, .inl (fun _ => 0))), ((r_26 2), .inl (ky_21, 12, .inl (fun _ => 0))), ((r_26 3), .inl (ky_21, 12, .inl (fun _ => 0))), ((r_26 4), .inl (ky_21, 12, .inl (fun _ => 0))), ((r_26 5), .inl (ky_21, 12, .inl (fun _ => 0))), ((r_26 6), .inl (ky_21, 12, .inl (fun _ => 0))), ((r_26 7), .inl (ky_21, 12, .inl (fun _ => 0))), ((r_26 8), .inl (ky_21, 12, .inl (fun _ => 0))), ((r_26 9), .inl (ky_21, 12, .inl (fun _ => 0))), ((r_26 10), .inl (ky_21, 12, .inl (fun _ => 0))), ((r_26 11), .inl (ky_21, 12, .inl (fun _ => 0))), (a_6, .inl (j_27, 12, .inl (fun _ => 0))), (a_7, .inl (j_28, 60, .inr (.inr (.inr (.inr (fun _ => none)))))), (a_8, .inl (j_29, 20, .inr (.inr (.inr (.inr (fun _ => none)))))), (a_9, .inl (j_30, 60, .inr (.inr (.inr (.inr (fun _ => none)))))), (a_10, .inl (j_31, 60, .inr (.inr (.inr (.inr (fun _ => none)))))), (a_11, .inr (5, [.ref e_32])), (e_32, .inl (j_33, 6, .inl f_34)), (q_35, .inr (9, [.int 0, .ref m_37, .int 0, .int 0, .int 0, .ref m_38, .ref m_39, .ref m_40, .int 0, .int 0, .int 0, .int 0, .int 0, .int 0, .long 0, .ref m_41, .ref m_42, .ref m_43, .ref m_44, .ref m_45, .ref m_46, .int 0, .ref m_47, .ref m_48, .ref m_49, .ref m_50, .ref m_51, .ref m_52, .ref m_53, .ref m_54, .ref m_55, .ref m_56, .ref m_57, .ref m_58, .ref m_59, .int 0, .int 0, .ref m_60, .ref m_61, .ref m_62, .ref m_63, .ref m_64, .ref m_65, .ref m_66, .ref m_67, .ref m_68, .ref m_69])), (m_37, .inl (k_tape_70, 200, .inl (fun _ => 0))), (m_38, .inl (k_law_71, 6, .inl f_103)), (m_39, .inl (k_fresh_72, 6, .inl (fun _ => 0))), (m_40, .inl (k_isTold_73, 6, .inl (fun _ => 0))), (m_41, .inl (k_hours_74, 144, .inl (fun _ => 0))), (m_42, .inl (k_snow_75, 144, .inl (fun _ => 0))), (m_43, .inl (k_least_76, 12, .inl (fun _ => 0))), (m_44, .inl (k_fodder_77, 12, .inl (fun _ => 0))), (m_45, .inl (k_strength_78, 60, .inl (fun _ => 0))), (m_46, .inl (k_stands_79, 60, .inl (fun _ => 0))), (m_47, .inl (k_rank_80, 20, .inl (fun _ => 0))), (m_48, .inl (k_voidSince_81, 240, .inl (fun _ => 0))), (m_49, .inl (k_newsSince_82, 720, .inl (fun _ => 0))), (m_50, .inl (k_ways_83, 720, .inl (fun _ => 0))), (m_51, .inl (k_wayMany_84, 60, .inl (fun _ => 0))), (m_52, .inl (k_tabletOf_85, 60, .inl (fun _ => 0))), (m_53, .inl (k_state_86, 60, .inl (fun _ => 0))), (m_54, .inl (k_come_87, 60, .inl (fun _ => 0))), (m_55, .inl (k_cameIn_88, 60, .inl (fun _ => 0))), (m_56, .inl (k_horseOf_89, 60, .inl (fun _ => 0))), (m_57, .inl (k_due_90, 60, .inl (fun _ => 0))), (m_58, .inl (k_time_91, 60, .inl (fun _ => 0))), (m_59, .inl (k_brings_92, 60, .inl (fun _ => 0))), (m_60, .inl (k_loose_93, 60, .inl (fun _ => 0))), (m_61, .inl (k_asked_94, 60, .inl (fun _ => 0))), (m_62, .inl (k_led_95, 144, .inl (fun _ => 0))), (m_63, .inl (k_cost_96, 144, .inl (fun _ => 0))), (m_64, .inl (k_left_97, 12, .inl (fun _ => 0))), (m_65, .inl (k_wants_98, 12, .inl (fun _ => 0))), (m_66, .inl (k_toGiver_99, 12, .inl (fun _ => 0))), (m_67, .inl (k_toTaker_100, 12, .inl (fun _ => 0))), (m_68, .inl (k_giverBy_101, 12, .inl (fun _ => 0))), (m_69, .inl (k_takerBy_102, 12, .inl (fun _ => 0)))] := hD
  refine W.widen (k := 101) (n := 4432) (Nat.le_of_ble_eq_true rfl) (Nat.le_of_ble_eq_true rfl) ?_
  refine lv_astore_n (lv' := [(2, .ref q_35), (1, .ref q_1), (0, .ref b)]) hx hb dL_law_15 rfl hl (by decide) rfl (fun ls hl => ?_)
  refine lv_iconst (v := 1) hx hb dL_law_16 (by decide) ?_
  refine va_newa (atype := .long) (ty := .long) (a0 := (1, .inr (.inl (fun _ => 0)))) (N' := 1) hx hb (hts (.arrayClass .long) (by decide +kernel)) rfl hK hP hD hS hA (fun _ => rfl) (by decide) (by decide) (by decide) (Nat.le_of_ble_eq_true rfl) (Nat.le_of_ble_eq_true rfl) dL_law_17 (fun q_104 k_105 H hK hP hD hS => ?_)
  refine W.widen (k := 102) (n := 4433) (Nat.le_of_ble_eq_true rfl) (Nat.le_of_ble_eq_true rfl) ?_
  have hK : va_K (dC, dI) vwCl [(j_13, .int), (g_19, .array .int), (g_20, .array .int), (ky_21, .int), (kt_22, .int), (kz_23, .boolean), (kr_24, .int), (j_27, .int), (j_28, .object "YamRiders$Horse"), (j_29, .object "YamRiders$Tablet"), (j_30, .object "YamRiders$Rider"), (j_31, .object "YamRiders$Rider"), (j_33, .int), (k_tape_70, .byte), (k_law_71, .int), (k_fresh_72, .int), (k_isTold_73, .boolean), (k_hours_74, .int), (k_snow_75, .int), (k_least_76, .int), (k_fodder_77, .int), (k_strength_78, .int), (k_stands_79, .int), (k_rank_80, .int), (k_voidSince_81, .int), (k_newsSince_82, .int), (k_ways_83, .int), (k_wayMany_84, .int), (k_tabletOf_85, .int), (k_state_86, .int), (k_come_87, .int), (k_cameIn_88, .int), (k_horseOf_89, .int), (k_due_90, .int), (k_time_91, .int), (k_brings_92, .int), (k_loose_93, .boolean), (k_asked_94, .boolean), (k_led_95, .int), (k_cost_96, .int), (k_left_97, .int), (k_wants_98, .int), (k_toGiver_99, .int), (k_toTaker_100, .int), (k_giverBy_101, .int), (k_takerBy_102, .int), (k_105, .long)] s := hK
  have hP : va_P (dC, dI) vwCl [(q_1, .inr (8, [.ref a_3, .ref a_4, .ref a_5, .ref a_6, .ref a_7, .ref a_8, .ref a_9, .ref a_10, .ref a_11, .int 0, .int 0, .int 0, .int 0, .int 0, .int 0])), (a_3, .inr (7, [.ref e_12, .int 0])), (e_12, .inl (j_13, 200, .inl (fun _ => 0))), (a_4, .inr (3, [.ref b_14, .ref b_15, .ref b_16, .ref b_17, .ref b_18])), (b_14, .inl (g_19, 12, .inr (.inr (.inr (.inr (fun i => if i < 12 then some (r_25 i) else none)))))), (b_15, .inl (g_20, 12, .inr (.inr (.inr (.inr (fun i => if i < 12 then some (r_26 i) else none)))))), (b_16, .inl (kt_22, 12, .inl (fun _ => 0))), (b_17, .inl (kz_23, 12, .inl (fun _ => 0))), (b_18, .inl (kr_24, 12, .inl (fun _ => 0))), ((r_25 0), .inl (ky_21, 12, .inl (fun _ => 0))), ((r_25 1), .inl (ky_21, 12, .inl (fun _ => 0))), ((r_25 2), .inl (ky_21, 12, .inl (fun _ => 0))), ((r_25 3), .inl (ky_21, 12, .inl (fun _ => 0))), ((r_25 4), .inl (ky_21, 12, .inl (fun _ => 0))), ((r_25 5), .inl (ky_21, 12, .inl (fun _ => 0))), ((r_25 6), .inl (ky_21, 12, .inl (fun _ => 0))), ((r_25 7), .inl (ky_21, 12, .inl (fun _ => 0))), ((r_25 8), .inl (ky_21, 12, .inl (fun _ => 0))), ((r_25 9), .inl (ky_21, 12, .inl (fun _ => 0))), ((r_25 10), .inl (ky_21, 12, .inl (fun _ => 0))), ((r_25 11), .inl (ky_21, 12, .inl (fun _ => 0))), ((r_26 0), .inl (ky_21, 12, .inl (fun _ => 0))), ((r_26 1), .inl (ky_21, 12, .inl (fun _ => 0))), ((r_26 2), .inl (ky_21, 12, .inl (fun _ => 0))), ((r_26 3), .inl (ky_21, 12, .inl (fun _ => 0))), ((r_26 4), .inl (ky_21, 12, .inl (fun _ => 0))), ((r_26 5), .inl (ky_21, 12, .inl (fun _ => 0))), ((r_26 6), .inl (ky_21, 12, .inl (fun _ => 0))), ((r_26 7), .inl (ky_21, 12, .inl (fun _ => 0))), ((r_26 8), .inl (ky_21, 12, .inl (fun _ => 0))), ((r_26 9), .inl (ky_21, 12, .inl (fun _ => 0))), ((r_26 10), .inl (ky_21, 12, .inl (fun _ => 0))), ((r_26 11), .inl (ky_21, 12, .inl (fun _ => 0))), (a_6, .inl (j_27, 12, .inl (fun _ => 0))), (a_7, .inl (j_28, 60, .inr (.inr (.inr (.inr (fun _ => none)))))), (a_8, .inl (j_29, 20, .inr (.inr (.inr (.inr (fun _ => none)))))), (a_9, .inl (j_30, 60, .inr (.inr (.inr (.inr (fun _ => none)))))), (a_10, .inl (j_31, 60, .inr (.inr (.inr (.inr (fun _ => none)))))), (a_11, .inr (5, [.ref e_32])), (e_32, .inl (j_33, 6, .inl f_34)), (q_35, .inr (9, [.int 0, .ref m_37, .int 0, .int 0, .int 0, .ref m_38, .ref m_39, .ref m_40, .int 0, .int 0, .int 0, .int 0, .int 0, .int 0, .long 0, .ref m_41, .ref m_42, .ref m_43, .ref m_44, .ref m_45, .ref m_46, .int 0, .ref m_47, .ref m_48, .ref m_49, .ref m_50, .ref m_51, .ref m_52, .ref m_53, .ref m_54, .ref m_55, .ref m_56, .ref m_57, .ref m_58, .ref m_59, .int 0, .int 0, .ref m_60, .ref m_61, .ref m_62, .ref m_63, .ref m_64, .ref m_65, .ref m_66, .ref m_67, .ref m_68, .ref m_69])), (m_37, .inl (k_tape_70, 200, .inl (fun _ => 0))), (m_38, .inl (k_law_71, 6, .inl f_103)), (m_39, .inl (k_fresh_72, 6, .inl (fun _ => 0))), (m_40, .inl (k_isTold_73, 6, .inl (fun _ => 0))), (m_41, .inl (k_hours_74, 144, .inl (fun _ => 0))), (m_42, .inl (k_snow_75, 144, .inl (fun _ => 0))), (m_43, .inl (k_least_76, 12, .inl (fun _ => 0))), (m_44, .inl (k_fodder_77, 12, .inl (fun _ => 0))), (m_45, .inl (k_strength_78, 60, .inl (fun _ => 0))), (m_46, .inl (k_stands_79, 60, .inl (fun _ => 0))), (m_47, .inl (k_rank_80, 20, .inl (fun _ => 0))), (m_48, .inl (k_voidSince_81, 240, .inl (fun _ => 0))), (m_49, .inl (k_newsSince_82, 720, .inl (fun _ => 0))), (m_50, .inl (k_ways_83, 720, .inl (fun _ => 0))), (m_51, .inl (k_wayMany_84, 60, .inl (fun _ => 0))), (m_52, .inl (k_tabletOf_85, 60, .inl (fun _ => 0))), (m_53, .inl (k_state_86, 60, .inl (fun _ => 0))), (m_54, .inl (k_come_87, 60, .inl (fun _ => 0))), (m_55, .inl (k_cameIn_88, 60, .inl (fun _ => 0))), (m_56, .inl (k_horseOf_89, 60, .inl (fun _ => 0))), (m_57, .inl (k_due_90, 60, .inl (fun _ => 0))), (m_58, .inl (k_time_91, 60, .inl (fun _ => 0))), (m_59, .inl (k_brings_92, 60, .inl (fun _ => 0))), (m_60, .inl (k_loose_93, 60, .inl (fun _ => 0))), (m_61, .inl (k_asked_94, 60, .inl (fun _ => 0))), (m_62, .inl (k_led_95, 144, .inl (fun _ => 0))), (m_63, .inl (k_cost_96, 144, .inl (fun _ => 0))), (m_64, .inl (k_left_97, 12, .inl (fun _ => 0))), (m_65, .inl (k_wants_98, 12, .inl (fun _ => 0))), (m_66, .inl (k_toGiver_99, 12, .inl (fun _ => 0))), (m_67, .inl (k_toTaker_100, 12, .inl (fun _ => 0))), (m_68, .inl (k_giverBy_101, 12, .inl (fun _ => 0))), (m_69, .inl (k_takerBy_102, 12, .inl (fun _ => 0))), (q_104, .inl (k_105, 1, .inr (.inl (fun _ => 0))))] H := hP
  have hD : va_D (fun q : Nat => s.heap.size ≤ q) [(q_1, .inr (8, [.ref a_3, .ref a_4, .ref a_5, .ref a_6, .ref a_7, .ref a_8, .ref a_9, .ref a_10, .ref a_11, .int 0, .int 0, .int 0, .int 0, .int 0, .int 0])), (a_3, .inr (7, [.ref e_12, .int 0])), (e_12, .inl (j_13, 200, .inl (fun _ => 0))), (a_4, .inr (3, [.ref b_14, .ref b_15, .ref b_16, .ref b_17, .ref b_18])), (b_14, .inl (g_19, 12, .inr (.inr (.inr (.inr (fun i => if i < 12 then some (r_25 i) else none)))))), (b_15, .inl (g_20, 12, .inr (.inr (.inr (.inr (fun i => if i < 12 then some (r_26 i) else none)))))), (b_16, .inl (kt_22, 12, .inl (fun _ => 0))), (b_17, .inl (kz_23, 12, .inl (fun _ => 0))), (b_18, .inl (kr_24, 12, .inl (fun _ => 0))), ((r_25 0), .inl (ky_21, 12, .inl (fun _ => 0))), ((r_25 1), .inl (ky_21, 12, .inl (fun _ => 0))), ((r_25 2), .inl (ky_21, 12, .inl (fun _ => 0))), ((r_25 3), .inl (ky_21, 12, .inl (fun _ => 0))), ((r_25 4), .inl (ky_21, 12, .inl (fun _ => 0))), ((r_25 5), .inl (ky_21, 12, .inl (fun _ => 0))), ((r_25 6), .inl (ky_21, 12, .inl (fun _ => 0))), ((r_25 7), .inl (ky_21, 12, .inl (fun _ => 0))), ((r_25 8), .inl (ky_21, 12, .inl (fun _ => 0))), ((r_25 9), .inl (ky_21, 12, .inl (fun _ => 0))), ((r_25 10), .inl (ky_21, 12, .inl (fun _ => 0))), ((r_25 11), .inl (ky_21, 12, .inl (fun _ => 0))), ((r_26 0), .inl (ky_21, 12, .inl (fun _ => 0))), ((r_26 1), .inl (ky_21, 12, .inl (fun _ => 0))), ((r_26 2), .inl (ky_21, 12, .inl (fun _ => 0))), ((r_26 3), .inl (ky_21, 12, .inl (fun _ => 0))), ((r_26 4), .inl (ky_21, 12, .inl (fun _ => 0))), ((r_26 5), .inl (ky_21, 12, .inl (fun _ => 0))), ((r_26 6), .inl (ky_21, 12, .inl (fun _ => 0))), ((r_26 7), .inl (ky_21, 12, .inl (fun _ => 0))), ((r_26 8), .inl (ky_21, 12, .inl (fun _ => 0))), ((r_26 9), .inl (ky_21, 12, .inl (fun _ => 0))), ((r_26 10), .inl (ky_21, 12, .inl (fun _ => 0))), ((r_26 11), .inl (ky_21, 12, .inl (fun _ => 0))), (a_6, .inl (j_27, 12, .inl (fun _ => 0))), (a_7, .inl (j_28, 60, .inr (.inr (.inr (.inr (fun _ => none)))))), (a_8, .inl (j_29, 20, .inr (.inr (.inr (.inr (fun _ => none)))))), (a_9, .inl (j_30, 60, .inr (.inr (.inr (.inr (fun _ => none)))))), (a_10, .inl (j_31, 60, .inr (.inr (.inr (.inr (fun _ => none)))))), (a_11, .inr (5, [.ref e_32])), (e_32, .inl (j_33, 6, .inl f_34)), (q_35, .inr (9, [.int 0, .ref m_37, .int 0, .int 0, .int 0, .ref m_38, .ref m_39, .ref m_40, .int 0, .int 0, .int 0, .int 0, .int 0, .int 0, .long 0, .ref m_41, .ref m_42, .ref m_43, .ref m_44, .ref m_45, .ref m_46, .int 0, .ref m_47, .ref m_48, .ref m_49, .ref m_50, .ref m_51, .ref m_52, .ref m_53, .ref m_54, .ref m_55, .ref m_56, .ref m_57, .ref m_58, .ref m_59, .int 0, .int 0, .ref m_60, .ref m_61, .ref m_62, .ref m_63, .ref m_64, .ref m_65, .ref m_66, .ref m_67, .ref m_68, .ref m_69])), (m_37, .inl (k_tape_70, 200, .inl (fun _ => 0))), (m_38, .inl (k_law_71, 6, .inl f_103)), (m_39, .inl (k_fresh_72, 6, .inl (fun _ => 0))), (m_40, .inl (k_isTold_73, 6, .inl (fun _ => 0))), (m_41, .inl (k_hours_74, 144, .inl (fun _ => 0))), (m_42, .inl (k_snow_75, 144, .inl (fun _ => 0))), (m_43, .inl (k_least_76, 12, .inl (fun _ => 0))), (m_44, .inl (k_fodder_77, 12, .inl (fun _ => 0))), (m_45, .inl (k_strength_78, 60, .inl (fun _ => 0))), (m_46, .inl (k_stands_79, 60, .inl (fun _ => 0))), (m_47, .inl (k_rank_80, 20, .inl (fun _ => 0))), (m_48, .inl (k_voidSince_81, 240, .inl (fun _ => 0))), (m_49, .inl (k_newsSince_82, 720, .inl (fun _ => 0))), (m_50, .inl (k_ways_83, 720, .inl (fun _ => 0))), (m_51, .inl (k_wayMany_84, 60, .inl (fun _ => 0))), (m_52, .inl (k_tabletOf_85, 60, .inl (fun _ => 0))), (m_53, .inl (k_state_86, 60, .inl (fun _ => 0))), (m_54, .inl (k_come_87, 60, .inl (fun _ => 0))), (m_55, .inl (k_cameIn_88, 60, .inl (fun _ => 0))), (m_56, .inl (k_horseOf_89, 60, .inl (fun _ => 0))), (m_57, .inl (k_due_90, 60, .inl (fun _ => 0))), (m_58, .inl (k_time_91, 60, .inl (fun _ => 0))), (m_59, .inl (k_brings_92, 60, .inl (fun _ => 0))), (m_60, .inl (k_loose_93, 60, .inl (fun _ => 0))), (m_61, .inl (k_asked_94, 60, .inl (fun _ => 0))), (m_62, .inl (k_led_95, 144, .inl (fun _ => 0))), (m_63, .inl (k_cost_96, 144, .inl (fun _ => 0))), (m_64, .inl (k_left_97, 12, .inl (fun _ => 0))), (m_65, .inl (k_wants_98, 12, .inl (fun _ => 0))), (m_66, .inl (k_toGiver_99, 12, .inl (fun _ => 0))), (m_67, .inl (k_toTaker_100, 12, .inl (fun _ => 0))), (m_68, .inl (k_giverBy_101, 12, .inl (fun _ => 0))), (m_69, .inl (k_takerBy_102, 12, .inl (fun _ => 0))), (q_104, .inl (k_105, 1, .inr (.inl (fun _ => 0))))] := hD
  refine lv_astore_n (lv' := [(3, .ref q_104), (2, .ref q_35), (1, .ref q_1), (0, .ref b)]) hx hb dL_law_19 rfl hl (by decide) rfl (fun ls hl => ?_)
  refine lv_iconst (v := 0) hx hb dL_law_20 (by decide) ?_
  refine lv_istore (lv' := [(4, .int 0), (3, .ref q_104), (2, .ref q_35), (1, .ref q_1), (0, .ref b)]) hx hb dL_law_21 hl (by decide) rfl (fun ls hl => ?_)
  refine lv_iload hx hb dL_law_23 (lv_at hl 0 rfl) ?_
  refine lv_aload_n hx hb dL_law_25 rfl (lv_at hl 4 rfl) ?_
  refine va_slen hx hb hX hbl hbA hS dL_law_26 ?_
  refine lv_bipush (v := 6) hx hb dL_law_27 (by decide) ?_
  refine lv_isub hx hb dL_law_29 ?_
  refine lv_icmp_gt (tgt := 954) hx hb dL_law_30 (by decide) (fun c_106 => ?_) (fun c_106 => ?_)
  · refine lv_iconst (v := 1) hx hb dL_law_954 (by decide) ?_
    refine va_forget (fun q hq => hS.2.2 q hq) ?_
    refine W.widen (k := 600002) (n := 7302232) (Nat.le_of_ble_eq_true rfl) (Nat.le_of_ble_eq_true rfl) ?_
    exact lw_ret hx hb hr hlocks dL_law_955
  · have hL6 : L = 6 := law_L hL c_106
    subst hL6
    refine lv_aload_n hx hb dL_law_33 rfl (lv_at hl 4 rfl) ?_
    refine lv_iload hx hb dL_law_34 (lv_at hl 0 rfl) ?_
    refine va_sld hx hb hX hbl hbA hS (by unfold vp_in; decide) dL_law_36 ?_
    refine lv_topi (fun v_107 ev_107 => ?_)
    obtain rfl : v_107 = xs 0 := ev_107.trans rfl
    refine lv_bipush (v := 31) hx hb dL_law_37 (by decide) ?_
    refine lv_iand hx hb dL_law_39 ?_
    by_cases c_108 : (xs 0) &&& 31 = 0
    · refine lv_tableIn (tgt := 144) (off := 104) hx hb dL_law_40 (by rw [c_108]; decide) (by rw [c_108]; decide) (by rw [c_108]; decide) (by decide) ?_
      have hP := hP.sub (ws' := [(q_1, .inr (8, [.ref a_3, .ref a_4, .ref a_5, .ref a_6, .ref a_7, .ref a_8, .ref a_9, .ref a_10, .ref a_11, .int 0, .int 0, .int 0, .int 0, .int 0, .int 0])), (a_3, .inr (7, [.ref e_12, .int 0])), (e_12, .inl (j_13, 200, .inl (fun _ => 0))), (q_35, .inr (9, [.int 0, .ref m_37, .int 0, .int 0, .int 0, .ref m_38, .ref m_39, .ref m_40, .int 0, .int 0, .int 0, .int 0, .int 0, .int 0, .long 0, .ref m_41, .ref m_42, .ref m_43, .ref m_44, .ref m_45, .ref m_46, .int 0, .ref m_47, .ref m_48, .ref m_49, .ref m_50, .ref m_51, .ref m_52, .ref m_53, .ref m_54, .ref m_55, .ref m_56, .ref m_57, .ref m_58, .ref m_59, .int 0, .int 0, .ref m_60, .ref m_61, .ref m_62, .ref m_63, .ref m_64, .ref m_65, .ref m_66, .ref m_67, .ref m_68, .ref m_69])), (m_37, .inl (k_tape_70, 200, .inl (fun _ => 0)))]) [0, 1, 2, 40, 41] rfl
      have hD := hD.sub (ws' := [(q_1, .inr (8, [.ref a_3, .ref a_4, .ref a_5, .ref a_6, .ref a_7, .ref a_8, .ref a_9, .ref a_10, .ref a_11, .int 0, .int 0, .int 0, .int 0, .int 0, .int 0])), (a_3, .inr (7, [.ref e_12, .int 0])), (e_12, .inl (j_13, 200, .inl (fun _ => 0))), (q_35, .inr (9, [.int 0, .ref m_37, .int 0, .int 0, .int 0, .ref m_38, .ref m_39, .ref m_40, .int 0, .int 0, .int 0, .int 0, .int 0, .int 0, .long 0, .ref m_41, .ref m_42, .ref m_43, .ref m_44, .ref m_45, .ref m_46, .int 0, .ref m_47, .ref m_48, .ref m_49, .ref m_50, .ref m_51, .ref m_52, .ref m_53, .ref m_54, .ref m_55, .ref m_56, .ref m_57, .ref m_58, .ref m_59, .int 0, .int 0, .ref m_60, .ref m_61, .ref m_62, .ref m_63, .ref m_64, .ref m_65, .ref m_66, .ref m_67, .ref m_68, .ref m_69])), (m_37, .inl (k_tape_70, 200, .inl (fun _ => 0)))]) [0, 1, 2, 40, 41] (by decide) rfl
      refine lv_aload_n hx hb dL_law_144 rfl (lv_at hl 3 rfl) ?_
      refine lv_aload_n hx hb dL_law_145 rfl (lv_at hl 4 rfl) ?_
      refine lv_iload hx hb dL_law_146 (lv_at hl 0 rfl) ?_
      refine lv_iconst (v := 1) hx hb dL_law_148 (by decide) ?_
      refine lv_iadd hx hb dL_law_149 ?_
      refine lv_topi (fun y_109 ey_109 => ?_)
      obtain rfl : y_109 = 1 := ey_109.trans (by decide)
      refine va_sld hx hb hX hbl hbA hS (by unfold vp_in; decide) dL_law_150 ?_
      refine lv_topi (fun v_110 ev_110 => ?_)
      obtain rfl : v_110 = xs 1 := ev_110.trans rfl
      refine lv_aload_n hx hb dL_law_151 rfl (lv_at hl 4 rfl) ?_
      refine lv_iload hx hb dL_law_152 (lv_at hl 0 rfl) ?_
      refine lv_iconst (v := 2) hx hb dL_law_154 (by decide) ?_
      refine lv_iadd hx hb dL_law_155 ?_
      refine lv_topi (fun y_111 ey_111 => ?_)
      obtain rfl : y_111 = 2 := ey_111.trans (by decide)
      refine va_sld hx hb hX hbl hbA hS (by unfold vp_in; decide) dL_law_156 ?_
      refine lv_topi (fun v_112 ev_112 => ?_)
      obtain rfl : v_112 = xs 2 := ev_112.trans rfl
      refine lv_aload_n hx hb dL_law_157 rfl (lv_at hl 4 rfl) ?_
      refine lv_iload hx hb dL_law_158 (lv_at hl 0 rfl) ?_
      refine lv_iconst (v := 3) hx hb dL_law_160 (by decide) ?_
      refine lv_iadd hx hb dL_law_161 ?_
      refine lv_topi (fun y_113 ey_113 => ?_)
      obtain rfl : y_113 = 3 := ey_113.trans (by decide)
      refine va_sld hx hb hX hbl hbA hS (by unfold vp_in; decide) dL_law_162 ?_
      refine lv_topi (fun v_114 ev_114 => ?_)
      obtain rfl : v_114 = xs 3 := ev_114.trans rfl
      refine lv_aload_n hx hb dL_law_163 rfl (lv_at hl 4 rfl) ?_
      refine lv_iload hx hb dL_law_164 (lv_at hl 0 rfl) ?_
      refine lv_iconst (v := 4) hx hb dL_law_166 (by decide) ?_
      refine lv_iadd hx hb dL_law_167 ?_
      refine lv_topi (fun y_115 ey_115 => ?_)
      obtain rfl : y_115 = 4 := ey_115.trans (by decide)
      refine va_sld hx hb hX hbl hbA hS (by unfold vp_in; decide) dL_law_168 ?_
      refine lv_topi (fun v_116 ev_116 => ?_)
      obtain rfl : v_116 = xs 4 := ev_116.trans rfl
      refine lv_aload_n hx hb dL_law_169 rfl (lv_at hl 4 rfl) ?_
      refine lv_iload hx hb dL_law_170 (lv_at hl 0 rfl) ?_
      refine lv_iconst (v := 5) hx hb dL_law_172 (by decide) ?_
      refine lv_iadd hx hb dL_law_173 ?_
      refine lv_topi (fun y_117 ey_117 => ?_)
      obtain rfl : y_117 = 5 := ey_117.trans (by decide)
      refine va_sld hx hb hX hbl hbA hS (by unfold vp_in; decide) dL_law_174 ?_
      refine lv_topi (fun v_118 ev_118 => ?_)
      obtain rfl : v_118 = xs 5 := ev_118.trans rfl
      have hPc := hP.sub (ws' := [(q_1, .inr (8, [.ref a_3, .ref a_4, .ref a_5, .ref a_6, .ref a_7, .ref a_8, .ref a_9, .ref a_10, .ref a_11, .int 0, .int 0, .int 0, .int 0, .int 0, .int 0])), (a_3, .inr (7, [.ref e_12, .int 0])), (e_12, .inl (j_13, 200, .inl (fun _ => 0)))]) [0, 1, 2] rfl
      have hDc := hD.sub (ws' := [(q_1, .inr (8, [.ref a_3, .ref a_4, .ref a_5, .ref a_6, .ref a_7, .ref a_8, .ref a_9, .ref a_10, .ref a_11, .int 0, .int 0, .int 0, .int 0, .int 0, .int 0])), (a_3, .inr (7, [.ref e_12, .int 0])), (e_12, .inl (j_13, 200, .inl (fun _ => 0)))]) [0, 1, 2] (by decide) rfl
      have hKc := hK.sub (tys' := [(j_13, .int)]) [0] rfl
      have hFc := va_free (wc := [(q_1, .inr (8, [.ref a_3, .ref a_4, .ref a_5, .ref a_6, .ref a_7, .ref a_8, .ref a_9, .ref a_10, .ref a_11, .int 0, .int 0, .int 0, .int 0, .int 0, .int 0])), (a_3, .inr (7, [.ref e_12, .int 0])), (e_12, .inl (j_13, 200, .inl (fun _ => 0)))]) hD hS hA [0, 1, 2] rfl
      refine va_calli (va_runV (As := [.int (xs 1), .int (xs 2), .int (xs 3), .int (xs 4), .int (xs 5)]) (rest := []) ⟨hx, hb, hml, hown, hts⟩ (c_X8_feed l dC dI q_1 a_3 a_4 a_5 a_6 a_7 a_8 a_9 a_10 a_11 e_12 j_13 (fun _ => 0) (xs 1) (xs 2) (xs 3) (xs 4) (xs 5) H.size) (cwV 5 hts gL_law_X8_feed rfl rfl rfl (by decide +kernel) ⟨Nat.le_of_ble_eq_true rfl, Nat.le_of_ble_eq_true rfl⟩) ⟨c_blind, va_recv hKc hPc (ci := 8) (q0 := 0) rfl rfl, c_pre hPc hKc hDc hN⟩ rfl rfl hl.1 rfl (lv_room (Nat.le_of_ble_eq_true rfl)) dL_law_175 ⟨Nat.le_of_ble_eq_true rfl, Nat.le_of_ble_eq_true rfl⟩) hS (fun q _ h => hFc q h) hFc (fun r_119 u9 t9 H1 locs ht hvm hw hB hz1 hk1 hS => ?_)
      obtain ⟨hP1, hK1, hD1⟩ := hB
      rw [ht] at hP1
      have hK1 := va_K.moved hvm.symm hK1
      obtain ⟨hP, hD⟩ := va_join (wr := [(q_35, .inr (9, [.int 0, .ref m_37, .int 0, .int 0, .int 0, .ref m_38, .ref m_39, .ref m_40, .int 0, .int 0, .int 0, .int 0, .int 0, .int 0, .long 0, .ref m_41, .ref m_42, .ref m_43, .ref m_44, .ref m_45, .ref m_46, .int 0, .ref m_47, .ref m_48, .ref m_49, .ref m_50, .ref m_51, .ref m_52, .ref m_53, .ref m_54, .ref m_55, .ref m_56, .ref m_57, .ref m_58, .ref m_59, .int 0, .int 0, .ref m_60, .ref m_61, .ref m_62, .ref m_63, .ref m_64, .ref m_65, .ref m_66, .ref m_67, .ref m_68, .ref m_69])), (m_37, .inl (k_tape_70, 200, .inl (fun _ => 0)))]) (w1 := []) hP hD [0, 1, 2] [3, 4] rfl rfl (by decide) (by decide) hk1 hFc hP1 hD1
      have hK := (hK.sub (tys' := [(j_13, .int), (g_19, .array .int), (g_20, .array .int), (ky_21, .int), (kt_22, .int), (kz_23, .boolean), (kr_24, .int), (j_27, .int), (j_28, .object "YamRiders$Horse"), (j_29, .object "YamRiders$Tablet"), (j_30, .object "YamRiders$Rider"), (j_31, .object "YamRiders$Rider"), (j_33, .int), (k_tape_70, .byte), (k_law_71, .int), (k_fresh_72, .int), (k_isTold_73, .boolean), (k_hours_74, .int), (k_snow_75, .int), (k_least_76, .int), (k_fodder_77, .int), (k_strength_78, .int), (k_stands_79, .int), (k_rank_80, .int), (k_voidSince_81, .int), (k_newsSince_82, .int), (k_ways_83, .int), (k_wayMany_84, .int), (k_tabletOf_85, .int), (k_state_86, .int), (k_come_87, .int), (k_cameIn_88, .int), (k_horseOf_89, .int), (k_due_90, .int), (k_time_91, .int), (k_brings_92, .int), (k_loose_93, .boolean), (k_asked_94, .boolean), (k_led_95, .int), (k_cost_96, .int), (k_left_97, .int), (k_wants_98, .int), (k_toGiver_99, .int), (k_toTaker_100, .int), (k_giverBy_101, .int), (k_takerBy_102, .int), (k_105, .long)]) [0, 1, 2, 3, 4, 5, 6, 7, 8, 9, 10, 11, 12, 13, 14, 15, 16, 17, 18, 19, 20, 21, 22, 23, 24, 25, 26, 27, 28, 29, 30, 31, 32, 33, 34, 35, 36, 37, 38, 39, 40, 41, 42, 43, 44, 45, 46] rfl).app hK1
      generalize H1 = H at hP hS ⊢
      have hK : va_K (dC, dI) vwCl [(j_13, .int), (g_19, .array .int), (g_20, .array .int), (ky_21, .int), (kt_22, .int), (kz_23, .boolean), (kr_24, .int), (j_27, .int), (j_28, .object "YamRiders$Horse"), (j_29, .object "YamRiders$Tablet"), (j_30, .object "YamRiders$Rider"), (j_31, .object "YamRiders$Rider"), (j_33, .int), (k_tape_70, .byte), (k_law_71, .int), (k_fresh_72, .int), (k_isTold_73, .boolean), (k_hours_74, .int), (k_snow_75, .int), (k_least_76, .int), (k_fodder_77, .int), (k_strength_78, .int), (k_stands_79, .int), (k_rank_80, .int), (k_voidSince_81, .int), (k_newsSince_82, .int), (k_ways_83, .int), (k_wayMany_84, .int), (k_tabletOf_85, .int), (k_state_86, .int), (k_come_87, .int), (k_cameIn_88, .int), (k_horseOf_89, .int), (k_due_90, .int), (k_time_91, .int), (k_brings_92, .int), (k_loose_93, .boolean), (k_asked_94, .boolean), (k_led_95, .int), (k_cost_96, .int), (k_left_97, .int), (k_wants_98, .int), (k_toGiver_99, .int), (k_toTaker_100, .int), (k_giverBy_101, .int), (k_takerBy_102, .int), (k_105, .long)] s := hK
      have hP : va_P (dC, dI) vwCl [(q_35, .inr (9, [.int 0, .ref m_37, .int 0, .int 0, .int 0, .ref m_38, .ref m_39, .ref m_40, .int 0, .int 0, .int 0, .int 0, .int 0, .int 0, .long 0, .ref m_41, .ref m_42, .ref m_43, .ref m_44, .ref m_45, .ref m_46, .int 0, .ref m_47, .ref m_48, .ref m_49, .ref m_50, .ref m_51, .ref m_52, .ref m_53, .ref m_54, .ref m_55, .ref m_56, .ref m_57, .ref m_58, .ref m_59, .int 0, .int 0, .ref m_60, .ref m_61, .ref m_62, .ref m_63, .ref m_64, .ref m_65, .ref m_66, .ref m_67, .ref m_68, .ref m_69])), (m_37, .inl (k_tape_70, 200, .inl (fun _ => 0)))] H := hP
      have hD : va_D (fun q : Nat => s.heap.size ≤ q) [(q_35, .inr (9, [.int 0, .ref m_37, .int 0, .int 0, .int 0, .ref m_38, .ref m_39, .ref m_40, .int 0, .int 0, .int 0, .int 0, .int 0, .int 0, .long 0, .ref m_41, .ref m_42, .ref m_43, .ref m_44, .ref m_45, .ref m_46, .int 0, .ref m_47, .ref m_48, .ref m_49, .ref m_50, .ref m_51, .ref m_52, .ref m_53, .ref m_54, .ref m_55, .ref m_56, .ref m_57, .ref m_58, .ref m_59, .int 0, .int 0, .ref m_60, .ref m_61, .ref m_62, .ref m_63, .ref m_64, .ref m_65, .ref m_66, .ref m_67, .ref m_68, .ref m_69])), (m_37, .inl (k_tape_70, 200, .inl (fun _ => 0)))] := hD
      try dsimp only at hw
      subst hw
      refine W.widen (k := 102) (n := 4433) (Nat.le_of_ble_eq_true rfl) (Nat.le_of_ble_eq_true rfl) ?_
      refine lv_aload_n hx hb dL_law_178 rfl (lv_at hl 2 rfl) ?_
      refine lv_aload_n hx hb dL_law_179 rfl (lv_at hl 4 rfl) ?_
      refine lv_iload hx hb dL_law_180 (lv_at hl 0 rfl) ?_
      refine lv_iconst (v := 1) hx hb dL_law_182 (by decide) ?_
      refine lv_iadd hx hb dL_law_183 ?_
      refine lv_topi (fun y_120 ey_120 => ?_)
      obtain rfl : y_120 = 1 := ey_120.trans (by decide)
      refine va_sld hx hb hX hbl hbA hS (by unfold vp_in; decide) dL_law_184 ?_
      refine lv_topi (fun v_121 ev_121 => ?_)
      obtain rfl : v_121 = xs 1 := ev_121.trans rfl
      refine lv_aload_n hx hb dL_law_185 rfl (lv_at hl 4 rfl) ?_
      refine lv_iload hx hb dL_law_186 (lv_at hl 0 rfl) ?_
      refine lv_iconst (v := 2) hx hb dL_law_188 (by decide) ?_
      refine lv_iadd hx hb dL_law_189 ?_
      refine lv_topi (fun y_122 ey_122 => ?_)
      obtain rfl : y_122 = 2 := ey_122.trans (by decide)
      refine va_sld hx hb hX hbl hbA hS (by unfold vp_in; decide) dL_law_190 ?_
      refine lv_topi (fun v_123 ev_123 => ?_)
      obtain rfl : v_123 = xs 2 := ev_123.trans rfl
      refine lv_aload_n hx hb dL_law_191 rfl (lv_at hl 4 rfl) ?_
      refine lv_iload hx hb dL_law_192 (lv_at hl 0 rfl) ?_
      refine lv_iconst (v := 3) hx hb dL_law_194 (by decide) ?_
      refine lv_iadd hx hb dL_law_195 ?_
      refine lv_topi (fun y_124 ey_124 => ?_)
      obtain rfl : y_124 = 3 := ey_124.trans (by decide)
      refine va_sld hx hb hX hbl hbA hS (by unfold vp_in; decide) dL_law_196 ?_
      refine lv_topi (fun v_125 ev_125 => ?_)
      obtain rfl : v_125 = xs 3 := ev_125.trans rfl
      refine lv_aload_n hx hb dL_law_197 rfl (lv_at hl 4 rfl) ?_
      refine lv_iload hx hb dL_law_198 (lv_at hl 0 rfl) ?_
      refine lv_iconst (v := 4) hx hb dL_law_200 (by decide) ?_
      refine lv_iadd hx hb dL_law_201 ?_
      refine lv_topi (fun y_126 ey_126 => ?_)
      obtain rfl : y_126 = 4 := ey_126.trans (by decide)
      refine va_sld hx hb hX hbl hbA hS (by unfold vp_in; decide) dL_law_202 ?_
      refine lv_topi (fun v_127 ev_127 => ?_)
      obtain rfl : v_127 = xs 4 := ev_127.trans rfl
      refine lv_aload_n hx hb dL_law_203 rfl (lv_at hl 4 rfl) ?_
      refine lv_iload hx hb dL_law_204 (lv_at hl 0 rfl) ?_
      refine lv_iconst (v := 5) hx hb dL_law_206 (by decide) ?_
      refine lv_iadd hx hb dL_law_207 ?_
      refine lv_topi (fun y_128 ey_128 => ?_)
      obtain rfl : y_128 = 5 := ey_128.trans (by decide)
      refine va_sld hx hb hX hbl hbA hS (by unfold vp_in; decide) dL_law_208 ?_
      refine lv_topi (fun v_129 ev_129 => ?_)
      obtain rfl : v_129 = xs 5 := ev_129.trans rfl
      have hPc := hP.sub (ws' := [(q_35, .inr (9, [.int 0, .ref m_37, .int 0, .int 0, .int 0, .ref m_38, .ref m_39, .ref m_40, .int 0, .int 0, .int 0, .int 0, .int 0, .int 0, .long 0, .ref m_41, .ref m_42, .ref m_43, .ref m_44, .ref m_45, .ref m_46, .int 0, .ref m_47, .ref m_48, .ref m_49, .ref m_50, .ref m_51, .ref m_52, .ref m_53, .ref m_54, .ref m_55, .ref m_56, .ref m_57, .ref m_58, .ref m_59, .int 0, .int 0, .ref m_60, .ref m_61, .ref m_62, .ref m_63, .ref m_64, .ref m_65, .ref m_66, .ref m_67, .ref m_68, .ref m_69])), (m_37, .inl (k_tape_70, 200, .inl (fun _ => 0)))]) [0, 1] rfl
      have hDc := hD.sub (ws' := [(q_35, .inr (9, [.int 0, .ref m_37, .int 0, .int 0, .int 0, .ref m_38, .ref m_39, .ref m_40, .int 0, .int 0, .int 0, .int 0, .int 0, .int 0, .long 0, .ref m_41, .ref m_42, .ref m_43, .ref m_44, .ref m_45, .ref m_46, .int 0, .ref m_47, .ref m_48, .ref m_49, .ref m_50, .ref m_51, .ref m_52, .ref m_53, .ref m_54, .ref m_55, .ref m_56, .ref m_57, .ref m_58, .ref m_59, .int 0, .int 0, .ref m_60, .ref m_61, .ref m_62, .ref m_63, .ref m_64, .ref m_65, .ref m_66, .ref m_67, .ref m_68, .ref m_69])), (m_37, .inl (k_tape_70, 200, .inl (fun _ => 0)))]) [0, 1] (by decide) rfl
      have hKc := hK.sub (tys' := [(k_tape_70, .byte)]) [13] rfl
      have hFc := va_free (wc := [(q_35, .inr (9, [.int 0, .ref m_37, .int 0, .int 0, .int 0, .ref m_38, .ref m_39, .ref m_40, .int 0, .int 0, .int 0, .int 0, .int 0, .int 0, .long 0, .ref m_41, .ref m_42, .ref m_43, .ref m_44, .ref m_45, .ref m_46, .int 0, .ref m_47, .ref m_48, .ref m_49, .ref m_50, .ref m_51, .ref m_52, .ref m_53, .ref m_54, .ref m_55, .ref m_56, .ref m_57, .ref m_58, .ref m_59, .int 0, .int 0, .ref m_60, .ref m_61, .ref m_62, .ref m_63, .ref m_64, .ref m_65, .ref m_66, .ref m_67, .ref m_68, .ref m_69])), (m_37, .inl (k_tape_70, 200, .inl (fun _ => 0)))]) hD hS hA [0, 1] rfl
      refine va_calli (va_runV (As := [.int (xs 1), .int (xs 2), .int (xs 3), .int (xs 4), .int (xs 5)]) (rest := [.int 20]) ⟨hx, hb, hml, hown, hts⟩ (c_X9_feed l dC dI q_35 m_37 m_38 m_39 m_40 m_41 m_42 m_43 m_44 m_45 m_46 m_47 m_48 m_49 m_50 m_51 m_52 m_53 m_54 m_55 m_56 m_57 m_58 m_59 m_60 m_61 m_62 m_63 m_64 m_65 m_66 m_67 m_68 m_69 k_tape_70 (xs 1) (xs 2) (xs 3) (xs 4) (xs 5) H.size) (cwV 5 hts gL_law_X9_feed rfl rfl rfl (by decide +kernel) ⟨Nat.le_of_ble_eq_true rfl, Nat.le_of_ble_eq_true rfl⟩) ⟨c_blind, va_recv hKc hPc (ci := 9) (q0 := 0) rfl rfl, c_pre hPc hKc hDc hN⟩ rfl rfl hl.1 rfl (lv_room (Nat.le_of_ble_eq_true rfl)) dL_law_209 ⟨Nat.le_of_ble_eq_true rfl, Nat.le_of_ble_eq_true rfl⟩) hS (fun q _ h => hFc q h) hFc (fun r_130 u9 t9 H1 locs ht hvm hw hB hz1 hk1 hS => ?_)
      obtain ⟨hP1, hK1, hD1⟩ := hB
      rw [ht] at hP1
      have hK1 := va_K.moved hvm.symm hK1
      obtain ⟨hP, hD⟩ := va_join (wr := []) (w1 := []) hP hD [0, 1] [] rfl rfl (by decide) (by decide) hk1 hFc hP1 hD1
      have hK := (hK.sub (tys' := [(j_13, .int), (g_19, .array .int), (g_20, .array .int), (ky_21, .int), (kt_22, .int), (kz_23, .boolean), (kr_24, .int), (j_27, .int), (j_28, .object "YamRiders$Horse"), (j_29, .object "YamRiders$Tablet"), (j_30, .object "YamRiders$Rider"), (j_31, .object "YamRiders$Rider"), (j_33, .int), (k_tape_70, .byte), (k_law_71, .int), (k_fresh_72, .int), (k_isTold_73, .boolean), (k_hours_74, .int), (k_snow_75, .int), (k_least_76, .int), (k_fodder_77, .int), (k_strength_78, .int), (k_stands_79, .int), (k_rank_80, .int), (k_voidSince_81, .int), (k_newsSince_82, .int), (k_ways_83, .int), (k_wayMany_84, .int), (k_tabletOf_85, .int), (k_state_86, .int), (k_come_87, .int), (k_cameIn_88, .int), (k_horseOf_89, .int), (k_due_90, .int), (k_time_91, .int), (k_brings_92, .int), (k_loose_93, .boolean), (k_asked_94, .boolean), (k_led_95, .int), (k_cost_96, .int), (k_left_97, .int), (k_wants_98, .int), (k_toGiver_99, .int), (k_toTaker_100, .int), (k_giverBy_101, .int), (k_takerBy_102, .int), (k_105, .long)]) [0, 1, 2, 3, 4, 5, 6, 7, 8, 9, 10, 11, 12, 13, 14, 15, 16, 17, 18, 19, 20, 21, 22, 23, 24, 25, 26, 27, 28, 29, 30, 31, 32, 33, 34, 35, 36, 37, 38, 39, 40, 41, 42, 43, 44, 45, 46] rfl).app hK1
      generalize H1 = H at hP hS ⊢
      have hK : va_K (dC, dI) vwCl [(j_13, .int), (g_19, .array .int), (g_20, .array .int), (ky_21, .int), (kt_22, .int), (kz_23, .boolean), (kr_24, .int), (j_27, .int), (j_28, .object "YamRiders$Horse"), (j_29, .object "YamRiders$Tablet"), (j_30, .object "YamRiders$Rider"), (j_31, .object "YamRiders$Rider"), (j_33, .int), (k_tape_70, .byte), (k_law_71, .int), (k_fresh_72, .int), (k_isTold_73, .boolean), (k_hours_74, .int), (k_snow_75, .int), (k_least_76, .int), (k_fodder_77, .int), (k_strength_78, .int), (k_stands_79, .int), (k_rank_80, .int), (k_voidSince_81, .int), (k_newsSince_82, .int), (k_ways_83, .int), (k_wayMany_84, .int), (k_tabletOf_85, .int), (k_state_86, .int), (k_come_87, .int), (k_cameIn_88, .int), (k_horseOf_89, .int), (k_due_90, .int), (k_time_91, .int), (k_brings_92, .int), (k_loose_93, .boolean), (k_asked_94, .boolean), (k_led_95, .int), (k_cost_96, .int), (k_left_97, .int), (k_wants_98, .int), (k_toGiver_99, .int), (k_toTaker_100, .int), (k_giverBy_101, .int), (k_takerBy_102, .int), (k_105, .long)] s := hK
      have hP : va_P (dC, dI) vwCl [] H := hP
      have hD : va_D (fun q : Nat => s.heap.size ≤ q) [] := hD
      try dsimp only at hw
      subst hw
      refine W.widen (k := 102) (n := 4433) (Nat.le_of_ble_eq_true rfl) (Nat.le_of_ble_eq_true rfl) ?_
      refine lv_icmp_eq (tgt := 948) hx hb dL_law_212 (by decide) (fun _ => ?_) (fun c_131 => by first | exact absurd c_131 (by decide) | exact absurd (by decide) c_131)
      refine lv_iinc (v := 6) (lv' := [(4, .int 6), (3, .ref q_104), (2, .ref q_35), (1, .ref q_1), (0, .ref b)]) hx hb dL_law_948 hl (k := 0) rfl (by decide) (by decide) rfl (fun ls hl => ?_)
      refine lv_goto (tgt := 23) hx hb dL_law_951 (by decide) ?_
      refine lv_iload hx hb dL_law_23 (lv_at hl 0 rfl) ?_
      refine lv_aload_n hx hb dL_law_25 rfl (lv_at hl 4 rfl) ?_
      refine va_slen hx hb hX hbl hbA hS dL_law_26 ?_
      refine lv_bipush (v := 6) hx hb dL_law_27 (by decide) ?_
      refine lv_isub hx hb dL_law_29 ?_
      refine lv_topi (fun y_132 ey_132 => ?_)
      obtain rfl : y_132 = 0 := ey_132.trans (by decide)
      refine lv_icmp_gt (tgt := 954) hx hb dL_law_30 (by decide) (fun _ => ?_) (fun c_133 => by first | exact absurd c_133 (by decide) | exact absurd (by decide) c_133)
      refine lv_iconst (v := 1) hx hb dL_law_954 (by decide) ?_
      refine va_forget (fun q hq => hS.2.2 q hq) ?_
      refine W.widen (k := 600002) (n := 7302232) (Nat.le_of_ble_eq_true rfl) (Nat.le_of_ble_eq_true rfl) ?_
      exact lw_ret hx hb hr hlocks dL_law_955
    by_cases c_134 : (xs 0) &&& 31 = 1
    · refine lv_tableIn (tgt := 217) (off := 177) hx hb dL_law_40 (by rw [c_134]; decide) (by rw [c_134]; decide) (by rw [c_134]; decide) (by decide) ?_
      have hP := hP.sub (ws' := [(q_1, .inr (8, [.ref a_3, .ref a_4, .ref a_5, .ref a_6, .ref a_7, .ref a_8, .ref a_9, .ref a_10, .ref a_11, .int 0, .int 0, .int 0, .int 0, .int 0, .int 0])), (a_3, .inr (7, [.ref e_12, .int 0])), (q_35, .inr (9, [.int 0, .ref m_37, .int 0, .int 0, .int 0, .ref m_38, .ref m_39, .ref m_40, .int 0, .int 0, .int 0, .int 0, .int 0, .int 0, .long 0, .ref m_41, .ref m_42, .ref m_43, .ref m_44, .ref m_45, .ref m_46, .int 0, .ref m_47, .ref m_48, .ref m_49, .ref m_50, .ref m_51, .ref m_52, .ref m_53, .ref m_54, .ref m_55, .ref m_56, .ref m_57, .ref m_58, .ref m_59, .int 0, .int 0, .ref m_60, .ref m_61, .ref m_62, .ref m_63, .ref m_64, .ref m_65, .ref m_66, .ref m_67, .ref m_68, .ref m_69]))]) [0, 1, 40] rfl
      have hD := hD.sub (ws' := [(q_1, .inr (8, [.ref a_3, .ref a_4, .ref a_5, .ref a_6, .ref a_7, .ref a_8, .ref a_9, .ref a_10, .ref a_11, .int 0, .int 0, .int 0, .int 0, .int 0, .int 0])), (a_3, .inr (7, [.ref e_12, .int 0])), (q_35, .inr (9, [.int 0, .ref m_37, .int 0, .int 0, .int 0, .ref m_38, .ref m_39, .ref m_40, .int 0, .int 0, .int 0, .int 0, .int 0, .int 0, .long 0, .ref m_41, .ref m_42, .ref m_43, .ref m_44, .ref m_45, .ref m_46, .int 0, .ref m_47, .ref m_48, .ref m_49, .ref m_50, .ref m_51, .ref m_52, .ref m_53, .ref m_54, .ref m_55, .ref m_56, .ref m_57, .ref m_58, .ref m_59, .int 0, .int 0, .ref m_60, .ref m_61, .ref m_62, .ref m_63, .ref m_64, .ref m_65, .ref m_66, .ref m_67, .ref m_68, .ref m_69]))]) [0, 1, 40] (by decide) rfl
      refine lv_aload_n hx hb dL_law_217 rfl (lv_at hl 3 rfl) ?_
      refine lv_aload_n hx hb dL_law_218 rfl (lv_at hl 4 rfl) ?_
      refine lv_iload hx hb dL_law_219 (lv_at hl 0 rfl) ?_
      refine lv_iconst (v := 1) hx hb dL_law_221 (by decide) ?_
      refine lv_iadd hx hb dL_law_222 ?_
      refine lv_topi (fun y_135 ey_135 => ?_)
      obtain rfl : y_135 = 1 := ey_135.trans (by decide)
      refine va_sld hx hb hX hbl hbA hS (by unfold vp_in; decide) dL_law_223 ?_
      refine lv_topi (fun v_136 ev_136 => ?_)
      obtain rfl : v_136 = xs 1 := ev_136.trans rfl
      have hPc := hP.sub (ws' := [(q_1, .inr (8, [.ref a_3, .ref a_4, .ref a_5, .ref a_6, .ref a_7, .ref a_8, .ref a_9, .ref a_10, .ref a_11, .int 0, .int 0, .int 0, .int 0, .int 0, .int 0])), (a_3, .inr (7, [.ref e_12, .int 0]))]) [0, 1] rfl
      have hDc := hD.sub (ws' := [(q_1, .inr (8, [.ref a_3, .ref a_4, .ref a_5, .ref a_6, .ref a_7, .ref a_8, .ref a_9, .ref a_10, .ref a_11, .int 0, .int 0, .int 0, .int 0, .int 0, .int 0])), (a_3, .inr (7, [.ref e_12, .int 0]))]) [0, 1] (by decide) rfl
      have hKc := hK.sub (tys' := []) [] rfl
      have hFc := va_free (wc := [(q_1, .inr (8, [.ref a_3, .ref a_4, .ref a_5, .ref a_6, .ref a_7, .ref a_8, .ref a_9, .ref a_10, .ref a_11, .int 0, .int 0, .int 0, .int 0, .int 0, .int 0])), (a_3, .inr (7, [.ref e_12, .int 0]))]) hD hS hA [0, 1] rfl
      refine va_calli (va_runV (As := [.int (xs 1)]) (rest := []) ⟨hx, hb, hml, hown, hts⟩ (c_X8_end l dC dI q_1 a_3 a_4 a_5 a_6 a_7 a_8 a_9 a_10 a_11 e_12 (xs 1) H.size) (cwV 1 hts gL_law_X8_end rfl rfl rfl (by decide +kernel) ⟨Nat.le_of_ble_eq_true rfl, Nat.le_of_ble_eq_true rfl⟩) ⟨c_blind, va_recv hKc hPc (ci := 8) (q0 := 0) rfl rfl, c_pre hPc hKc hDc hN⟩ rfl rfl hl.1 rfl (lv_room (Nat.le_of_ble_eq_true rfl)) dL_law_224 ⟨Nat.le_of_ble_eq_true rfl, Nat.le_of_ble_eq_true rfl⟩) hS (fun q _ h => hFc q h) hFc (fun r_137 u9 t9 H1 locs ht hvm hw hB hz1 hk1 hS => ?_)
      obtain ⟨hP1, hK1, hD1⟩ := hB
      rw [ht] at hP1
      have hK1 := va_K.moved hvm.symm hK1
      obtain ⟨hP, hD⟩ := va_join (wr := [(q_35, .inr (9, [.int 0, .ref m_37, .int 0, .int 0, .int 0, .ref m_38, .ref m_39, .ref m_40, .int 0, .int 0, .int 0, .int 0, .int 0, .int 0, .long 0, .ref m_41, .ref m_42, .ref m_43, .ref m_44, .ref m_45, .ref m_46, .int 0, .ref m_47, .ref m_48, .ref m_49, .ref m_50, .ref m_51, .ref m_52, .ref m_53, .ref m_54, .ref m_55, .ref m_56, .ref m_57, .ref m_58, .ref m_59, .int 0, .int 0, .ref m_60, .ref m_61, .ref m_62, .ref m_63, .ref m_64, .ref m_65, .ref m_66, .ref m_67, .ref m_68, .ref m_69]))]) (w1 := []) hP hD [0, 1] [2] rfl rfl (by decide) (by decide) hk1 hFc hP1 hD1
      have hK := (hK.sub (tys' := [(j_13, .int), (g_19, .array .int), (g_20, .array .int), (ky_21, .int), (kt_22, .int), (kz_23, .boolean), (kr_24, .int), (j_27, .int), (j_28, .object "YamRiders$Horse"), (j_29, .object "YamRiders$Tablet"), (j_30, .object "YamRiders$Rider"), (j_31, .object "YamRiders$Rider"), (j_33, .int), (k_tape_70, .byte), (k_law_71, .int), (k_fresh_72, .int), (k_isTold_73, .boolean), (k_hours_74, .int), (k_snow_75, .int), (k_least_76, .int), (k_fodder_77, .int), (k_strength_78, .int), (k_stands_79, .int), (k_rank_80, .int), (k_voidSince_81, .int), (k_newsSince_82, .int), (k_ways_83, .int), (k_wayMany_84, .int), (k_tabletOf_85, .int), (k_state_86, .int), (k_come_87, .int), (k_cameIn_88, .int), (k_horseOf_89, .int), (k_due_90, .int), (k_time_91, .int), (k_brings_92, .int), (k_loose_93, .boolean), (k_asked_94, .boolean), (k_led_95, .int), (k_cost_96, .int), (k_left_97, .int), (k_wants_98, .int), (k_toGiver_99, .int), (k_toTaker_100, .int), (k_giverBy_101, .int), (k_takerBy_102, .int), (k_105, .long)]) [0, 1, 2, 3, 4, 5, 6, 7, 8, 9, 10, 11, 12, 13, 14, 15, 16, 17, 18, 19, 20, 21, 22, 23, 24, 25, 26, 27, 28, 29, 30, 31, 32, 33, 34, 35, 36, 37, 38, 39, 40, 41, 42, 43, 44, 45, 46] rfl).app hK1
      generalize H1 = H at hP hS ⊢
      have hK : va_K (dC, dI) vwCl [(j_13, .int), (g_19, .array .int), (g_20, .array .int), (ky_21, .int), (kt_22, .int), (kz_23, .boolean), (kr_24, .int), (j_27, .int), (j_28, .object "YamRiders$Horse"), (j_29, .object "YamRiders$Tablet"), (j_30, .object "YamRiders$Rider"), (j_31, .object "YamRiders$Rider"), (j_33, .int), (k_tape_70, .byte), (k_law_71, .int), (k_fresh_72, .int), (k_isTold_73, .boolean), (k_hours_74, .int), (k_snow_75, .int), (k_least_76, .int), (k_fodder_77, .int), (k_strength_78, .int), (k_stands_79, .int), (k_rank_80, .int), (k_voidSince_81, .int), (k_newsSince_82, .int), (k_ways_83, .int), (k_wayMany_84, .int), (k_tabletOf_85, .int), (k_state_86, .int), (k_come_87, .int), (k_cameIn_88, .int), (k_horseOf_89, .int), (k_due_90, .int), (k_time_91, .int), (k_brings_92, .int), (k_loose_93, .boolean), (k_asked_94, .boolean), (k_led_95, .int), (k_cost_96, .int), (k_left_97, .int), (k_wants_98, .int), (k_toGiver_99, .int), (k_toTaker_100, .int), (k_giverBy_101, .int), (k_takerBy_102, .int), (k_105, .long)] s := hK
      have hP : va_P (dC, dI) vwCl [(q_35, .inr (9, [.int 0, .ref m_37, .int 0, .int 0, .int 0, .ref m_38, .ref m_39, .ref m_40, .int 0, .int 0, .int 0, .int 0, .int 0, .int 0, .long 0, .ref m_41, .ref m_42, .ref m_43, .ref m_44, .ref m_45, .ref m_46, .int 0, .ref m_47, .ref m_48, .ref m_49, .ref m_50, .ref m_51, .ref m_52, .ref m_53, .ref m_54, .ref m_55, .ref m_56, .ref m_57, .ref m_58, .ref m_59, .int 0, .int 0, .ref m_60, .ref m_61, .ref m_62, .ref m_63, .ref m_64, .ref m_65, .ref m_66, .ref m_67, .ref m_68, .ref m_69]))] H := hP
      have hD : va_D (fun q : Nat => s.heap.size ≤ q) [(q_35, .inr (9, [.int 0, .ref m_37, .int 0, .int 0, .int 0, .ref m_38, .ref m_39, .ref m_40, .int 0, .int 0, .int 0, .int 0, .int 0, .int 0, .long 0, .ref m_41, .ref m_42, .ref m_43, .ref m_44, .ref m_45, .ref m_46, .int 0, .ref m_47, .ref m_48, .ref m_49, .ref m_50, .ref m_51, .ref m_52, .ref m_53, .ref m_54, .ref m_55, .ref m_56, .ref m_57, .ref m_58, .ref m_59, .int 0, .int 0, .ref m_60, .ref m_61, .ref m_62, .ref m_63, .ref m_64, .ref m_65, .ref m_66, .ref m_67, .ref m_68, .ref m_69]))] := hD
      try dsimp only at hw
      subst hw
      refine W.widen (k := 102) (n := 4433) (Nat.le_of_ble_eq_true rfl) (Nat.le_of_ble_eq_true rfl) ?_
      refine lv_aload_n hx hb dL_law_227 rfl (lv_at hl 2 rfl) ?_
      refine lv_aload_n hx hb dL_law_228 rfl (lv_at hl 4 rfl) ?_
      refine lv_iload hx hb dL_law_229 (lv_at hl 0 rfl) ?_
      refine lv_iconst (v := 1) hx hb dL_law_231 (by decide) ?_
      refine lv_iadd hx hb dL_law_232 ?_
      refine lv_topi (fun y_138 ey_138 => ?_)
      obtain rfl : y_138 = 1 := ey_138.trans (by decide)
      refine va_sld hx hb hX hbl hbA hS (by unfold vp_in; decide) dL_law_233 ?_
      refine lv_topi (fun v_139 ev_139 => ?_)
      obtain rfl : v_139 = xs 1 := ev_139.trans rfl
      have hPc := hP.sub (ws' := [(q_35, .inr (9, [.int 0, .ref m_37, .int 0, .int 0, .int 0, .ref m_38, .ref m_39, .ref m_40, .int 0, .int 0, .int 0, .int 0, .int 0, .int 0, .long 0, .ref m_41, .ref m_42, .ref m_43, .ref m_44, .ref m_45, .ref m_46, .int 0, .ref m_47, .ref m_48, .ref m_49, .ref m_50, .ref m_51, .ref m_52, .ref m_53, .ref m_54, .ref m_55, .ref m_56, .ref m_57, .ref m_58, .ref m_59, .int 0, .int 0, .ref m_60, .ref m_61, .ref m_62, .ref m_63, .ref m_64, .ref m_65, .ref m_66, .ref m_67, .ref m_68, .ref m_69]))]) [0] rfl
      have hDc := hD.sub (ws' := [(q_35, .inr (9, [.int 0, .ref m_37, .int 0, .int 0, .int 0, .ref m_38, .ref m_39, .ref m_40, .int 0, .int 0, .int 0, .int 0, .int 0, .int 0, .long 0, .ref m_41, .ref m_42, .ref m_43, .ref m_44, .ref m_45, .ref m_46, .int 0, .ref m_47, .ref m_48, .ref m_49, .ref m_50, .ref m_51, .ref m_52, .ref m_53, .ref m_54, .ref m_55, .ref m_56, .ref m_57, .ref m_58, .ref m_59, .int 0, .int 0, .ref m_60, .ref m_61, .ref m_62, .ref m_63, .ref m_64, .ref m_65, .ref m_66, .ref m_67, .ref m_68, .ref m_69]))]) [0] (by decide) rfl
      have hKc := hK.sub (tys' := []) [] rfl
      have hFc := va_free (wc := [(q_35, .inr (9, [.int 0, .ref m_37, .int 0, .int 0, .int 0, .ref m_38, .ref m_39, .ref m_40, .int 0, .int 0, .int 0, .int 0, .int 0, .int 0, .long 0, .ref m_41, .ref m_42, .ref m_43, .ref m_44, .ref m_45, .ref m_46, .int 0, .ref m_47, .ref m_48, .ref m_49, .ref m_50, .ref m_51, .ref m_52, .ref m_53, .ref m_54, .ref m_55, .ref m_56, .ref m_57, .ref m_58, .ref m_59, .int 0, .int 0, .ref m_60, .ref m_61, .ref m_62, .ref m_63, .ref m_64, .ref m_65, .ref m_66, .ref m_67, .ref m_68, .ref m_69]))]) hD hS hA [0] rfl
      refine va_calli (va_runV (As := [.int (xs 1)]) (rest := [.int (if (xs 1) < 0 then 0 else (if (xs 1) ≤ 0 then 1 else 0))]) ⟨hx, hb, hml, hown, hts⟩ (c_X9_end l dC dI q_35 m_37 m_38 m_39 m_40 m_41 m_42 m_43 m_44 m_45 m_46 m_47 m_48 m_49 m_50 m_51 m_52 m_53 m_54 m_55 m_56 m_57 m_58 m_59 m_60 m_61 m_62 m_63 m_64 m_65 m_66 m_67 m_68 m_69 (xs 1) H.size) (cwV 1 hts gL_law_X9_end rfl rfl rfl (by decide +kernel) ⟨Nat.le_of_ble_eq_true rfl, Nat.le_of_ble_eq_true rfl⟩) ⟨c_blind, va_recv hKc hPc (ci := 9) (q0 := 0) rfl rfl, c_pre hPc hKc hDc hN⟩ rfl rfl hl.1 rfl (lv_room (Nat.le_of_ble_eq_true rfl)) dL_law_234 ⟨Nat.le_of_ble_eq_true rfl, Nat.le_of_ble_eq_true rfl⟩) hS (fun q _ h => hFc q h) hFc (fun r_140 u9 t9 H1 locs ht hvm hw hB hz1 hk1 hS => ?_)
      obtain ⟨hP1, hK1, hD1⟩ := hB
      rw [ht] at hP1
      have hK1 := va_K.moved hvm.symm hK1
      obtain ⟨hP, hD⟩ := va_join (wr := []) (w1 := []) hP hD [0] [] rfl rfl (by decide) (by decide) hk1 hFc hP1 hD1
      have hK := (hK.sub (tys' := [(j_13, .int), (g_19, .array .int), (g_20, .array .int), (ky_21, .int), (kt_22, .int), (kz_23, .boolean), (kr_24, .int), (j_27, .int), (j_28, .object "YamRiders$Horse"), (j_29, .object "YamRiders$Tablet"), (j_30, .object "YamRiders$Rider"), (j_31, .object "YamRiders$Rider"), (j_33, .int), (k_tape_70, .byte), (k_law_71, .int), (k_fresh_72, .int), (k_isTold_73, .boolean), (k_hours_74, .int), (k_snow_75, .int), (k_least_76, .int), (k_fodder_77, .int), (k_strength_78, .int), (k_stands_79, .int), (k_rank_80, .int), (k_voidSince_81, .int), (k_newsSince_82, .int), (k_ways_83, .int), (k_wayMany_84, .int), (k_tabletOf_85, .int), (k_state_86, .int), (k_come_87, .int), (k_cameIn_88, .int), (k_horseOf_89, .int), (k_due_90, .int), (k_time_91, .int), (k_brings_92, .int), (k_loose_93, .boolean), (k_asked_94, .boolean), (k_led_95, .int), (k_cost_96, .int), (k_left_97, .int), (k_wants_98, .int), (k_toGiver_99, .int), (k_toTaker_100, .int), (k_giverBy_101, .int), (k_takerBy_102, .int), (k_105, .long)]) [0, 1, 2, 3, 4, 5, 6, 7, 8, 9, 10, 11, 12, 13, 14, 15, 16, 17, 18, 19, 20, 21, 22, 23, 24, 25, 26, 27, 28, 29, 30, 31, 32, 33, 34, 35, 36, 37, 38, 39, 40, 41, 42, 43, 44, 45, 46] rfl).app hK1
      generalize H1 = H at hP hS ⊢
      have hK : va_K (dC, dI) vwCl [(j_13, .int), (g_19, .array .int), (g_20, .array .int), (ky_21, .int), (kt_22, .int), (kz_23, .boolean), (kr_24, .int), (j_27, .int), (j_28, .object "YamRiders$Horse"), (j_29, .object "YamRiders$Tablet"), (j_30, .object "YamRiders$Rider"), (j_31, .object "YamRiders$Rider"), (j_33, .int), (k_tape_70, .byte), (k_law_71, .int), (k_fresh_72, .int), (k_isTold_73, .boolean), (k_hours_74, .int), (k_snow_75, .int), (k_least_76, .int), (k_fodder_77, .int), (k_strength_78, .int), (k_stands_79, .int), (k_rank_80, .int), (k_voidSince_81, .int), (k_newsSince_82, .int), (k_ways_83, .int), (k_wayMany_84, .int), (k_tabletOf_85, .int), (k_state_86, .int), (k_come_87, .int), (k_cameIn_88, .int), (k_horseOf_89, .int), (k_due_90, .int), (k_time_91, .int), (k_brings_92, .int), (k_loose_93, .boolean), (k_asked_94, .boolean), (k_led_95, .int), (k_cost_96, .int), (k_left_97, .int), (k_wants_98, .int), (k_toGiver_99, .int), (k_toTaker_100, .int), (k_giverBy_101, .int), (k_takerBy_102, .int), (k_105, .long)] s := hK
      have hP : va_P (dC, dI) vwCl [] H := hP
      have hD : va_D (fun q : Nat => s.heap.size ≤ q) [] := hD
      try dsimp only at hw
      subst hw
      refine W.widen (k := 102) (n := 4433) (Nat.le_of_ble_eq_true rfl) (Nat.le_of_ble_eq_true rfl) ?_
      refine lv_icmp_eq (tgt := 948) hx hb dL_law_237 (by decide) (fun _ => ?_) (fun c_141 => by first | exact absurd c_141 rfl | exact absurd rfl c_141)
      refine lv_iinc (v := 6) (lv' := [(4, .int 6), (3, .ref q_104), (2, .ref q_35), (1, .ref q_1), (0, .ref b)]) hx hb dL_law_948 hl (k := 0) rfl (by decide) (by decide) rfl (fun ls hl => ?_)
      refine lv_goto (tgt := 23) hx hb dL_law_951 (by decide) ?_
      refine lv_iload hx hb dL_law_23 (lv_at hl 0 rfl) ?_
      refine lv_aload_n hx hb dL_law_25 rfl (lv_at hl 4 rfl) ?_
      refine va_slen hx hb hX hbl hbA hS dL_law_26 ?_
      refine lv_bipush (v := 6) hx hb dL_law_27 (by decide) ?_
      refine lv_isub hx hb dL_law_29 ?_
      refine lv_topi (fun y_142 ey_142 => ?_)
      obtain rfl : y_142 = 0 := ey_142.trans (by decide)
      refine lv_icmp_gt (tgt := 954) hx hb dL_law_30 (by decide) (fun _ => ?_) (fun c_143 => by first | exact absurd c_143 (by decide) | exact absurd (by decide) c_143)
      refine lv_iconst (v := 1) hx hb dL_law_954 (by decide) ?_
      refine va_forget (fun q hq => hS.2.2 q hq) ?_
      refine W.widen (k := 600002) (n := 7302232) (Nat.le_of_ble_eq_true rfl) (Nat.le_of_ble_eq_true rfl) ?_
      exact lw_ret hx hb hr hlocks dL_law_955
    by_cases c_144 : (xs 0) &&& 31 = 2
    · refine lv_tableIn (tgt := 242) (off := 202) hx hb dL_law_40 (by rw [c_144]; decide) (by rw [c_144]; decide) (by rw [c_144]; decide) (by decide) ?_
      have hP := hP.sub (ws' := [(q_1, .inr (8, [.ref a_3, .ref a_4, .ref a_5, .ref a_6, .ref a_7, .ref a_8, .ref a_9, .ref a_10, .ref a_11, .int 0, .int 0, .int 0, .int 0, .int 0, .int 0])), (a_3, .inr (7, [.ref e_12, .int 0])), (q_35, .inr (9, [.int 0, .ref m_37, .int 0, .int 0, .int 0, .ref m_38, .ref m_39, .ref m_40, .int 0, .int 0, .int 0, .int 0, .int 0, .int 0, .long 0, .ref m_41, .ref m_42, .ref m_43, .ref m_44, .ref m_45, .ref m_46, .int 0, .ref m_47, .ref m_48, .ref m_49, .ref m_50, .ref m_51, .ref m_52, .ref m_53, .ref m_54, .ref m_55, .ref m_56, .ref m_57, .ref m_58, .ref m_59, .int 0, .int 0, .ref m_60, .ref m_61, .ref m_62, .ref m_63, .ref m_64, .ref m_65, .ref m_66, .ref m_67, .ref m_68, .ref m_69])), (m_38, .inl (k_law_71, 6, .inl f_103)), (m_39, .inl (k_fresh_72, 6, .inl (fun _ => 0))), (m_40, .inl (k_isTold_73, 6, .inl (fun _ => 0)))]) [0, 1, 40, 42, 43, 44] rfl
      have hD := hD.sub (ws' := [(q_1, .inr (8, [.ref a_3, .ref a_4, .ref a_5, .ref a_6, .ref a_7, .ref a_8, .ref a_9, .ref a_10, .ref a_11, .int 0, .int 0, .int 0, .int 0, .int 0, .int 0])), (a_3, .inr (7, [.ref e_12, .int 0])), (q_35, .inr (9, [.int 0, .ref m_37, .int 0, .int 0, .int 0, .ref m_38, .ref m_39, .ref m_40, .int 0, .int 0, .int 0, .int 0, .int 0, .int 0, .long 0, .ref m_41, .ref m_42, .ref m_43, .ref m_44, .ref m_45, .ref m_46, .int 0, .ref m_47, .ref m_48, .ref m_49, .ref m_50, .ref m_51, .ref m_52, .ref m_53, .ref m_54, .ref m_55, .ref m_56, .ref m_57, .ref m_58, .ref m_59, .int 0, .int 0, .ref m_60, .ref m_61, .ref m_62, .ref m_63, .ref m_64, .ref m_65, .ref m_66, .ref m_67, .ref m_68, .ref m_69])), (m_38, .inl (k_law_71, 6, .inl f_103)), (m_39, .inl (k_fresh_72, 6, .inl (fun _ => 0))), (m_40, .inl (k_isTold_73, 6, .inl (fun _ => 0)))]) [0, 1, 40, 42, 43, 44] (by decide) rfl
      refine lv_aload_n hx hb dL_law_242 rfl (lv_at hl 3 rfl) ?_
      have hPc := hP.sub (ws' := [(q_1, .inr (8, [.ref a_3, .ref a_4, .ref a_5, .ref a_6, .ref a_7, .ref a_8, .ref a_9, .ref a_10, .ref a_11, .int 0, .int 0, .int 0, .int 0, .int 0, .int 0])), (a_3, .inr (7, [.ref e_12, .int 0]))]) [0, 1] rfl
      have hDc := hD.sub (ws' := [(q_1, .inr (8, [.ref a_3, .ref a_4, .ref a_5, .ref a_6, .ref a_7, .ref a_8, .ref a_9, .ref a_10, .ref a_11, .int 0, .int 0, .int 0, .int 0, .int 0, .int 0])), (a_3, .inr (7, [.ref e_12, .int 0]))]) [0, 1] (by decide) rfl
      have hKc := hK.sub (tys' := []) [] rfl
      have hFc := va_free (wc := [(q_1, .inr (8, [.ref a_3, .ref a_4, .ref a_5, .ref a_6, .ref a_7, .ref a_8, .ref a_9, .ref a_10, .ref a_11, .int 0, .int 0, .int 0, .int 0, .int 0, .int 0])), (a_3, .inr (7, [.ref e_12, .int 0]))]) hD hS hA [0, 1] rfl
      refine va_calli (va_runV (As := []) (rest := []) ⟨hx, hb, hml, hown, hts⟩ (c_X8_statutes l dC dI q_1 a_3 a_4 a_5 a_6 a_7 a_8 a_9 a_10 a_11 e_12 H.size) (cwV 0 hts gL_law_X8_statutes rfl rfl rfl (by decide +kernel) ⟨Nat.le_of_ble_eq_true rfl, Nat.le_of_ble_eq_true rfl⟩) ⟨c_blind, va_recv hKc hPc (ci := 8) (q0 := 0) rfl rfl, c_pre hPc hKc hDc hN⟩ rfl rfl hl.1 rfl (lv_room (Nat.le_of_ble_eq_true rfl)) dL_law_243 ⟨Nat.le_of_ble_eq_true rfl, Nat.le_of_ble_eq_true rfl⟩) hS (fun q _ h => hFc q h) hFc (fun r_145 u9 t9 H1 locs ht hvm hw hB hz1 hk1 hS => ?_)
      obtain ⟨hP1, hK1, hD1⟩ := hB
      rw [ht] at hP1
      have hK1 := va_K.moved hvm.symm hK1
      obtain ⟨hP, hD⟩ := va_join (wr := [(q_35, .inr (9, [.int 0, .ref m_37, .int 0, .int 0, .int 0, .ref m_38, .ref m_39, .ref m_40, .int 0, .int 0, .int 0, .int 0, .int 0, .int 0, .long 0, .ref m_41, .ref m_42, .ref m_43, .ref m_44, .ref m_45, .ref m_46, .int 0, .ref m_47, .ref m_48, .ref m_49, .ref m_50, .ref m_51, .ref m_52, .ref m_53, .ref m_54, .ref m_55, .ref m_56, .ref m_57, .ref m_58, .ref m_59, .int 0, .int 0, .ref m_60, .ref m_61, .ref m_62, .ref m_63, .ref m_64, .ref m_65, .ref m_66, .ref m_67, .ref m_68, .ref m_69])), (m_38, .inl (k_law_71, 6, .inl f_103)), (m_39, .inl (k_fresh_72, 6, .inl (fun _ => 0))), (m_40, .inl (k_isTold_73, 6, .inl (fun _ => 0)))]) (w1 := []) hP hD [0, 1] [2, 3, 4, 5] rfl rfl (by decide) (by decide) hk1 hFc hP1 hD1
      have hK := (hK.sub (tys' := [(j_13, .int), (g_19, .array .int), (g_20, .array .int), (ky_21, .int), (kt_22, .int), (kz_23, .boolean), (kr_24, .int), (j_27, .int), (j_28, .object "YamRiders$Horse"), (j_29, .object "YamRiders$Tablet"), (j_30, .object "YamRiders$Rider"), (j_31, .object "YamRiders$Rider"), (j_33, .int), (k_tape_70, .byte), (k_law_71, .int), (k_fresh_72, .int), (k_isTold_73, .boolean), (k_hours_74, .int), (k_snow_75, .int), (k_least_76, .int), (k_fodder_77, .int), (k_strength_78, .int), (k_stands_79, .int), (k_rank_80, .int), (k_voidSince_81, .int), (k_newsSince_82, .int), (k_ways_83, .int), (k_wayMany_84, .int), (k_tabletOf_85, .int), (k_state_86, .int), (k_come_87, .int), (k_cameIn_88, .int), (k_horseOf_89, .int), (k_due_90, .int), (k_time_91, .int), (k_brings_92, .int), (k_loose_93, .boolean), (k_asked_94, .boolean), (k_led_95, .int), (k_cost_96, .int), (k_left_97, .int), (k_wants_98, .int), (k_toGiver_99, .int), (k_toTaker_100, .int), (k_giverBy_101, .int), (k_takerBy_102, .int), (k_105, .long)]) [0, 1, 2, 3, 4, 5, 6, 7, 8, 9, 10, 11, 12, 13, 14, 15, 16, 17, 18, 19, 20, 21, 22, 23, 24, 25, 26, 27, 28, 29, 30, 31, 32, 33, 34, 35, 36, 37, 38, 39, 40, 41, 42, 43, 44, 45, 46] rfl).app hK1
      generalize H1 = H at hP hS ⊢
      have hK : va_K (dC, dI) vwCl [(j_13, .int), (g_19, .array .int), (g_20, .array .int), (ky_21, .int), (kt_22, .int), (kz_23, .boolean), (kr_24, .int), (j_27, .int), (j_28, .object "YamRiders$Horse"), (j_29, .object "YamRiders$Tablet"), (j_30, .object "YamRiders$Rider"), (j_31, .object "YamRiders$Rider"), (j_33, .int), (k_tape_70, .byte), (k_law_71, .int), (k_fresh_72, .int), (k_isTold_73, .boolean), (k_hours_74, .int), (k_snow_75, .int), (k_least_76, .int), (k_fodder_77, .int), (k_strength_78, .int), (k_stands_79, .int), (k_rank_80, .int), (k_voidSince_81, .int), (k_newsSince_82, .int), (k_ways_83, .int), (k_wayMany_84, .int), (k_tabletOf_85, .int), (k_state_86, .int), (k_come_87, .int), (k_cameIn_88, .int), (k_horseOf_89, .int), (k_due_90, .int), (k_time_91, .int), (k_brings_92, .int), (k_loose_93, .boolean), (k_asked_94, .boolean), (k_led_95, .int), (k_cost_96, .int), (k_left_97, .int), (k_wants_98, .int), (k_toGiver_99, .int), (k_toTaker_100, .int), (k_giverBy_101, .int), (k_takerBy_102, .int), (k_105, .long)] s := hK
      have hP : va_P (dC, dI) vwCl [(q_35, .inr (9, [.int 0, .ref m_37, .int 0, .int 0, .int 0, .ref m_38, .ref m_39, .ref m_40, .int 0, .int 0, .int 0, .int 0, .int 0, .int 0, .long 0, .ref m_41, .ref m_42, .ref m_43, .ref m_44, .ref m_45, .ref m_46, .int 0, .ref m_47, .ref m_48, .ref m_49, .ref m_50, .ref m_51, .ref m_52, .ref m_53, .ref m_54, .ref m_55, .ref m_56, .ref m_57, .ref m_58, .ref m_59, .int 0, .int 0, .ref m_60, .ref m_61, .ref m_62, .ref m_63, .ref m_64, .ref m_65, .ref m_66, .ref m_67, .ref m_68, .ref m_69])), (m_38, .inl (k_law_71, 6, .inl f_103)), (m_39, .inl (k_fresh_72, 6, .inl (fun _ => 0))), (m_40, .inl (k_isTold_73, 6, .inl (fun _ => 0)))] H := hP
      have hD : va_D (fun q : Nat => s.heap.size ≤ q) [(q_35, .inr (9, [.int 0, .ref m_37, .int 0, .int 0, .int 0, .ref m_38, .ref m_39, .ref m_40, .int 0, .int 0, .int 0, .int 0, .int 0, .int 0, .long 0, .ref m_41, .ref m_42, .ref m_43, .ref m_44, .ref m_45, .ref m_46, .int 0, .ref m_47, .ref m_48, .ref m_49, .ref m_50, .ref m_51, .ref m_52, .ref m_53, .ref m_54, .ref m_55, .ref m_56, .ref m_57, .ref m_58, .ref m_59, .int 0, .int 0, .ref m_60, .ref m_61, .ref m_62, .ref m_63, .ref m_64, .ref m_65, .ref m_66, .ref m_67, .ref m_68, .ref m_69])), (m_38, .inl (k_law_71, 6, .inl f_103)), (m_39, .inl (k_fresh_72, 6, .inl (fun _ => 0))), (m_40, .inl (k_isTold_73, 6, .inl (fun _ => 0)))] := hD
      try dsimp only at hw
      subst hw
      refine W.widen (k := 106) (n := 4456) (Nat.le_of_ble_eq_true rfl) (Nat.le_of_ble_eq_true rfl) ?_
      refine lv_aload_n hx hb dL_law_246 rfl (lv_at hl 2 rfl) ?_
      have hPc := hP.sub (ws' := [(q_35, .inr (9, [.int 0, .ref m_37, .int 0, .int 0, .int 0, .ref m_38, .ref m_39, .ref m_40, .int 0, .int 0, .int 0, .int 0, .int 0, .int 0, .long 0, .ref m_41, .ref m_42, .ref m_43, .ref m_44, .ref m_45, .ref m_46, .int 0, .ref m_47, .ref m_48, .ref m_49, .ref m_50, .ref m_51, .ref m_52, .ref m_53, .ref m_54, .ref m_55, .ref m_56, .ref m_57, .ref m_58, .ref m_59, .int 0, .int 0, .ref m_60, .ref m_61, .ref m_62, .ref m_63, .ref m_64, .ref m_65, .ref m_66, .ref m_67, .ref m_68, .ref m_69])), (m_38, .inl (k_law_71, 6, .inl f_103)), (m_39, .inl (k_fresh_72, 6, .inl (fun _ => 0))), (m_40, .inl (k_isTold_73, 6, .inl (fun _ => 0)))]) [0, 1, 2, 3] rfl
      have hDc := hD.sub (ws' := [(q_35, .inr (9, [.int 0, .ref m_37, .int 0, .int 0, .int 0, .ref m_38, .ref m_39, .ref m_40, .int 0, .int 0, .int 0, .int 0, .int 0, .int 0, .long 0, .ref m_41, .ref m_42, .ref m_43, .ref m_44, .ref m_45, .ref m_46, .int 0, .ref m_47, .ref m_48, .ref m_49, .ref m_50, .ref m_51, .ref m_52, .ref m_53, .ref m_54, .ref m_55, .ref m_56, .ref m_57, .ref m_58, .ref m_59, .int 0, .int 0, .ref m_60, .ref m_61, .ref m_62, .ref m_63, .ref m_64, .ref m_65, .ref m_66, .ref m_67, .ref m_68, .ref m_69])), (m_38, .inl (k_law_71, 6, .inl f_103)), (m_39, .inl (k_fresh_72, 6, .inl (fun _ => 0))), (m_40, .inl (k_isTold_73, 6, .inl (fun _ => 0)))]) [0, 1, 2, 3] (by decide) rfl
      have hKc := hK.sub (tys' := [(k_law_71, .int), (k_fresh_72, .int), (k_isTold_73, .boolean)]) [14, 15, 16] rfl
      have hFc := va_free (wc := [(q_35, .inr (9, [.int 0, .ref m_37, .int 0, .int 0, .int 0, .ref m_38, .ref m_39, .ref m_40, .int 0, .int 0, .int 0, .int 0, .int 0, .int 0, .long 0, .ref m_41, .ref m_42, .ref m_43, .ref m_44, .ref m_45, .ref m_46, .int 0, .ref m_47, .ref m_48, .ref m_49, .ref m_50, .ref m_51, .ref m_52, .ref m_53, .ref m_54, .ref m_55, .ref m_56, .ref m_57, .ref m_58, .ref m_59, .int 0, .int 0, .ref m_60, .ref m_61, .ref m_62, .ref m_63, .ref m_64, .ref m_65, .ref m_66, .ref m_67, .ref m_68, .ref m_69])), (m_38, .inl (k_law_71, 6, .inl f_103)), (m_39, .inl (k_fresh_72, 6, .inl (fun _ => 0))), (m_40, .inl (k_isTold_73, 6, .inl (fun _ => 0)))]) hD hS hA [0, 1, 2, 3] rfl
      refine va_calli (va_runV (As := []) (rest := [.int 0]) ⟨hx, hb, hml, hown, hts⟩ (c_X9_statutes l dC dI q_35 m_37 m_38 m_39 m_40 m_41 m_42 m_43 m_44 m_45 m_46 m_47 m_48 m_49 m_50 m_51 m_52 m_53 m_54 m_55 m_56 m_57 m_58 m_59 m_60 m_61 m_62 m_63 m_64 m_65 m_66 m_67 m_68 m_69 k_law_71 k_fresh_72 k_isTold_73 f_103 H.size) (cwV 0 hts gL_law_X9_statutes rfl rfl rfl (by decide +kernel) ⟨Nat.le_of_ble_eq_true rfl, Nat.le_of_ble_eq_true rfl⟩) ⟨c_blind, va_recv hKc hPc (ci := 9) (q0 := 0) rfl rfl, c_pre hPc hKc hDc hN⟩ rfl rfl hl.1 rfl (lv_room (Nat.le_of_ble_eq_true rfl)) dL_law_247 ⟨Nat.le_of_ble_eq_true rfl, Nat.le_of_ble_eq_true rfl⟩) hS (fun q _ h => hFc q h) hFc (fun r_146 u9 t9 H1 locs ht hvm hw hB hz1 hk1 hS => ?_)
      obtain ⟨hP1, hK1, hD1⟩ := hB
      rw [ht] at hP1
      have hK1 := va_K.moved hvm.symm hK1
      obtain ⟨hP, hD⟩ := va_join (wr := []) (w1 := []) hP hD [0, 1, 2, 3] [] rfl rfl (by decide) (by decide) hk1 hFc hP1 hD1
      have hK := (hK.sub (tys' := [(j_13, .int), (g_19, .array .int), (g_20, .array .int), (ky_21, .int), (kt_22, .int), (kz_23, .boolean), (kr_24, .int), (j_27, .int), (j_28, .object "YamRiders$Horse"), (j_29, .object "YamRiders$Tablet"), (j_30, .object "YamRiders$Rider"), (j_31, .object "YamRiders$Rider"), (j_33, .int), (k_tape_70, .byte), (k_law_71, .int), (k_fresh_72, .int), (k_isTold_73, .boolean), (k_hours_74, .int), (k_snow_75, .int), (k_least_76, .int), (k_fodder_77, .int), (k_strength_78, .int), (k_stands_79, .int), (k_rank_80, .int), (k_voidSince_81, .int), (k_newsSince_82, .int), (k_ways_83, .int), (k_wayMany_84, .int), (k_tabletOf_85, .int), (k_state_86, .int), (k_come_87, .int), (k_cameIn_88, .int), (k_horseOf_89, .int), (k_due_90, .int), (k_time_91, .int), (k_brings_92, .int), (k_loose_93, .boolean), (k_asked_94, .boolean), (k_led_95, .int), (k_cost_96, .int), (k_left_97, .int), (k_wants_98, .int), (k_toGiver_99, .int), (k_toTaker_100, .int), (k_giverBy_101, .int), (k_takerBy_102, .int), (k_105, .long)]) [0, 1, 2, 3, 4, 5, 6, 7, 8, 9, 10, 11, 12, 13, 14, 15, 16, 17, 18, 19, 20, 21, 22, 23, 24, 25, 26, 27, 28, 29, 30, 31, 32, 33, 34, 35, 36, 37, 38, 39, 40, 41, 42, 43, 44, 45, 46] rfl).app hK1
      generalize H1 = H at hP hS ⊢
      have hK : va_K (dC, dI) vwCl [(j_13, .int), (g_19, .array .int), (g_20, .array .int), (ky_21, .int), (kt_22, .int), (kz_23, .boolean), (kr_24, .int), (j_27, .int), (j_28, .object "YamRiders$Horse"), (j_29, .object "YamRiders$Tablet"), (j_30, .object "YamRiders$Rider"), (j_31, .object "YamRiders$Rider"), (j_33, .int), (k_tape_70, .byte), (k_law_71, .int), (k_fresh_72, .int), (k_isTold_73, .boolean), (k_hours_74, .int), (k_snow_75, .int), (k_least_76, .int), (k_fodder_77, .int), (k_strength_78, .int), (k_stands_79, .int), (k_rank_80, .int), (k_voidSince_81, .int), (k_newsSince_82, .int), (k_ways_83, .int), (k_wayMany_84, .int), (k_tabletOf_85, .int), (k_state_86, .int), (k_come_87, .int), (k_cameIn_88, .int), (k_horseOf_89, .int), (k_due_90, .int), (k_time_91, .int), (k_brings_92, .int), (k_loose_93, .boolean), (k_asked_94, .boolean), (k_led_95, .int), (k_cost_96, .int), (k_left_97, .int), (k_wants_98, .int), (k_toGiver_99, .int), (k_toTaker_100, .int), (k_giverBy_101, .int), (k_takerBy_102, .int), (k_105, .long)] s := hK
      have hP : va_P (dC, dI) vwCl [] H := hP
      have hD : va_D (fun q : Nat => s.heap.size ≤ q) [] := hD
      try dsimp only at hw
      subst hw
      refine W.widen (k := 106) (n := 4456) (Nat.le_of_ble_eq_true rfl) (Nat.le_of_ble_eq_true rfl) ?_
      refine lv_icmp_eq (tgt := 948) hx hb dL_law_250 (by decide) (fun _ => ?_) (fun c_147 => by first | exact absurd c_147 (by decide) | exact absurd (by decide) c_147)
      refine lv_iinc (v := 6) (lv' := [(4, .int 6), (3, .ref q_104), (2, .ref q_35), (1, .ref q_1), (0, .ref b)]) hx hb dL_law_948 hl (k := 0) rfl (by decide) (by decide) rfl (fun ls hl => ?_)
      refine lv_goto (tgt := 23) hx hb dL_law_951 (by decide) ?_
      refine lv_iload hx hb dL_law_23 (lv_at hl 0 rfl) ?_
      refine lv_aload_n hx hb dL_law_25 rfl (lv_at hl 4 rfl) ?_
      refine va_slen hx hb hX hbl hbA hS dL_law_26 ?_
      refine lv_bipush (v := 6) hx hb dL_law_27 (by decide) ?_
      refine lv_isub hx hb dL_law_29 ?_
      refine lv_topi (fun y_148 ey_148 => ?_)
      obtain rfl : y_148 = 0 := ey_148.trans (by decide)
      refine lv_icmp_gt (tgt := 954) hx hb dL_law_30 (by decide) (fun _ => ?_) (fun c_149 => by first | exact absurd c_149 (by decide) | exact absurd (by decide) c_149)
      refine lv_iconst (v := 1) hx hb dL_law_954 (by decide) ?_
      refine va_forget (fun q hq => hS.2.2 q hq) ?_
      refine W.widen (k := 600002) (n := 7302232) (Nat.le_of_ble_eq_true rfl) (Nat.le_of_ble_eq_true rfl) ?_
      exact lw_ret hx hb hr hlocks dL_law_955
    by_cases c_150 : (xs 0) &&& 31 = 3
    · refine lv_tableIn (tgt := 255) (off := 215) hx hb dL_law_40 (by rw [c_150]; decide) (by rw [c_150]; decide) (by rw [c_150]; decide) (by decide) ?_
      have hP := hP.sub (ws' := [(q_1, .inr (8, [.ref a_3, .ref a_4, .ref a_5, .ref a_6, .ref a_7, .ref a_8, .ref a_9, .ref a_10, .ref a_11, .int 0, .int 0, .int 0, .int 0, .int 0, .int 0])), (q_35, .inr (9, [.int 0, .ref m_37, .int 0, .int 0, .int 0, .ref m_38, .ref m_39, .ref m_40, .int 0, .int 0, .int 0, .int 0, .int 0, .int 0, .long 0, .ref m_41, .ref m_42, .ref m_43, .ref m_44, .ref m_45, .ref m_46, .int 0, .ref m_47, .ref m_48, .ref m_49, .ref m_50, .ref m_51, .ref m_52, .ref m_53, .ref m_54, .ref m_55, .ref m_56, .ref m_57, .ref m_58, .ref m_59, .int 0, .int 0, .ref m_60, .ref m_61, .ref m_62, .ref m_63, .ref m_64, .ref m_65, .ref m_66, .ref m_67, .ref m_68, .ref m_69]))]) [0, 40] rfl
      have hD := hD.sub (ws' := [(q_1, .inr (8, [.ref a_3, .ref a_4, .ref a_5, .ref a_6, .ref a_7, .ref a_8, .ref a_9, .ref a_10, .ref a_11, .int 0, .int 0, .int 0, .int 0, .int 0, .int 0])), (q_35, .inr (9, [.int 0, .ref m_37, .int 0, .int 0, .int 0, .ref m_38, .ref m_39, .ref m_40, .int 0, .int 0, .int 0, .int 0, .int 0, .int 0, .long 0, .ref m_41, .ref m_42, .ref m_43, .ref m_44, .ref m_45, .ref m_46, .int 0, .ref m_47, .ref m_48, .ref m_49, .ref m_50, .ref m_51, .ref m_52, .ref m_53, .ref m_54, .ref m_55, .ref m_56, .ref m_57, .ref m_58, .ref m_59, .int 0, .int 0, .ref m_60, .ref m_61, .ref m_62, .ref m_63, .ref m_64, .ref m_65, .ref m_66, .ref m_67, .ref m_68, .ref m_69]))]) [0, 40] (by decide) rfl
      refine lv_aload_n hx hb dL_law_255 rfl (lv_at hl 3 rfl) ?_
      have hPc := hP.sub (ws' := [(q_1, .inr (8, [.ref a_3, .ref a_4, .ref a_5, .ref a_6, .ref a_7, .ref a_8, .ref a_9, .ref a_10, .ref a_11, .int 0, .int 0, .int 0, .int 0, .int 0, .int 0]))]) [0] rfl
      have hDc := hD.sub (ws' := [(q_1, .inr (8, [.ref a_3, .ref a_4, .ref a_5, .ref a_6, .ref a_7, .ref a_8, .ref a_9, .ref a_10, .ref a_11, .int 0, .int 0, .int 0, .int 0, .int 0, .int 0]))]) [0] (by decide) rfl
      have hKc := hK.sub (tys' := []) [] rfl
      refine cs_i (va_runV (As := []) (rest := []) ⟨hx, hb, hml, hown, hts⟩ (c_X8_fault l dC dI q_1 a_3 a_4 a_5 a_6 a_7 a_8 a_9 a_10 a_11 H.size) (cwV 0 hts gL_law_X8_fault rfl rfl rfl (by decide +kernel) ⟨Nat.le_of_ble_eq_true rfl, Nat.le_of_ble_eq_true rfl⟩) ⟨c_blind, va_recv hKc hPc (ci := 8) (q0 := 0) rfl rfl, c_pre hPc hKc hDc hN⟩ rfl rfl hl.1 rfl (lv_room (Nat.le_of_ble_eq_true rfl)) dL_law_256 ⟨Nat.le_of_ble_eq_true rfl, Nat.le_of_ble_eq_true rfl⟩) (fun r_151 hr_151 => ?_)
      subst hr_151
      refine lv_aload_n hx hb dL_law_259 rfl (lv_at hl 2 rfl) ?_
      have hPc := hP.sub (ws' := [(q_35, .inr (9, [.int 0, .ref m_37, .int 0, .int 0, .int 0, .ref m_38, .ref m_39, .ref m_40, .int 0, .int 0, .int 0, .int 0, .int 0, .int 0, .long 0, .ref m_41, .ref m_42, .ref m_43, .ref m_44, .ref m_45, .ref m_46, .int 0, .ref m_47, .ref m_48, .ref m_49, .ref m_50, .ref m_51, .ref m_52, .ref m_53, .ref m_54, .ref m_55, .ref m_56, .ref m_57, .ref m_58, .ref m_59, .int 0, .int 0, .ref m_60, .ref m_61, .ref m_62, .ref m_63, .ref m_64, .ref m_65, .ref m_66, .ref m_67, .ref m_68, .ref m_69]))]) [1] rfl
      have hDc := hD.sub (ws' := [(q_35, .inr (9, [.int 0, .ref m_37, .int 0, .int 0, .int 0, .ref m_38, .ref m_39, .ref m_40, .int 0, .int 0, .int 0, .int 0, .int 0, .int 0, .long 0, .ref m_41, .ref m_42, .ref m_43, .ref m_44, .ref m_45, .ref m_46, .int 0, .ref m_47, .ref m_48, .ref m_49, .ref m_50, .ref m_51, .ref m_52, .ref m_53, .ref m_54, .ref m_55, .ref m_56, .ref m_57, .ref m_58, .ref m_59, .int 0, .int 0, .ref m_60, .ref m_61, .ref m_62, .ref m_63, .ref m_64, .ref m_65, .ref m_66, .ref m_67, .ref m_68, .ref m_69]))]) [1] (by decide) rfl
      have hKc := hK.sub (tys' := []) [] rfl
      have hFc := va_free (wc := [(q_35, .inr (9, [.int 0, .ref m_37, .int 0, .int 0, .int 0, .ref m_38, .ref m_39, .ref m_40, .int 0, .int 0, .int 0, .int 0, .int 0, .int 0, .long 0, .ref m_41, .ref m_42, .ref m_43, .ref m_44, .ref m_45, .ref m_46, .int 0, .ref m_47, .ref m_48, .ref m_49, .ref m_50, .ref m_51, .ref m_52, .ref m_53, .ref m_54, .ref m_55, .ref m_56, .ref m_57, .ref m_58, .ref m_59, .int 0, .int 0, .ref m_60, .ref m_61, .ref m_62, .ref m_63, .ref m_64, .ref m_65, .ref m_66, .ref m_67, .ref m_68, .ref m_69]))]) hD hS hA [1] rfl
      refine va_calli (va_runV (As := []) (rest := [.int 0]) ⟨hx, hb, hml, hown, hts⟩ (c_X9_fault l dC dI q_35 m_37 m_38 m_39 m_40 m_41 m_42 m_43 m_44 m_45 m_46 m_47 m_48 m_49 m_50 m_51 m_52 m_53 m_54 m_55 m_56 m_57 m_58 m_59 m_60 m_61 m_62 m_63 m_64 m_65 m_66 m_67 m_68 m_69 H.size) (cwV 0 hts gL_law_X9_fault rfl rfl rfl (by decide +kernel) ⟨Nat.le_of_ble_eq_true rfl, Nat.le_of_ble_eq_true rfl⟩) ⟨c_blind, va_recv hKc hPc (ci := 9) (q0 := 0) rfl rfl, c_pre hPc hKc hDc hN⟩ rfl rfl hl.1 rfl (lv_room (Nat.le_of_ble_eq_true rfl)) dL_law_260 ⟨Nat.le_of_ble_eq_true rfl, Nat.le_of_ble_eq_true rfl⟩) hS (fun q _ h => hFc q h) hFc (fun r_152 u9 t9 H1 locs ht hvm hw hB hz1 hk1 hS => ?_)
      obtain ⟨hP1, hK1, hD1⟩ := hB
      rw [ht] at hP1
      have hK1 := va_K.moved hvm.symm hK1
      obtain ⟨hP, hD⟩ := va_join (wr := [(q_1, .inr (8, [.ref a_3, .ref a_4, .ref a_5, .ref a_6, .ref a_7, .ref a_8, .ref a_9, .ref a_10, .ref a_11, .int 0, .int 0, .int 0, .int 0, .int 0, .int 0]))]) (w1 := []) hP hD [1] [0] rfl rfl (by decide) (by decide) hk1 hFc hP1 hD1
      have hK := (hK.sub (tys' := [(j_13, .int), (g_19, .array .int), (g_20, .array .int), (ky_21, .int), (kt_22, .int), (kz_23, .boolean), (kr_24, .int), (j_27, .int), (j_28, .object "YamRiders$Horse"), (j_29, .object "YamRiders$Tablet"), (j_30, .object "YamRiders$Rider"), (j_31, .object "YamRiders$Rider"), (j_33, .int), (k_tape_70, .byte), (k_law_71, .int), (k_fresh_72, .int), (k_isTold_73, .boolean), (k_hours_74, .int), (k_snow_75, .int), (k_least_76, .int), (k_fodder_77, .int), (k_strength_78, .int), (k_stands_79, .int), (k_rank_80, .int), (k_voidSince_81, .int), (k_newsSince_82, .int), (k_ways_83, .int), (k_wayMany_84, .int), (k_tabletOf_85, .int), (k_state_86, .int), (k_come_87, .int), (k_cameIn_88, .int), (k_horseOf_89, .int), (k_due_90, .int), (k_time_91, .int), (k_brings_92, .int), (k_loose_93, .boolean), (k_asked_94, .boolean), (k_led_95, .int), (k_cost_96, .int), (k_left_97, .int), (k_wants_98, .int), (k_toGiver_99, .int), (k_toTaker_100, .int), (k_giverBy_101, .int), (k_takerBy_102, .int), (k_105, .long)]) [0, 1, 2, 3, 4, 5, 6, 7, 8, 9, 10, 11, 12, 13, 14, 15, 16, 17, 18, 19, 20, 21, 22, 23, 24, 25, 26, 27, 28, 29, 30, 31, 32, 33, 34, 35, 36, 37, 38, 39, 40, 41, 42, 43, 44, 45, 46] rfl).app hK1
      generalize H1 = H at hP hS ⊢
      have hK : va_K (dC, dI) vwCl [(j_13, .int), (g_19, .array .int), (g_20, .array .int), (ky_21, .int), (kt_22, .int), (kz_23, .boolean), (kr_24, .int), (j_27, .int), (j_28, .object "YamRiders$Horse"), (j_29, .object "YamRiders$Tablet"), (j_30, .object "YamRiders$Rider"), (j_31, .object "YamRiders$Rider"), (j_33, .int), (k_tape_70, .byte), (k_law_71, .int), (k_fresh_72, .int), (k_isTold_73, .boolean), (k_hours_74, .int), (k_snow_75, .int), (k_least_76, .int), (k_fodder_77, .int), (k_strength_78, .int), (k_stands_79, .int), (k_rank_80, .int), (k_voidSince_81, .int), (k_newsSince_82, .int), (k_ways_83, .int), (k_wayMany_84, .int), (k_tabletOf_85, .int), (k_state_86, .int), (k_come_87, .int), (k_cameIn_88, .int), (k_horseOf_89, .int), (k_due_90, .int), (k_time_91, .int), (k_brings_92, .int), (k_loose_93, .boolean), (k_asked_94, .boolean), (k_led_95, .int), (k_cost_96, .int), (k_left_97, .int), (k_wants_98, .int), (k_toGiver_99, .int), (k_toTaker_100, .int), (k_giverBy_101, .int), (k_takerBy_102, .int), (k_105, .long)] s := hK
      have hP : va_P (dC, dI) vwCl [(q_1, .inr (8, [.ref a_3, .ref a_4, .ref a_5, .ref a_6, .ref a_7, .ref a_8, .ref a_9, .ref a_10, .ref a_11, .int 0, .int 0, .int 0, .int 0, .int 0, .int 0]))] H := hP
      have hD : va_D (fun q : Nat => s.heap.size ≤ q) [(q_1, .inr (8, [.ref a_3, .ref a_4, .ref a_5, .ref a_6, .ref a_7, .ref a_8, .ref a_9, .ref a_10, .ref a_11, .int 0, .int 0, .int 0, .int 0, .int 0, .int 0]))] := hD
      try dsimp only at hw
      subst hw
      refine W.widen (k := 102) (n := 4433) (Nat.le_of_ble_eq_true rfl) (Nat.le_of_ble_eq_true rfl) ?_
      refine lv_icmp_eq (tgt := 948) hx hb dL_law_263 (by decide) (fun _ => ?_) (fun c_153 => by first | exact absurd c_153 (by decide) | exact absurd (by decide) c_153)
      refine lv_iinc (v := 6) (lv' := [(4, .int 6), (3, .ref q_104), (2, .ref q_35), (1, .ref q_1), (0, .ref b)]) hx hb dL_law_948 hl (k := 0) rfl (by decide) (by decide) rfl (fun ls hl => ?_)
      refine lv_goto (tgt := 23) hx hb dL_law_951 (by decide) ?_
      refine lv_iload hx hb dL_law_23 (lv_at hl 0 rfl) ?_
      refine lv_aload_n hx hb dL_law_25 rfl (lv_at hl 4 rfl) ?_
      refine va_slen hx hb hX hbl hbA hS dL_law_26 ?_
      refine lv_bipush (v := 6) hx hb dL_law_27 (by decide) ?_
      refine lv_isub hx hb dL_law_29 ?_
      refine lv_topi (fun y_154 ey_154 => ?_)
      obtain rfl : y_154 = 0 := ey_154.trans (by decide)
      refine lv_icmp_gt (tgt := 954) hx hb dL_law_30 (by decide) (fun _ => ?_) (fun c_155 => by first | exact absurd c_155 (by decide) | exact absurd (by decide) c_155)
      refine lv_iconst (v := 1) hx hb dL_law_954 (by decide) ?_
      refine va_forget (fun q hq => hS.2.2 q hq) ?_
      refine W.widen (k := 600002) (n := 7302232) (Nat.le_of_ble_eq_true rfl) (Nat.le_of_ble_eq_true rfl) ?_
      exact lw_ret hx hb hr hlocks dL_law_955
    by_cases c_156 : (xs 0) &&& 31 = 4
    · refine lv_tableIn (tgt := 268) (off := 228) hx hb dL_law_40 (by rw [c_156]; decide) (by rw [c_156]; decide) (by rw [c_156]; decide) (by decide) ?_
      obtain ⟨i1, j1, hi, hj, hij, hje⟩ := st_ex2 (xs 1) (xs 2)
      have hP : va_P (dC, dI) vwCl [(q_1, .inr (8, [.ref a_3, .ref a_4, .ref a_5, .ref a_6, .ref a_7, .ref a_8, .ref a_9, .ref a_10, .ref a_11, .int 0, .int 0, .int 0, .int 0, .int 0, .int 0])), (a_4, .inr (3, [.ref b_14, .ref b_15, .ref b_16, .ref b_17, .ref b_18])), (b_14, .inl (g_19, 12, .inr (.inr (.inr (.inr (fun i => if i < 12 then some (r_25 i) else none)))))), (b_15, .inl (g_20, 12, .inr (.inr (.inr (.inr (fun i => if i < 12 then some (r_26 i) else none)))))), (q_35, .inr (9, [.int 0, .ref m_37, .int 0, .int 0, .int 0, .ref m_38, .ref m_39, .ref m_40, .int 0, .int 0, .int 0, .int 0, .int 0, .int 0, .long 0, .ref m_41, .ref m_42, .ref m_43, .ref m_44, .ref m_45, .ref m_46, .int 0, .ref m_47, .ref m_48, .ref m_49, .ref m_50, .ref m_51, .ref m_52, .ref m_53, .ref m_54, .ref m_55, .ref m_56, .ref m_57, .ref m_58, .ref m_59, .int 0, .int 0, .ref m_60, .ref m_61, .ref m_62, .ref m_63, .ref m_64, .ref m_65, .ref m_66, .ref m_67, .ref m_68, .ref m_69])), (m_41, .inl (k_hours_74, 144, .inl (fun _ => 0))), (m_42, .inl (k_snow_75, 144, .inl (fun _ => 0))), ((r_25 i1), .inl (ky_21, 12, .inl (fun _ => 0))), ((r_25 j1), .inl (ky_21, 12, .inl (fun _ => 0))), ((r_26 i1), .inl (ky_21, 12, .inl (fun _ => 0))), ((r_26 j1), .inl (ky_21, 12, .inl (fun _ => 0)))] H := by
        rcases j12 hi with rfl | rfl | rfl | rfl | rfl | rfl | rfl | rfl | rfl | rfl | rfl | rfl <;> rcases j12 hj with rfl | rfl | rfl | rfl | rfl | rfl | rfl | rfl | rfl | rfl | rfl | rfl
        · exact absurd rfl hij
        · exact hP.sub [0, 3, 4, 5, 40, 45, 46, 9, 10, 21, 22] rfl
        · exact hP.sub [0, 3, 4, 5, 40, 45, 46, 9, 11, 21, 23] rfl
        · exact hP.sub [0, 3, 4, 5, 40, 45, 46, 9, 12, 21, 24] rfl
        · exact hP.sub [0, 3, 4, 5, 40, 45, 46, 9, 13, 21, 25] rfl
        · exact hP.sub [0, 3, 4, 5, 40, 45, 46, 9, 14, 21, 26] rfl
        · exact hP.sub [0, 3, 4, 5, 40, 45, 46, 9, 15, 21, 27] rfl
        · exact hP.sub [0, 3, 4, 5, 40, 45, 46, 9, 16, 21, 28] rfl
        · exact hP.sub [0, 3, 4, 5, 40, 45, 46, 9, 17, 21, 29] rfl
        · exact hP.sub [0, 3, 4, 5, 40, 45, 46, 9, 18, 21, 30] rfl
        · exact hP.sub [0, 3, 4, 5, 40, 45, 46, 9, 19, 21, 31] rfl
        · exact hP.sub [0, 3, 4, 5, 40, 45, 46, 9, 20, 21, 32] rfl
        · exact hP.sub [0, 3, 4, 5, 40, 45, 46, 10, 9, 22, 21] rfl
        · exact absurd rfl hij
        · exact hP.sub [0, 3, 4, 5, 40, 45, 46, 10, 11, 22, 23] rfl
        · exact hP.sub [0, 3, 4, 5, 40, 45, 46, 10, 12, 22, 24] rfl
        · exact hP.sub [0, 3, 4, 5, 40, 45, 46, 10, 13, 22, 25] rfl
        · exact hP.sub [0, 3, 4, 5, 40, 45, 46, 10, 14, 22, 26] rfl
        · exact hP.sub [0, 3, 4, 5, 40, 45, 46, 10, 15, 22, 27] rfl
        · exact hP.sub [0, 3, 4, 5, 40, 45, 46, 10, 16, 22, 28] rfl
        · exact hP.sub [0, 3, 4, 5, 40, 45, 46, 10, 17, 22, 29] rfl
        · exact hP.sub [0, 3, 4, 5, 40, 45, 46, 10, 18, 22, 30] rfl
        · exact hP.sub [0, 3, 4, 5, 40, 45, 46, 10, 19, 22, 31] rfl
        · exact hP.sub [0, 3, 4, 5, 40, 45, 46, 10, 20, 22, 32] rfl
        · exact hP.sub [0, 3, 4, 5, 40, 45, 46, 11, 9, 23, 21] rfl
        · exact hP.sub [0, 3, 4, 5, 40, 45, 46, 11, 10, 23, 22] rfl
        · exact absurd rfl hij
        · exact hP.sub [0, 3, 4, 5, 40, 45, 46, 11, 12, 23, 24] rfl
        · exact hP.sub [0, 3, 4, 5, 40, 45, 46, 11, 13, 23, 25] rfl
        · exact hP.sub [0, 3, 4, 5, 40, 45, 46, 11, 14, 23, 26] rfl
        · exact hP.sub [0, 3, 4, 5, 40, 45, 46, 11, 15, 23, 27] rfl
        · exact hP.sub [0, 3, 4, 5, 40, 45, 46, 11, 16, 23, 28] rfl
        · exact hP.sub [0, 3, 4, 5, 40, 45, 46, 11, 17, 23, 29] rfl
        · exact hP.sub [0, 3, 4, 5, 40, 45, 46, 11, 18, 23, 30] rfl
        · exact hP.sub [0, 3, 4, 5, 40, 45, 46, 11, 19, 23, 31] rfl
        · exact hP.sub [0, 3, 4, 5, 40, 45, 46, 11, 20, 23, 32] rfl
        · exact hP.sub [0, 3, 4, 5, 40, 45, 46, 12, 9, 24, 21] rfl
        · exact hP.sub [0, 3, 4, 5, 40, 45, 46, 12, 10, 24, 22] rfl
        · exact hP.sub [0, 3, 4, 5, 40, 45, 46, 12, 11, 24, 23] rfl
        · exact absurd rfl hij
        · exact hP.sub [0, 3, 4, 5, 40, 45, 46, 12, 13, 24, 25] rfl
        · exact hP.sub [0, 3, 4, 5, 40, 45, 46, 12, 14, 24, 26] rfl
        · exact hP.sub [0, 3, 4, 5, 40, 45, 46, 12, 15, 24, 27] rfl
        · exact hP.sub [0, 3, 4, 5, 40, 45, 46, 12, 16, 24, 28] rfl
        · exact hP.sub [0, 3, 4, 5, 40, 45, 46, 12, 17, 24, 29] rfl
        · exact hP.sub [0, 3, 4, 5, 40, 45, 46, 12, 18, 24, 30] rfl
        · exact hP.sub [0, 3, 4, 5, 40, 45, 46, 12, 19, 24, 31] rfl
        · exact hP.sub [0, 3, 4, 5, 40, 45, 46, 12, 20, 24, 32] rfl
        · exact hP.sub [0, 3, 4, 5, 40, 45, 46, 13, 9, 25, 21] rfl
        · exact hP.sub [0, 3, 4, 5, 40, 45, 46, 13, 10, 25, 22] rfl
        · exact hP.sub [0, 3, 4, 5, 40, 45, 46, 13, 11, 25, 23] rfl
        · exact hP.sub [0, 3, 4, 5, 40, 45, 46, 13, 12, 25, 24] rfl
        · exact absurd rfl hij
        · exact hP.sub [0, 3, 4, 5, 40, 45, 46, 13, 14, 25, 26] rfl
        · exact hP.sub [0, 3, 4, 5, 40, 45, 46, 13, 15, 25, 27] rfl
        · exact hP.sub [0, 3, 4, 5, 40, 45, 46, 13, 16, 25, 28] rfl
        · exact hP.sub [0, 3, 4, 5, 40, 45, 46, 13, 17, 25, 29] rfl
        · exact hP.sub [0, 3, 4, 5, 40, 45, 46, 13, 18, 25, 30] rfl
        · exact hP.sub [0, 3, 4, 5, 40, 45, 46, 13, 19, 25, 31] rfl
        · exact hP.sub [0, 3, 4, 5, 40, 45, 46, 13, 20, 25, 32] rfl
        · exact hP.sub [0, 3, 4, 5, 40, 45, 46, 14, 9, 26, 21] rfl
        · exact hP.sub [0, 3, 4, 5, 40, 45, 46, 14, 10, 26, 22] rfl
        · exact hP.sub [0, 3, 4, 5, 40, 45, 46, 14, 11, 26, 23] rfl
        · exact hP.sub [0, 3, 4, 5, 40, 45, 46, 14, 12, 26, 24] rfl
        · exact hP.sub [0, 3, 4, 5, 40, 45, 46, 14, 13, 26, 25] rfl
        · exact absurd rfl hij
        · exact hP.sub [0, 3, 4, 5, 40, 45, 46, 14, 15, 26, 27] rfl
        · exact hP.sub [0, 3, 4, 5, 40, 45, 46, 14, 16, 26, 28] rfl
        · exact hP.sub [0, 3, 4, 5, 40, 45, 46, 14, 17, 26, 29] rfl
        · exact hP.sub [0, 3, 4, 5, 40, 45, 46, 14, 18, 26, 30] rfl
        · exact hP.sub [0, 3, 4, 5, 40, 45, 46, 14, 19, 26, 31] rfl
        · exact hP.sub [0, 3, 4, 5, 40, 45, 46, 14, 20, 26, 32] rfl
        · exact hP.sub [0, 3, 4, 5, 40, 45, 46, 15, 9, 27, 21] rfl
        · exact hP.sub [0, 3, 4, 5, 40, 45, 46, 15, 10, 27, 22] rfl
        · exact hP.sub [0, 3, 4, 5, 40, 45, 46, 15, 11, 27, 23] rfl
        · exact hP.sub [0, 3, 4, 5, 40, 45, 46, 15, 12, 27, 24] rfl
        · exact hP.sub [0, 3, 4, 5, 40, 45, 46, 15, 13, 27, 25] rfl
        · exact hP.sub [0, 3, 4, 5, 40, 45, 46, 15, 14, 27, 26] rfl
        · exact absurd rfl hij
        · exact hP.sub [0, 3, 4, 5, 40, 45, 46, 15, 16, 27, 28] rfl
        · exact hP.sub [0, 3, 4, 5, 40, 45, 46, 15, 17, 27, 29] rfl
        · exact hP.sub [0, 3, 4, 5, 40, 45, 46, 15, 18, 27, 30] rfl
        · exact hP.sub [0, 3, 4, 5, 40, 45, 46, 15, 19, 27, 31] rfl
        · exact hP.sub [0, 3, 4, 5, 40, 45, 46, 15, 20, 27, 32] rfl
        · exact hP.sub [0, 3, 4, 5, 40, 45, 46, 16, 9, 28, 21] rfl
        · exact hP.sub [0, 3, 4, 5, 40, 45, 46, 16, 10, 28, 22] rfl
        · exact hP.sub [0, 3, 4, 5, 40, 45, 46, 16, 11, 28, 23] rfl
        · exact hP.sub [0, 3, 4, 5, 40, 45, 46, 16, 12, 28, 24] rfl
        · exact hP.sub [0, 3, 4, 5, 40, 45, 46, 16, 13, 28, 25] rfl
        · exact hP.sub [0, 3, 4, 5, 40, 45, 46, 16, 14, 28, 26] rfl
        · exact hP.sub [0, 3, 4, 5, 40, 45, 46, 16, 15, 28, 27] rfl
        · exact absurd rfl hij
        · exact hP.sub [0, 3, 4, 5, 40, 45, 46, 16, 17, 28, 29] rfl
        · exact hP.sub [0, 3, 4, 5, 40, 45, 46, 16, 18, 28, 30] rfl
        · exact hP.sub [0, 3, 4, 5, 40, 45, 46, 16, 19, 28, 31] rfl
        · exact hP.sub [0, 3, 4, 5, 40, 45, 46, 16, 20, 28, 32] rfl
        · exact hP.sub [0, 3, 4, 5, 40, 45, 46, 17, 9, 29, 21] rfl
        · exact hP.sub [0, 3, 4, 5, 40, 45, 46, 17, 10, 29, 22] rfl
        · exact hP.sub [0, 3, 4, 5, 40, 45, 46, 17, 11, 29, 23] rfl
        · exact hP.sub [0, 3, 4, 5, 40, 45, 46, 17, 12, 29, 24] rfl
        · exact hP.sub [0, 3, 4, 5, 40, 45, 46, 17, 13, 29, 25] rfl
        · exact hP.sub [0, 3, 4, 5, 40, 45, 46, 17, 14, 29, 26] rfl
        · exact hP.sub [0, 3, 4, 5, 40, 45, 46, 17, 15, 29, 27] rfl
        · exact hP.sub [0, 3, 4, 5, 40, 45, 46, 17, 16, 29, 28] rfl
        · exact absurd rfl hij
        · exact hP.sub [0, 3, 4, 5, 40, 45, 46, 17, 18, 29, 30] rfl
        · exact hP.sub [0, 3, 4, 5, 40, 45, 46, 17, 19, 29, 31] rfl
        · exact hP.sub [0, 3, 4, 5, 40, 45, 46, 17, 20, 29, 32] rfl
        · exact hP.sub [0, 3, 4, 5, 40, 45, 46, 18, 9, 30, 21] rfl
        · exact hP.sub [0, 3, 4, 5, 40, 45, 46, 18, 10, 30, 22] rfl
        · exact hP.sub [0, 3, 4, 5, 40, 45, 46, 18, 11, 30, 23] rfl
        · exact hP.sub [0, 3, 4, 5, 40, 45, 46, 18, 12, 30, 24] rfl
        · exact hP.sub [0, 3, 4, 5, 40, 45, 46, 18, 13, 30, 25] rfl
        · exact hP.sub [0, 3, 4, 5, 40, 45, 46, 18, 14, 30, 26] rfl
        · exact hP.sub [0, 3, 4, 5, 40, 45, 46, 18, 15, 30, 27] rfl
        · exact hP.sub [0, 3, 4, 5, 40, 45, 46, 18, 16, 30, 28] rfl
        · exact hP.sub [0, 3, 4, 5, 40, 45, 46, 18, 17, 30, 29] rfl
        · exact absurd rfl hij
        · exact hP.sub [0, 3, 4, 5, 40, 45, 46, 18, 19, 30, 31] rfl
        · exact hP.sub [0, 3, 4, 5, 40, 45, 46, 18, 20, 30, 32] rfl
        · exact hP.sub [0, 3, 4, 5, 40, 45, 46, 19, 9, 31, 21] rfl
        · exact hP.sub [0, 3, 4, 5, 40, 45, 46, 19, 10, 31, 22] rfl
        · exact hP.sub [0, 3, 4, 5, 40, 45, 46, 19, 11, 31, 23] rfl
        · exact hP.sub [0, 3, 4, 5, 40, 45, 46, 19, 12, 31, 24] rfl
        · exact hP.sub [0, 3, 4, 5, 40, 45, 46, 19, 13, 31, 25] rfl
        · exact hP.sub [0, 3, 4, 5, 40, 45, 46, 19, 14, 31, 26] rfl
        · exact hP.sub [0, 3, 4, 5, 40, 45, 46, 19, 15, 31, 27] rfl
        · exact hP.sub [0, 3, 4, 5, 40, 45, 46, 19, 16, 31, 28] rfl
        · exact hP.sub [0, 3, 4, 5, 40, 45, 46, 19, 17, 31, 29] rfl
        · exact hP.sub [0, 3, 4, 5, 40, 45, 46, 19, 18, 31, 30] rfl
        · exact absurd rfl hij
        · exact hP.sub [0, 3, 4, 5, 40, 45, 46, 19, 20, 31, 32] rfl
        · exact hP.sub [0, 3, 4, 5, 40, 45, 46, 20, 9, 32, 21] rfl
        · exact hP.sub [0, 3, 4, 5, 40, 45, 46, 20, 10, 32, 22] rfl
        · exact hP.sub [0, 3, 4, 5, 40, 45, 46, 20, 11, 32, 23] rfl
        · exact hP.sub [0, 3, 4, 5, 40, 45, 46, 20, 12, 32, 24] rfl
        · exact hP.sub [0, 3, 4, 5, 40, 45, 46, 20, 13, 32, 25] rfl
        · exact hP.sub [0, 3, 4, 5, 40, 45, 46, 20, 14, 32, 26] rfl
        · exact hP.sub [0, 3, 4, 5, 40, 45, 46, 20, 15, 32, 27] rfl
        · exact hP.sub [0, 3, 4, 5, 40, 45, 46, 20, 16, 32, 28] rfl
        · exact hP.sub [0, 3, 4, 5, 40, 45, 46, 20, 17, 32, 29] rfl
        · exact hP.sub [0, 3, 4, 5, 40, 45, 46, 20, 18, 32, 30] rfl
        · exact hP.sub [0, 3, 4, 5, 40, 45, 46, 20, 19, 32, 31] rfl
        · exact absurd rfl hij
      have hD : va_D (fun q : Nat => s.heap.size ≤ q) [(q_1, .inr (8, [.ref a_3, .ref a_4, .ref a_5, .ref a_6, .ref a_7, .ref a_8, .ref a_9, .ref a_10, .ref a_11, .int 0, .int 0, .int 0, .int 0, .int 0, .int 0])), (a_4, .inr (3, [.ref b_14, .ref b_15, .ref b_16, .ref b_17, .ref b_18])), (b_14, .inl (g_19, 12, .inr (.inr (.inr (.inr (fun i => if i < 12 then some (r_25 i) else none)))))), (b_15, .inl (g_20, 12, .inr (.inr (.inr (.inr (fun i => if i < 12 then some (r_26 i) else none)))))), (q_35, .inr (9, [.int 0, .ref m_37, .int 0, .int 0, .int 0, .ref m_38, .ref m_39, .ref m_40, .int 0, .int 0, .int 0, .int 0, .int 0, .int 0, .long 0, .ref m_41, .ref m_42, .ref m_43, .ref m_44, .ref m_45, .ref m_46, .int 0, .ref m_47, .ref m_48, .ref m_49, .ref m_50, .ref m_51, .ref m_52, .ref m_53, .ref m_54, .ref m_55, .ref m_56, .ref m_57, .ref m_58, .ref m_59, .int 0, .int 0, .ref m_60, .ref m_61, .ref m_62, .ref m_63, .ref m_64, .ref m_65, .ref m_66, .ref m_67, .ref m_68, .ref m_69])), (m_41, .inl (k_hours_74, 144, .inl (fun _ => 0))), (m_42, .inl (k_snow_75, 144, .inl (fun _ => 0))), ((r_25 i1), .inl (ky_21, 12, .inl (fun _ => 0))), ((r_25 j1), .inl (ky_21, 12, .inl (fun _ => 0))), ((r_26 i1), .inl (ky_21, 12, .inl (fun _ => 0))), ((r_26 j1), .inl (ky_21, 12, .inl (fun _ => 0)))] := by
        rcases j12 hi with rfl | rfl | rfl | rfl | rfl | rfl | rfl | rfl | rfl | rfl | rfl | rfl <;> rcases j12 hj with rfl | rfl | rfl | rfl | rfl | rfl | rfl | rfl | rfl | rfl | rfl | rfl
        · exact absurd rfl hij
        · exact hD.sub [0, 3, 4, 5, 40, 45, 46, 9, 10, 21, 22] (by decide) rfl
        · exact hD.sub [0, 3, 4, 5, 40, 45, 46, 9, 11, 21, 23] (by decide) rfl
        · exact hD.sub [0, 3, 4, 5, 40, 45, 46, 9, 12, 21, 24] (by decide) rfl
        · exact hD.sub [0, 3, 4, 5, 40, 45, 46, 9, 13, 21, 25] (by decide) rfl
        · exact hD.sub [0, 3, 4, 5, 40, 45, 46, 9, 14, 21, 26] (by decide) rfl
        · exact hD.sub [0, 3, 4, 5, 40, 45, 46, 9, 15, 21, 27] (by decide) rfl
        · exact hD.sub [0, 3, 4, 5, 40, 45, 46, 9, 16, 21, 28] (by decide) rfl
        · exact hD.sub [0, 3, 4, 5, 40, 45, 46, 9, 17, 21, 29] (by decide) rfl
        · exact hD.sub [0, 3, 4, 5, 40, 45, 46, 9, 18, 21, 30] (by decide) rfl
        · exact hD.sub [0, 3, 4, 5, 40, 45, 46, 9, 19, 21, 31] (by decide) rfl
        · exact hD.sub [0, 3, 4, 5, 40, 45, 46, 9, 20, 21, 32] (by decide) rfl
        · exact hD.sub [0, 3, 4, 5, 40, 45, 46, 10, 9, 22, 21] (by decide) rfl
        · exact absurd rfl hij
        · exact hD.sub [0, 3, 4, 5, 40, 45, 46, 10, 11, 22, 23] (by decide) rfl
        · exact hD.sub [0, 3, 4, 5, 40, 45, 46, 10, 12, 22, 24] (by decide) rfl
        · exact hD.sub [0, 3, 4, 5, 40, 45, 46, 10, 13, 22, 25] (by decide) rfl
        · exact hD.sub [0, 3, 4, 5, 40, 45, 46, 10, 14, 22, 26] (by decide) rfl
        · exact hD.sub [0, 3, 4, 5, 40, 45, 46, 10, 15, 22, 27] (by decide) rfl
        · exact hD.sub [0, 3, 4, 5, 40, 45, 46, 10, 16, 22, 28] (by decide) rfl
        · exact hD.sub [0, 3, 4, 5, 40, 45, 46, 10, 17, 22, 29] (by decide) rfl
        · exact hD.sub [0, 3, 4, 5, 40, 45, 46, 10, 18, 22, 30] (by decide) rfl
        · exact hD.sub [0, 3, 4, 5, 40, 45, 46, 10, 19, 22, 31] (by decide) rfl
        · exact hD.sub [0, 3, 4, 5, 40, 45, 46, 10, 20, 22, 32] (by decide) rfl
        · exact hD.sub [0, 3, 4, 5, 40, 45, 46, 11, 9, 23, 21] (by decide) rfl
        · exact hD.sub [0, 3, 4, 5, 40, 45, 46, 11, 10, 23, 22] (by decide) rfl
        · exact absurd rfl hij
        · exact hD.sub [0, 3, 4, 5, 40, 45, 46, 11, 12, 23, 24] (by decide) rfl
        · exact hD.sub [0, 3, 4, 5, 40, 45, 46, 11, 13, 23, 25] (by decide) rfl
        · exact hD.sub [0, 3, 4, 5, 40, 45, 46, 11, 14, 23, 26] (by decide) rfl
        · exact hD.sub [0, 3, 4, 5, 40, 45, 46, 11, 15, 23, 27] (by decide) rfl
        · exact hD.sub [0, 3, 4, 5, 40, 45, 46, 11, 16, 23, 28] (by decide) rfl
        · exact hD.sub [0, 3, 4, 5, 40, 45, 46, 11, 17, 23, 29] (by decide) rfl
        · exact hD.sub [0, 3, 4, 5, 40, 45, 46, 11, 18, 23, 30] (by decide) rfl
        · exact hD.sub [0, 3, 4, 5, 40, 45, 46, 11, 19, 23, 31] (by decide) rfl
        · exact hD.sub [0, 3, 4, 5, 40, 45, 46, 11, 20, 23, 32] (by decide) rfl
        · exact hD.sub [0, 3, 4, 5, 40, 45, 46, 12, 9, 24, 21] (by decide) rfl
        · exact hD.sub [0, 3, 4, 5, 40, 45, 46, 12, 10, 24, 22] (by decide) rfl
        · exact hD.sub [0, 3, 4, 5, 40, 45, 46, 12, 11, 24, 23] (by decide) rfl
        · exact absurd rfl hij
        · exact hD.sub [0, 3, 4, 5, 40, 45, 46, 12, 13, 24, 25] (by decide) rfl
        · exact hD.sub [0, 3, 4, 5, 40, 45, 46, 12, 14, 24, 26] (by decide) rfl
        · exact hD.sub [0, 3, 4, 5, 40, 45, 46, 12, 15, 24, 27] (by decide) rfl
        · exact hD.sub [0, 3, 4, 5, 40, 45, 46, 12, 16, 24, 28] (by decide) rfl
        · exact hD.sub [0, 3, 4, 5, 40, 45, 46, 12, 17, 24, 29] (by decide) rfl
        · exact hD.sub [0, 3, 4, 5, 40, 45, 46, 12, 18, 24, 30] (by decide) rfl
        · exact hD.sub [0, 3, 4, 5, 40, 45, 46, 12, 19, 24, 31] (by decide) rfl
        · exact hD.sub [0, 3, 4, 5, 40, 45, 46, 12, 20, 24, 32] (by decide) rfl
        · exact hD.sub [0, 3, 4, 5, 40, 45, 46, 13, 9, 25, 21] (by decide) rfl
        · exact hD.sub [0, 3, 4, 5, 40, 45, 46, 13, 10, 25, 22] (by decide) rfl
        · exact hD.sub [0, 3, 4, 5, 40, 45, 46, 13, 11, 25, 23] (by decide) rfl
        · exact hD.sub [0, 3, 4, 5, 40, 45, 46, 13, 12, 25, 24] (by decide) rfl
        · exact absurd rfl hij
        · exact hD.sub [0, 3, 4, 5, 40, 45, 46, 13, 14, 25, 26] (by decide) rfl
        · exact hD.sub [0, 3, 4, 5, 40, 45, 46, 13, 15, 25, 27] (by decide) rfl
        · exact hD.sub [0, 3, 4, 5, 40, 45, 46, 13, 16, 25, 28] (by decide) rfl
        · exact hD.sub [0, 3, 4, 5, 40, 45, 46, 13, 17, 25, 29] (by decide) rfl
        · exact hD.sub [0, 3, 4, 5, 40, 45, 46, 13, 18, 25, 30] (by decide) rfl
        · exact hD.sub [0, 3, 4, 5, 40, 45, 46, 13, 19, 25, 31] (by decide) rfl
        · exact hD.sub [0, 3, 4, 5, 40, 45, 46, 13, 20, 25, 32] (by decide) rfl
        · exact hD.sub [0, 3, 4, 5, 40, 45, 46, 14, 9, 26, 21] (by decide) rfl
        · exact hD.sub [0, 3, 4, 5, 40, 45, 46, 14, 10, 26, 22] (by decide) rfl
        · exact hD.sub [0, 3, 4, 5, 40, 45, 46, 14, 11, 26, 23] (by decide) rfl
        · exact hD.sub [0, 3, 4, 5, 40, 45, 46, 14, 12, 26, 24] (by decide) rfl
        · exact hD.sub [0, 3, 4, 5, 40, 45, 46, 14, 13, 26, 25] (by decide) rfl
        · exact absurd rfl hij
        · exact hD.sub [0, 3, 4, 5, 40, 45, 46, 14, 15, 26, 27] (by decide) rfl
        · exact hD.sub [0, 3, 4, 5, 40, 45, 46, 14, 16, 26, 28] (by decide) rfl
        · exact hD.sub [0, 3, 4, 5, 40, 45, 46, 14, 17, 26, 29] (by decide) rfl
        · exact hD.sub [0, 3, 4, 5, 40, 45, 46, 14, 18, 26, 30] (by decide) rfl
        · exact hD.sub [0, 3, 4, 5, 40, 45, 46, 14, 19, 26, 31] (by decide) rfl
        · exact hD.sub [0, 3, 4, 5, 40, 45, 46, 14, 20, 26, 32] (by decide) rfl
        · exact hD.sub [0, 3, 4, 5, 40, 45, 46, 15, 9, 27, 21] (by decide) rfl
        · exact hD.sub [0, 3, 4, 5, 40, 45, 46, 15, 10, 27, 22] (by decide) rfl
        · exact hD.sub [0, 3, 4, 5, 40, 45, 46, 15, 11, 27, 23] (by decide) rfl
        · exact hD.sub [0, 3, 4, 5, 40, 45, 46, 15, 12, 27, 24] (by decide) rfl
        · exact hD.sub [0, 3, 4, 5, 40, 45, 46, 15, 13, 27, 25] (by decide) rfl
        · exact hD.sub [0, 3, 4, 5, 40, 45, 46, 15, 14, 27, 26] (by decide) rfl
        · exact absurd rfl hij
        · exact hD.sub [0, 3, 4, 5, 40, 45, 46, 15, 16, 27, 28] (by decide) rfl
        · exact hD.sub [0, 3, 4, 5, 40, 45, 46, 15, 17, 27, 29] (by decide) rfl
        · exact hD.sub [0, 3, 4, 5, 40, 45, 46, 15, 18, 27, 30] (by decide) rfl
        · exact hD.sub [0, 3, 4, 5, 40, 45, 46, 15, 19, 27, 31] (by decide) rfl
        · exact hD.sub [0, 3, 4, 5, 40, 45, 46, 15, 20, 27, 32] (by decide) rfl
        · exact hD.sub [0, 3, 4, 5, 40, 45, 46, 16, 9, 28, 21] (by decide) rfl
        · exact hD.sub [0, 3, 4, 5, 40, 45, 46, 16, 10, 28, 22] (by decide) rfl
        · exact hD.sub [0, 3, 4, 5, 40, 45, 46, 16, 11, 28, 23] (by decide) rfl
        · exact hD.sub [0, 3, 4, 5, 40, 45, 46, 16, 12, 28, 24] (by decide) rfl
        · exact hD.sub [0, 3, 4, 5, 40, 45, 46, 16, 13, 28, 25] (by decide) rfl
        · exact hD.sub [0, 3, 4, 5, 40, 45, 46, 16, 14, 28, 26] (by decide) rfl
        · exact hD.sub [0, 3, 4, 5, 40, 45, 46, 16, 15, 28, 27] (by decide) rfl
        · exact absurd rfl hij
        · exact hD.sub [0, 3, 4, 5, 40, 45, 46, 16, 17, 28, 29] (by decide) rfl
        · exact hD.sub [0, 3, 4, 5, 40, 45, 46, 16, 18, 28, 30] (by decide) rfl
        · exact hD.sub [0, 3, 4, 5, 40, 45, 46, 16, 19, 28, 31] (by decide) rfl
        · exact hD.sub [0, 3, 4, 5, 40, 45, 46, 16, 20, 28, 32] (by decide) rfl
        · exact hD.sub [0, 3, 4, 5, 40, 45, 46, 17, 9, 29, 21] (by decide) rfl
        · exact hD.sub [0, 3, 4, 5, 40, 45, 46, 17, 10, 29, 22] (by decide) rfl
        · exact hD.sub [0, 3, 4, 5, 40, 45, 46, 17, 11, 29, 23] (by decide) rfl
        · exact hD.sub [0, 3, 4, 5, 40, 45, 46, 17, 12, 29, 24] (by decide) rfl
        · exact hD.sub [0, 3, 4, 5, 40, 45, 46, 17, 13, 29, 25] (by decide) rfl
        · exact hD.sub [0, 3, 4, 5, 40, 45, 46, 17, 14, 29, 26] (by decide) rfl
        · exact hD.sub [0, 3, 4, 5, 40, 45, 46, 17, 15, 29, 27] (by decide) rfl
        · exact hD.sub [0, 3, 4, 5, 40, 45, 46, 17, 16, 29, 28] (by decide) rfl
        · exact absurd rfl hij
        · exact hD.sub [0, 3, 4, 5, 40, 45, 46, 17, 18, 29, 30] (by decide) rfl
        · exact hD.sub [0, 3, 4, 5, 40, 45, 46, 17, 19, 29, 31] (by decide) rfl
        · exact hD.sub [0, 3, 4, 5, 40, 45, 46, 17, 20, 29, 32] (by decide) rfl
        · exact hD.sub [0, 3, 4, 5, 40, 45, 46, 18, 9, 30, 21] (by decide) rfl
        · exact hD.sub [0, 3, 4, 5, 40, 45, 46, 18, 10, 30, 22] (by decide) rfl
        · exact hD.sub [0, 3, 4, 5, 40, 45, 46, 18, 11, 30, 23] (by decide) rfl
        · exact hD.sub [0, 3, 4, 5, 40, 45, 46, 18, 12, 30, 24] (by decide) rfl
        · exact hD.sub [0, 3, 4, 5, 40, 45, 46, 18, 13, 30, 25] (by decide) rfl
        · exact hD.sub [0, 3, 4, 5, 40, 45, 46, 18, 14, 30, 26] (by decide) rfl
        · exact hD.sub [0, 3, 4, 5, 40, 45, 46, 18, 15, 30, 27] (by decide) rfl
        · exact hD.sub [0, 3, 4, 5, 40, 45, 46, 18, 16, 30, 28] (by decide) rfl
        · exact hD.sub [0, 3, 4, 5, 40, 45, 46, 18, 17, 30, 29] (by decide) rfl
        · exact absurd rfl hij
        · exact hD.sub [0, 3, 4, 5, 40, 45, 46, 18, 19, 30, 31] (by decide) rfl
        · exact hD.sub [0, 3, 4, 5, 40, 45, 46, 18, 20, 30, 32] (by decide) rfl
        · exact hD.sub [0, 3, 4, 5, 40, 45, 46, 19, 9, 31, 21] (by decide) rfl
        · exact hD.sub [0, 3, 4, 5, 40, 45, 46, 19, 10, 31, 22] (by decide) rfl
        · exact hD.sub [0, 3, 4, 5, 40, 45, 46, 19, 11, 31, 23] (by decide) rfl
        · exact hD.sub [0, 3, 4, 5, 40, 45, 46, 19, 12, 31, 24] (by decide) rfl
        · exact hD.sub [0, 3, 4, 5, 40, 45, 46, 19, 13, 31, 25] (by decide) rfl
        · exact hD.sub [0, 3, 4, 5, 40, 45, 46, 19, 14, 31, 26] (by decide) rfl
        · exact hD.sub [0, 3, 4, 5, 40, 45, 46, 19, 15, 31, 27] (by decide) rfl
        · exact hD.sub [0, 3, 4, 5, 40, 45, 46, 19, 16, 31, 28] (by decide) rfl
        · exact hD.sub [0, 3, 4, 5, 40, 45, 46, 19, 17, 31, 29] (by decide) rfl
        · exact hD.sub [0, 3, 4, 5, 40, 45, 46, 19, 18, 31, 30] (by decide) rfl
        · exact absurd rfl hij
        · exact hD.sub [0, 3, 4, 5, 40, 45, 46, 19, 20, 31, 32] (by decide) rfl
        · exact hD.sub [0, 3, 4, 5, 40, 45, 46, 20, 9, 32, 21] (by decide) rfl
        · exact hD.sub [0, 3, 4, 5, 40, 45, 46, 20, 10, 32, 22] (by decide) rfl
        · exact hD.sub [0, 3, 4, 5, 40, 45, 46, 20, 11, 32, 23] (by decide) rfl
        · exact hD.sub [0, 3, 4, 5, 40, 45, 46, 20, 12, 32, 24] (by decide) rfl
        · exact hD.sub [0, 3, 4, 5, 40, 45, 46, 20, 13, 32, 25] (by decide) rfl
        · exact hD.sub [0, 3, 4, 5, 40, 45, 46, 20, 14, 32, 26] (by decide) rfl
        · exact hD.sub [0, 3, 4, 5, 40, 45, 46, 20, 15, 32, 27] (by decide) rfl
        · exact hD.sub [0, 3, 4, 5, 40, 45, 46, 20, 16, 32, 28] (by decide) rfl
        · exact hD.sub [0, 3, 4, 5, 40, 45, 46, 20, 17, 32, 29] (by decide) rfl
        · exact hD.sub [0, 3, 4, 5, 40, 45, 46, 20, 18, 32, 30] (by decide) rfl
        · exact hD.sub [0, 3, 4, 5, 40, 45, 46, 20, 19, 32, 31] (by decide) rfl
        · exact absurd rfl hij
      refine lv_aload_n hx hb dL_law_268 rfl (lv_at hl 3 rfl) ?_
      refine lv_aload_n hx hb dL_law_269 rfl (lv_at hl 4 rfl) ?_
      refine lv_iload hx hb dL_law_270 (lv_at hl 0 rfl) ?_
      refine lv_iconst (v := 1) hx hb dL_law_272 (by decide) ?_
      refine lv_iadd hx hb dL_law_273 ?_
      refine lv_topi (fun y_157 ey_157 => ?_)
      obtain rfl : y_157 = 1 := ey_157.trans (by decide)
      refine va_sld hx hb hX hbl hbA hS (by unfold vp_in; decide) dL_law_274 ?_
      refine lv_topi (fun v_158 ev_158 => ?_)
      obtain rfl : v_158 = xs 1 := ev_158.trans rfl
      refine lv_aload_n hx hb dL_law_275 rfl (lv_at hl 4 rfl) ?_
      refine lv_iload hx hb dL_law_276 (lv_at hl 0 rfl) ?_
      refine lv_iconst (v := 2) hx hb dL_law_278 (by decide) ?_
      refine lv_iadd hx hb dL_law_279 ?_
      refine lv_topi (fun y_159 ey_159 => ?_)
      obtain rfl : y_159 = 2 := ey_159.trans (by decide)
      refine va_sld hx hb hX hbl hbA hS (by unfold vp_in; decide) dL_law_280 ?_
      refine lv_topi (fun v_160 ev_160 => ?_)
      obtain rfl : v_160 = xs 2 := ev_160.trans rfl
      refine lv_aload_n hx hb dL_law_281 rfl (lv_at hl 4 rfl) ?_
      refine lv_iload hx hb dL_law_282 (lv_at hl 0 rfl) ?_
      refine lv_iconst (v := 3) hx hb dL_law_284 (by decide) ?_
      refine lv_iadd hx hb dL_law_285 ?_
      refine lv_topi (fun y_161 ey_161 => ?_)
      obtain rfl : y_161 = 3 := ey_161.trans (by decide)
      refine va_sld hx hb hX hbl hbA hS (by unfold vp_in; decide) dL_law_286 ?_
      refine lv_topi (fun v_162 ev_162 => ?_)
      obtain rfl : v_162 = xs 3 := ev_162.trans rfl
      have hPc := hP.sub (ws' := [(q_1, .inr (8, [.ref a_3, .ref a_4, .ref a_5, .ref a_6, .ref a_7, .ref a_8, .ref a_9, .ref a_10, .ref a_11, .int 0, .int 0, .int 0, .int 0, .int 0, .int 0])), (a_4, .inr (3, [.ref b_14, .ref b_15, .ref b_16, .ref b_17, .ref b_18])), (b_14, .inl (g_19, 12, .inr (.inr (.inr (.inr (fun i => if i < 12 then some (r_25 i) else none)))))), (b_15, .inl (g_20, 12, .inr (.inr (.inr (.inr (fun i => if i < 12 then some (r_26 i) else none)))))), ((r_25 i1), .inl (ky_21, 12, .inl (fun _ => 0))), ((r_25 j1), .inl (ky_21, 12, .inl (fun _ => 0))), ((r_26 i1), .inl (ky_21, 12, .inl (fun _ => 0))), ((r_26 j1), .inl (ky_21, 12, .inl (fun _ => 0)))]) [0, 1, 2, 3, 7, 8, 9, 10] rfl
      have hDc := hD.sub (ws' := [(q_1, .inr (8, [.ref a_3, .ref a_4, .ref a_5, .ref a_6, .ref a_7, .ref a_8, .ref a_9, .ref a_10, .ref a_11, .int 0, .int 0, .int 0, .int 0, .int 0, .int 0])), (a_4, .inr (3, [.ref b_14, .ref b_15, .ref b_16, .ref b_17, .ref b_18])), (b_14, .inl (g_19, 12, .inr (.inr (.inr (.inr (fun i => if i < 12 then some (r_25 i) else none)))))), (b_15, .inl (g_20, 12, .inr (.inr (.inr (.inr (fun i => if i < 12 then some (r_26 i) else none)))))), ((r_25 i1), .inl (ky_21, 12, .inl (fun _ => 0))), ((r_25 j1), .inl (ky_21, 12, .inl (fun _ => 0))), ((r_26 i1), .inl (ky_21, 12, .inl (fun _ => 0))), ((r_26 j1), .inl (ky_21, 12, .inl (fun _ => 0)))]) [0, 1, 2, 3, 7, 8, 9, 10] (by decide) rfl
      have hKc := hK.sub (tys' := [(g_19, .array .int), (g_20, .array .int), (ky_21, .int)]) [1, 2, 3] rfl
      have hFc := va_free (wc := [(q_1, .inr (8, [.ref a_3, .ref a_4, .ref a_5, .ref a_6, .ref a_7, .ref a_8, .ref a_9, .ref a_10, .ref a_11, .int 0, .int 0, .int 0, .int 0, .int 0, .int 0])), (a_4, .inr (3, [.ref b_14, .ref b_15, .ref b_16, .ref b_17, .ref b_18])), (b_14, .inl (g_19, 12, .inr (.inr (.inr (.inr (fun i => if i < 12 then some (r_25 i) else none)))))), (b_15, .inl (g_20, 12, .inr (.inr (.inr (.inr (fun i => if i < 12 then some (r_26 i) else none)))))), ((r_25 i1), .inl (ky_21, 12, .inl (fun _ => 0))), ((r_25 j1), .inl (ky_21, 12, .inl (fun _ => 0))), ((r_26 i1), .inl (ky_21, 12, .inl (fun _ => 0))), ((r_26 j1), .inl (ky_21, 12, .inl (fun _ => 0)))]) hD hS hA [0, 1, 2, 3, 7, 8, 9, 10] rfl
      refine va_calli (va_runV (As := [.int (xs 1), .int (xs 2), .int (xs 3)]) (rest := []) ⟨hx, hb, hml, hown, hts⟩ (c_X8_road l dC dI q_1 a_3 a_4 a_5 a_6 a_7 a_8 a_9 a_10 a_11 b_14 b_15 b_16 b_17 b_18 (r_25 i1) (r_25 j1) (r_26 i1) (r_26 j1) g_19 g_20 ky_21 (fun i => if i < 12 then some (r_25 i) else none) (fun i => if i < 12 then some (r_26 i) else none) (fun _ => 0) (fun _ => 0) (fun _ => 0) (fun _ => 0) (xs 1) (xs 2) (xs 3) H.size (gr_hy4 hi hj hje)) (cwV 3 hts gL_law_X8_road rfl rfl rfl (by decide +kernel) ⟨Nat.le_of_ble_eq_true rfl, Nat.le_of_ble_eq_true rfl⟩) ⟨c_blind, va_recv hKc hPc (ci := 8) (q0 := 0) rfl rfl, c_pre hPc hKc hDc hN⟩ rfl rfl hl.1 rfl (lv_room (Nat.le_of_ble_eq_true rfl)) dL_law_287 ⟨Nat.le_of_ble_eq_true rfl, Nat.le_of_ble_eq_true rfl⟩) hS (fun q _ h => hFc q h) hFc (fun r_163 u9 t9 H1 locs ht hvm hw hB hz1 hk1 hS => ?_)
      obtain ⟨hP1, hK1, hD1⟩ := hB
      rw [ht] at hP1
      have hK1 := va_K.moved hvm.symm hK1
      obtain ⟨hP, hD⟩ := va_join (wr := [(q_35, .inr (9, [.int 0, .ref m_37, .int 0, .int 0, .int 0, .ref m_38, .ref m_39, .ref m_40, .int 0, .int 0, .int 0, .int 0, .int 0, .int 0, .long 0, .ref m_41, .ref m_42, .ref m_43, .ref m_44, .ref m_45, .ref m_46, .int 0, .ref m_47, .ref m_48, .ref m_49, .ref m_50, .ref m_51, .ref m_52, .ref m_53, .ref m_54, .ref m_55, .ref m_56, .ref m_57, .ref m_58, .ref m_59, .int 0, .int 0, .ref m_60, .ref m_61, .ref m_62, .ref m_63, .ref m_64, .ref m_65, .ref m_66, .ref m_67, .ref m_68, .ref m_69])), (m_41, .inl (k_hours_74, 144, .inl (fun _ => 0))), (m_42, .inl (k_snow_75, 144, .inl (fun _ => 0)))]) (w1 := []) hP hD [0, 1, 2, 3, 7, 8, 9, 10] [4, 5, 6] rfl rfl (by decide) (by decide) hk1 hFc hP1 hD1
      have hK := (hK.sub (tys' := [(j_13, .int), (g_19, .array .int), (g_20, .array .int), (ky_21, .int), (kt_22, .int), (kz_23, .boolean), (kr_24, .int), (j_27, .int), (j_28, .object "YamRiders$Horse"), (j_29, .object "YamRiders$Tablet"), (j_30, .object "YamRiders$Rider"), (j_31, .object "YamRiders$Rider"), (j_33, .int), (k_tape_70, .byte), (k_law_71, .int), (k_fresh_72, .int), (k_isTold_73, .boolean), (k_hours_74, .int), (k_snow_75, .int), (k_least_76, .int), (k_fodder_77, .int), (k_strength_78, .int), (k_stands_79, .int), (k_rank_80, .int), (k_voidSince_81, .int), (k_newsSince_82, .int), (k_ways_83, .int), (k_wayMany_84, .int), (k_tabletOf_85, .int), (k_state_86, .int), (k_come_87, .int), (k_cameIn_88, .int), (k_horseOf_89, .int), (k_due_90, .int), (k_time_91, .int), (k_brings_92, .int), (k_loose_93, .boolean), (k_asked_94, .boolean), (k_led_95, .int), (k_cost_96, .int), (k_left_97, .int), (k_wants_98, .int), (k_toGiver_99, .int), (k_toTaker_100, .int), (k_giverBy_101, .int), (k_takerBy_102, .int), (k_105, .long)]) [0, 1, 2, 3, 4, 5, 6, 7, 8, 9, 10, 11, 12, 13, 14, 15, 16, 17, 18, 19, 20, 21, 22, 23, 24, 25, 26, 27, 28, 29, 30, 31, 32, 33, 34, 35, 36, 37, 38, 39, 40, 41, 42, 43, 44, 45, 46] rfl).app hK1
      generalize H1 = H at hP hS ⊢
      have hK : va_K (dC, dI) vwCl [(j_13, .int), (g_19, .array .int), (g_20, .array .int), (ky_21, .int), (kt_22, .int), (kz_23, .boolean), (kr_24, .int), (j_27, .int), (j_28, .object "YamRiders$Horse"), (j_29, .object "YamRiders$Tablet"), (j_30, .object "YamRiders$Rider"), (j_31, .object "YamRiders$Rider"), (j_33, .int), (k_tape_70, .byte), (k_law_71, .int), (k_fresh_72, .int), (k_isTold_73, .boolean), (k_hours_74, .int), (k_snow_75, .int), (k_least_76, .int), (k_fodder_77, .int), (k_strength_78, .int), (k_stands_79, .int), (k_rank_80, .int), (k_voidSince_81, .int), (k_newsSince_82, .int), (k_ways_83, .int), (k_wayMany_84, .int), (k_tabletOf_85, .int), (k_state_86, .int), (k_come_87, .int), (k_cameIn_88, .int), (k_horseOf_89, .int), (k_due_90, .int), (k_time_91, .int), (k_brings_92, .int), (k_loose_93, .boolean), (k_asked_94, .boolean), (k_led_95, .int), (k_cost_96, .int), (k_left_97, .int), (k_wants_98, .int), (k_toGiver_99, .int), (k_toTaker_100, .int), (k_giverBy_101, .int), (k_takerBy_102, .int), (k_105, .long)] s := hK
      have hP : va_P (dC, dI) vwCl [(q_35, .inr (9, [.int 0, .ref m_37, .int 0, .int 0, .int 0, .ref m_38, .ref m_39, .ref m_40, .int 0, .int 0, .int 0, .int 0, .int 0, .int 0, .long 0, .ref m_41, .ref m_42, .ref m_43, .ref m_44, .ref m_45, .ref m_46, .int 0, .ref m_47, .ref m_48, .ref m_49, .ref m_50, .ref m_51, .ref m_52, .ref m_53, .ref m_54, .ref m_55, .ref m_56, .ref m_57, .ref m_58, .ref m_59, .int 0, .int 0, .ref m_60, .ref m_61, .ref m_62, .ref m_63, .ref m_64, .ref m_65, .ref m_66, .ref m_67, .ref m_68, .ref m_69])), (m_41, .inl (k_hours_74, 144, .inl (fun _ => 0))), (m_42, .inl (k_snow_75, 144, .inl (fun _ => 0)))] H := hP
      have hD : va_D (fun q : Nat => s.heap.size ≤ q) [(q_35, .inr (9, [.int 0, .ref m_37, .int 0, .int 0, .int 0, .ref m_38, .ref m_39, .ref m_40, .int 0, .int 0, .int 0, .int 0, .int 0, .int 0, .long 0, .ref m_41, .ref m_42, .ref m_43, .ref m_44, .ref m_45, .ref m_46, .int 0, .ref m_47, .ref m_48, .ref m_49, .ref m_50, .ref m_51, .ref m_52, .ref m_53, .ref m_54, .ref m_55, .ref m_56, .ref m_57, .ref m_58, .ref m_59, .int 0, .int 0, .ref m_60, .ref m_61, .ref m_62, .ref m_63, .ref m_64, .ref m_65, .ref m_66, .ref m_67, .ref m_68, .ref m_69])), (m_41, .inl (k_hours_74, 144, .inl (fun _ => 0))), (m_42, .inl (k_snow_75, 144, .inl (fun _ => 0)))] := hD
      try dsimp only at hw
      subst hw
      refine W.widen (k := 102) (n := 4433) (Nat.le_of_ble_eq_true rfl) (Nat.le_of_ble_eq_true rfl) ?_
      refine lv_aload_n hx hb dL_law_290 rfl (lv_at hl 2 rfl) ?_
      refine lv_aload_n hx hb dL_law_291 rfl (lv_at hl 4 rfl) ?_
      refine lv_iload hx hb dL_law_292 (lv_at hl 0 rfl) ?_
      refine lv_iconst (v := 1) hx hb dL_law_294 (by decide) ?_
      refine lv_iadd hx hb dL_law_295 ?_
      refine lv_topi (fun y_164 ey_164 => ?_)
      obtain rfl : y_164 = 1 := ey_164.trans (by decide)
      refine va_sld hx hb hX hbl hbA hS (by unfold vp_in; decide) dL_law_296 ?_
      refine lv_topi (fun v_165 ev_165 => ?_)
      obtain rfl : v_165 = xs 1 := ev_165.trans rfl
      refine lv_aload_n hx hb dL_law_297 rfl (lv_at hl 4 rfl) ?_
      refine lv_iload hx hb dL_law_298 (lv_at hl 0 rfl) ?_
      refine lv_iconst (v := 2) hx hb dL_law_300 (by decide) ?_
      refine lv_iadd hx hb dL_law_301 ?_
      refine lv_topi (fun y_166 ey_166 => ?_)
      obtain rfl : y_166 = 2 := ey_166.trans (by decide)
      refine va_sld hx hb hX hbl hbA hS (by unfold vp_in; decide) dL_law_302 ?_
      refine lv_topi (fun v_167 ev_167 => ?_)
      obtain rfl : v_167 = xs 2 := ev_167.trans rfl
      refine lv_aload_n hx hb dL_law_303 rfl (lv_at hl 4 rfl) ?_
      refine lv_iload hx hb dL_law_304 (lv_at hl 0 rfl) ?_
      refine lv_iconst (v := 3) hx hb dL_law_306 (by decide) ?_
      refine lv_iadd hx hb dL_law_307 ?_
      refine lv_topi (fun y_168 ey_168 => ?_)
      obtain rfl : y_168 = 3 := ey_168.trans (by decide)
      refine va_sld hx hb hX hbl hbA hS (by unfold vp_in; decide) dL_law_308 ?_
      refine lv_topi (fun v_169 ev_169 => ?_)
      obtain rfl : v_169 = xs 3 := ev_169.trans rfl
      have hPc := hP.sub (ws' := [(q_35, .inr (9, [.int 0, .ref m_37, .int 0, .int 0, .int 0, .ref m_38, .ref m_39, .ref m_40, .int 0, .int 0, .int 0, .int 0, .int 0, .int 0, .long 0, .ref m_41, .ref m_42, .ref m_43, .ref m_44, .ref m_45, .ref m_46, .int 0, .ref m_47, .ref m_48, .ref m_49, .ref m_50, .ref m_51, .ref m_52, .ref m_53, .ref m_54, .ref m_55, .ref m_56, .ref m_57, .ref m_58, .ref m_59, .int 0, .int 0, .ref m_60, .ref m_61, .ref m_62, .ref m_63, .ref m_64, .ref m_65, .ref m_66, .ref m_67, .ref m_68, .ref m_69])), (m_41, .inl (k_hours_74, 144, .inl (fun _ => 0))), (m_42, .inl (k_snow_75, 144, .inl (fun _ => 0)))]) [0, 1, 2] rfl
      have hDc := hD.sub (ws' := [(q_35, .inr (9, [.int 0, .ref m_37, .int 0, .int 0, .int 0, .ref m_38, .ref m_39, .ref m_40, .int 0, .int 0, .int 0, .int 0, .int 0, .int 0, .long 0, .ref m_41, .ref m_42, .ref m_43, .ref m_44, .ref m_45, .ref m_46, .int 0, .ref m_47, .ref m_48, .ref m_49, .ref m_50, .ref m_51, .ref m_52, .ref m_53, .ref m_54, .ref m_55, .ref m_56, .ref m_57, .ref m_58, .ref m_59, .int 0, .int 0, .ref m_60, .ref m_61, .ref m_62, .ref m_63, .ref m_64, .ref m_65, .ref m_66, .ref m_67, .ref m_68, .ref m_69])), (m_41, .inl (k_hours_74, 144, .inl (fun _ => 0))), (m_42, .inl (k_snow_75, 144, .inl (fun _ => 0)))]) [0, 1, 2] (by decide) rfl
      have hKc := hK.sub (tys' := [(k_hours_74, .int), (k_snow_75, .int)]) [17, 18] rfl
      have hFc := va_free (wc := [(q_35, .inr (9, [.int 0, .ref m_37, .int 0, .int 0, .int 0, .ref m_38, .ref m_39, .ref m_40, .int 0, .int 0, .int 0, .int 0, .int 0, .int 0, .long 0, .ref m_41, .ref m_42, .ref m_43, .ref m_44, .ref m_45, .ref m_46, .int 0, .ref m_47, .ref m_48, .ref m_49, .ref m_50, .ref m_51, .ref m_52, .ref m_53, .ref m_54, .ref m_55, .ref m_56, .ref m_57, .ref m_58, .ref m_59, .int 0, .int 0, .ref m_60, .ref m_61, .ref m_62, .ref m_63, .ref m_64, .ref m_65, .ref m_66, .ref m_67, .ref m_68, .ref m_69])), (m_41, .inl (k_hours_74, 144, .inl (fun _ => 0))), (m_42, .inl (k_snow_75, 144, .inl (fun _ => 0)))]) hD hS hA [0, 1, 2] rfl
      refine va_calli (va_runV (As := [.int (xs 1), .int (xs 2), .int (xs 3)]) (rest := [.int (if (sp_st (xs 1)) = 0 then 0 else (if (sp_st (xs 2)) = 0 then 0 else (if (xs 1) = (xs 2) then 0 else (if (xs 3) < 0 then 0 else (if (xs 3) ≤ 24 then 1 else 0)))))]) ⟨hx, hb, hml, hown, hts⟩ (c_X9_road l dC dI q_35 m_37 m_38 m_39 m_40 m_41 m_42 m_43 m_44 m_45 m_46 m_47 m_48 m_49 m_50 m_51 m_52 m_53 m_54 m_55 m_56 m_57 m_58 m_59 m_60 m_61 m_62 m_63 m_64 m_65 m_66 m_67 m_68 m_69 k_hours_74 k_snow_75 (xs 1) (xs 2) (xs 3) H.size) (cwV 3 hts gL_law_X9_road rfl rfl rfl (by decide +kernel) ⟨Nat.le_of_ble_eq_true rfl, Nat.le_of_ble_eq_true rfl⟩) ⟨c_blind, va_recv hKc hPc (ci := 9) (q0 := 0) rfl rfl, c_pre hPc hKc hDc hN⟩ rfl rfl hl.1 rfl (lv_room (Nat.le_of_ble_eq_true rfl)) dL_law_309 ⟨Nat.le_of_ble_eq_true rfl, Nat.le_of_ble_eq_true rfl⟩) hS (fun q _ h => hFc q h) hFc (fun r_170 u9 t9 H1 locs ht hvm hw hB hz1 hk1 hS => ?_)
      obtain ⟨hP1, hK1, hD1⟩ := hB
      rw [ht] at hP1
      have hK1 := va_K.moved hvm.symm hK1
      obtain ⟨hP, hD⟩ := va_join (wr := []) (w1 := []) hP hD [0, 1, 2] [] rfl rfl (by decide) (by decide) hk1 hFc hP1 hD1
      have hK := (hK.sub (tys' := [(j_13, .int), (g_19, .array .int), (g_20, .array .int), (ky_21, .int), (kt_22, .int), (kz_23, .boolean), (kr_24, .int), (j_27, .int), (j_28, .object "YamRiders$Horse"), (j_29, .object "YamRiders$Tablet"), (j_30, .object "YamRiders$Rider"), (j_31, .object "YamRiders$Rider"), (j_33, .int), (k_tape_70, .byte), (k_law_71, .int), (k_fresh_72, .int), (k_isTold_73, .boolean), (k_hours_74, .int), (k_snow_75, .int), (k_least_76, .int), (k_fodder_77, .int), (k_strength_78, .int), (k_stands_79, .int), (k_rank_80, .int), (k_voidSince_81, .int), (k_newsSince_82, .int), (k_ways_83, .int), (k_wayMany_84, .int), (k_tabletOf_85, .int), (k_state_86, .int), (k_come_87, .int), (k_cameIn_88, .int), (k_horseOf_89, .int), (k_due_90, .int), (k_time_91, .int), (k_brings_92, .int), (k_loose_93, .boolean), (k_asked_94, .boolean), (k_led_95, .int), (k_cost_96, .int), (k_left_97, .int), (k_wants_98, .int), (k_toGiver_99, .int), (k_toTaker_100, .int), (k_giverBy_101, .int), (k_takerBy_102, .int), (k_105, .long)]) [0, 1, 2, 3, 4, 5, 6, 7, 8, 9, 10, 11, 12, 13, 14, 15, 16, 17, 18, 19, 20, 21, 22, 23, 24, 25, 26, 27, 28, 29, 30, 31, 32, 33, 34, 35, 36, 37, 38, 39, 40, 41, 42, 43, 44, 45, 46] rfl).app hK1
      generalize H1 = H at hP hS ⊢
      have hK : va_K (dC, dI) vwCl [(j_13, .int), (g_19, .array .int), (g_20, .array .int), (ky_21, .int), (kt_22, .int), (kz_23, .boolean), (kr_24, .int), (j_27, .int), (j_28, .object "YamRiders$Horse"), (j_29, .object "YamRiders$Tablet"), (j_30, .object "YamRiders$Rider"), (j_31, .object "YamRiders$Rider"), (j_33, .int), (k_tape_70, .byte), (k_law_71, .int), (k_fresh_72, .int), (k_isTold_73, .boolean), (k_hours_74, .int), (k_snow_75, .int), (k_least_76, .int), (k_fodder_77, .int), (k_strength_78, .int), (k_stands_79, .int), (k_rank_80, .int), (k_voidSince_81, .int), (k_newsSince_82, .int), (k_ways_83, .int), (k_wayMany_84, .int), (k_tabletOf_85, .int), (k_state_86, .int), (k_come_87, .int), (k_cameIn_88, .int), (k_horseOf_89, .int), (k_due_90, .int), (k_time_91, .int), (k_brings_92, .int), (k_loose_93, .boolean), (k_asked_94, .boolean), (k_led_95, .int), (k_cost_96, .int), (k_left_97, .int), (k_wants_98, .int), (k_toGiver_99, .int), (k_toTaker_100, .int), (k_giverBy_101, .int), (k_takerBy_102, .int), (k_105, .long)] s := hK
      have hP : va_P (dC, dI) vwCl [] H := hP
      have hD : va_D (fun q : Nat => s.heap.size ≤ q) [] := hD
      try dsimp only at hw
      subst hw
      refine W.widen (k := 102) (n := 4433) (Nat.le_of_ble_eq_true rfl) (Nat.le_of_ble_eq_true rfl) ?_
      refine lv_icmp_eq (tgt := 948) hx hb dL_law_312 (by decide) (fun _ => ?_) (fun c_171 => by first | exact absurd c_171 rfl | exact absurd rfl c_171)
      refine lv_iinc (v := 6) (lv' := [(4, .int 6), (3, .ref q_104), (2, .ref q_35), (1, .ref q_1), (0, .ref b)]) hx hb dL_law_948 hl (k := 0) rfl (by decide) (by decide) rfl (fun ls hl => ?_)
      refine lv_goto (tgt := 23) hx hb dL_law_951 (by decide) ?_
      refine lv_iload hx hb dL_law_23 (lv_at hl 0 rfl) ?_
      refine lv_aload_n hx hb dL_law_25 rfl (lv_at hl 4 rfl) ?_
      refine va_slen hx hb hX hbl hbA hS dL_law_26 ?_
      refine lv_bipush (v := 6) hx hb dL_law_27 (by decide) ?_
      refine lv_isub hx hb dL_law_29 ?_
      refine lv_topi (fun y_172 ey_172 => ?_)
      obtain rfl : y_172 = 0 := ey_172.trans (by decide)
      refine lv_icmp_gt (tgt := 954) hx hb dL_law_30 (by decide) (fun _ => ?_) (fun c_173 => by first | exact absurd c_173 (by decide) | exact absurd (by decide) c_173)
      refine lv_iconst (v := 1) hx hb dL_law_954 (by decide) ?_
      refine va_forget (fun q hq => hS.2.2 q hq) ?_
      refine W.widen (k := 600002) (n := 7302232) (Nat.le_of_ble_eq_true rfl) (Nat.le_of_ble_eq_true rfl) ?_
      exact lw_ret hx hb hr hlocks dL_law_955
    by_cases c_174 : (xs 0) &&& 31 = 5
    · refine lv_tableIn (tgt := 317) (off := 277) hx hb dL_law_40 (by rw [c_174]; decide) (by rw [c_174]; decide) (by rw [c_174]; decide) (by decide) ?_
      obtain ⟨j, hj, hje⟩ := st_ex (xs 1)
      have hP : va_P (dC, dI) vwCl [(q_1, .inr (8, [.ref a_3, .ref a_4, .ref a_5, .ref a_6, .ref a_7, .ref a_8, .ref a_9, .ref a_10, .ref a_11, .int 0, .int 0, .int 0, .int 0, .int 0, .int 0])), (a_4, .inr (3, [.ref b_14, .ref b_15, .ref b_16, .ref b_17, .ref b_18])), (b_14, .inl (g_19, 12, .inr (.inr (.inr (.inr (fun i => if i < 12 then some (r_25 i) else none)))))), (q_35, .inr (9, [.int 0, .ref m_37, .int 0, .int 0, .int 0, .ref m_38, .ref m_39, .ref m_40, .int 0, .int 0, .int 0, .int 0, .int 0, .int 0, .long 0, .ref m_41, .ref m_42, .ref m_43, .ref m_44, .ref m_45, .ref m_46, .int 0, .ref m_47, .ref m_48, .ref m_49, .ref m_50, .ref m_51, .ref m_52, .ref m_53, .ref m_54, .ref m_55, .ref m_56, .ref m_57, .ref m_58, .ref m_59, .int 0, .int 0, .ref m_60, .ref m_61, .ref m_62, .ref m_63, .ref m_64, .ref m_65, .ref m_66, .ref m_67, .ref m_68, .ref m_69])), (m_41, .inl (k_hours_74, 144, .inl (fun _ => 0))), ((r_25 j), .inl (ky_21, 12, .inl (fun _ => 0)))] H := by
        rcases j12 hj with rfl | rfl | rfl | rfl | rfl | rfl | rfl | rfl | rfl | rfl | rfl | rfl
        · exact hP.sub [0, 3, 4, 40, 45, 9] rfl
        · exact hP.sub [0, 3, 4, 40, 45, 10] rfl
        · exact hP.sub [0, 3, 4, 40, 45, 11] rfl
        · exact hP.sub [0, 3, 4, 40, 45, 12] rfl
        · exact hP.sub [0, 3, 4, 40, 45, 13] rfl
        · exact hP.sub [0, 3, 4, 40, 45, 14] rfl
        · exact hP.sub [0, 3, 4, 40, 45, 15] rfl
        · exact hP.sub [0, 3, 4, 40, 45, 16] rfl
        · exact hP.sub [0, 3, 4, 40, 45, 17] rfl
        · exact hP.sub [0, 3, 4, 40, 45, 18] rfl
        · exact hP.sub [0, 3, 4, 40, 45, 19] rfl
        · exact hP.sub [0, 3, 4, 40, 45, 20] rfl
      have hD : va_D (fun q : Nat => s.heap.size ≤ q) [(q_1, .inr (8, [.ref a_3, .ref a_4, .ref a_5, .ref a_6, .ref a_7, .ref a_8, .ref a_9, .ref a_10, .ref a_11, .int 0, .int 0, .int 0, .int 0, .int 0, .int 0])), (a_4, .inr (3, [.ref b_14, .ref b_15, .ref b_16, .ref b_17, .ref b_18])), (b_14, .inl (g_19, 12, .inr (.inr (.inr (.inr (fun i => if i < 12 then some (r_25 i) else none)))))), (q_35, .inr (9, [.int 0, .ref m_37, .int 0, .int 0, .int 0, .ref m_38, .ref m_39, .ref m_40, .int 0, .int 0, .int 0, .int 0, .int 0, .int 0, .long 0, .ref m_41, .ref m_42, .ref m_43, .ref m_44, .ref m_45, .ref m_46, .int 0, .ref m_47, .ref m_48, .ref m_49, .ref m_50, .ref m_51, .ref m_52, .ref m_53, .ref m_54, .ref m_55, .ref m_56, .ref m_57, .ref m_58, .ref m_59, .int 0, .int 0, .ref m_60, .ref m_61, .ref m_62, .ref m_63, .ref m_64, .ref m_65, .ref m_66, .ref m_67, .ref m_68, .ref m_69])), (m_41, .inl (k_hours_74, 144, .inl (fun _ => 0))), ((r_25 j), .inl (ky_21, 12, .inl (fun _ => 0)))] := by
        rcases j12 hj with rfl | rfl | rfl | rfl | rfl | rfl | rfl | rfl | rfl | rfl | rfl | rfl
        · exact hD.sub [0, 3, 4, 40, 45, 9] (by decide) rfl
        · exact hD.sub [0, 3, 4, 40, 45, 10] (by decide) rfl
        · exact hD.sub [0, 3, 4, 40, 45, 11] (by decide) rfl
        · exact hD.sub [0, 3, 4, 40, 45, 12] (by decide) rfl
        · exact hD.sub [0, 3, 4, 40, 45, 13] (by decide) rfl
        · exact hD.sub [0, 3, 4, 40, 45, 14] (by decide) rfl
        · exact hD.sub [0, 3, 4, 40, 45, 15] (by decide) rfl
        · exact hD.sub [0, 3, 4, 40, 45, 16] (by decide) rfl
        · exact hD.sub [0, 3, 4, 40, 45, 17] (by decide) rfl
        · exact hD.sub [0, 3, 4, 40, 45, 18] (by decide) rfl
        · exact hD.sub [0, 3, 4, 40, 45, 19] (by decide) rfl
        · exact hD.sub [0, 3, 4, 40, 45, 20] (by decide) rfl
      refine lv_aload_n hx hb dL_law_317 rfl (lv_at hl 3 rfl) ?_
      refine lv_aload_n hx hb dL_law_318 rfl (lv_at hl 4 rfl) ?_
      refine lv_iload hx hb dL_law_319 (lv_at hl 0 rfl) ?_
      refine lv_iconst (v := 1) hx hb dL_law_321 (by decide) ?_
      refine lv_iadd hx hb dL_law_322 ?_
      refine lv_topi (fun y_175 ey_175 => ?_)
      obtain rfl : y_175 = 1 := ey_175.trans (by decide)
      refine va_sld hx hb hX hbl hbA hS (by unfold vp_in; decide) dL_law_323 ?_
      refine lv_topi (fun v_176 ev_176 => ?_)
      obtain rfl : v_176 = xs 1 := ev_176.trans rfl
      refine lv_aload_n hx hb dL_law_324 rfl (lv_at hl 4 rfl) ?_
      refine lv_iload hx hb dL_law_325 (lv_at hl 0 rfl) ?_
      refine lv_iconst (v := 2) hx hb dL_law_327 (by decide) ?_
      refine lv_iadd hx hb dL_law_328 ?_
      refine lv_topi (fun y_177 ey_177 => ?_)
      obtain rfl : y_177 = 2 := ey_177.trans (by decide)
      refine va_sld hx hb hX hbl hbA hS (by unfold vp_in; decide) dL_law_329 ?_
      refine lv_topi (fun v_178 ev_178 => ?_)
      obtain rfl : v_178 = xs 2 := ev_178.trans rfl
      refine lv_aload_n hx hb dL_law_330 rfl (lv_at hl 4 rfl) ?_
      refine lv_iload hx hb dL_law_331 (lv_at hl 0 rfl) ?_
      refine lv_iconst (v := 3) hx hb dL_law_333 (by decide) ?_
      refine lv_iadd hx hb dL_law_334 ?_
      refine lv_topi (fun y_179 ey_179 => ?_)
      obtain rfl : y_179 = 3 := ey_179.trans (by decide)
      refine va_sld hx hb hX hbl hbA hS (by unfold vp_in; decide) dL_law_335 ?_
      refine lv_topi (fun v_180 ev_180 => ?_)
      obtain rfl : v_180 = xs 3 := ev_180.trans rfl
      have hPc := hP.sub (ws' := [(q_1, .inr (8, [.ref a_3, .ref a_4, .ref a_5, .ref a_6, .ref a_7, .ref a_8, .ref a_9, .ref a_10, .ref a_11, .int 0, .int 0, .int 0, .int 0, .int 0, .int 0])), (a_4, .inr (3, [.ref b_14, .ref b_15, .ref b_16, .ref b_17, .ref b_18])), (b_14, .inl (g_19, 12, .inr (.inr (.inr (.inr (fun i => if i < 12 then some (r_25 i) else none)))))), ((r_25 j), .inl (ky_21, 12, .inl (fun _ => 0)))]) [0, 1, 2, 5] rfl
      have hDc := hD.sub (ws' := [(q_1, .inr (8, [.ref a_3, .ref a_4, .ref a_5, .ref a_6, .ref a_7, .ref a_8, .ref a_9, .ref a_10, .ref a_11, .int 0, .int 0, .int 0, .int 0, .int 0, .int 0])), (a_4, .inr (3, [.ref b_14, .ref b_15, .ref b_16, .ref b_17, .ref b_18])), (b_14, .inl (g_19, 12, .inr (.inr (.inr (.inr (fun i => if i < 12 then some (r_25 i) else none)))))), ((r_25 j), .inl (ky_21, 12, .inl (fun _ => 0)))]) [0, 1, 2, 5] (by decide) rfl
      have hKc := hK.sub (tys' := [(g_19, .array .int), (ky_21, .int)]) [1, 3] rfl
      refine cs_i (va_runV (As := [.int (xs 1), .int (xs 2), .int (xs 3)]) (rest := []) ⟨hx, hb, hml, hown, hts⟩ (c_X8_snow l dC dI q_1 a_3 a_4 a_5 a_6 a_7 a_8 a_9 a_10 a_11 b_14 b_15 b_16 b_17 b_18 (r_25 j) g_19 ky_21 (fun i => if i < 12 then some (r_25 i) else none) (xs 1) (xs 2) (xs 3) H.size (gr_hy hj hje)) (cwV 3 hts gL_law_X8_snow rfl rfl rfl (by decide +kernel) ⟨Nat.le_of_ble_eq_true rfl, Nat.le_of_ble_eq_true rfl⟩) ⟨c_blind, va_recv hKc hPc (ci := 8) (q0 := 0) rfl rfl, c_pre hPc hKc hDc hN⟩ rfl rfl hl.1 rfl (lv_room (Nat.le_of_ble_eq_true rfl)) dL_law_336 ⟨Nat.le_of_ble_eq_true rfl, Nat.le_of_ble_eq_true rfl⟩) (fun r_181 hr_181 => ?_)
      subst hr_181
      refine lv_aload_n hx hb dL_law_339 rfl (lv_at hl 2 rfl) ?_
      refine lv_aload_n hx hb dL_law_340 rfl (lv_at hl 4 rfl) ?_
      refine lv_iload hx hb dL_law_341 (lv_at hl 0 rfl) ?_
      refine lv_iconst (v := 1) hx hb dL_law_343 (by decide) ?_
      refine lv_iadd hx hb dL_law_344 ?_
      refine lv_topi (fun y_182 ey_182 => ?_)
      obtain rfl : y_182 = 1 := ey_182.trans (by decide)
      refine va_sld hx hb hX hbl hbA hS (by unfold vp_in; decide) dL_law_345 ?_
      refine lv_topi (fun v_183 ev_183 => ?_)
      obtain rfl : v_183 = xs 1 := ev_183.trans rfl
      refine lv_aload_n hx hb dL_law_346 rfl (lv_at hl 4 rfl) ?_
      refine lv_iload hx hb dL_law_347 (lv_at hl 0 rfl) ?_
      refine lv_iconst (v := 2) hx hb dL_law_349 (by decide) ?_
      refine lv_iadd hx hb dL_law_350 ?_
      refine lv_topi (fun y_184 ey_184 => ?_)
      obtain rfl : y_184 = 2 := ey_184.trans (by decide)
      refine va_sld hx hb hX hbl hbA hS (by unfold vp_in; decide) dL_law_351 ?_
      refine lv_topi (fun v_185 ev_185 => ?_)
      obtain rfl : v_185 = xs 2 := ev_185.trans rfl
      refine lv_aload_n hx hb dL_law_352 rfl (lv_at hl 4 rfl) ?_
      refine lv_iload hx hb dL_law_353 (lv_at hl 0 rfl) ?_
      refine lv_iconst (v := 3) hx hb dL_law_355 (by decide) ?_
      refine lv_iadd hx hb dL_law_356 ?_
      refine lv_topi (fun y_186 ey_186 => ?_)
      obtain rfl : y_186 = 3 := ey_186.trans (by decide)
      refine va_sld hx hb hX hbl hbA hS (by unfold vp_in; decide) dL_law_357 ?_
      refine lv_topi (fun v_187 ev_187 => ?_)
      obtain rfl : v_187 = xs 3 := ev_187.trans rfl
      have hPc := hP.sub (ws' := [(q_35, .inr (9, [.int 0, .ref m_37, .int 0, .int 0, .int 0, .ref m_38, .ref m_39, .ref m_40, .int 0, .int 0, .int 0, .int 0, .int 0, .int 0, .long 0, .ref m_41, .ref m_42, .ref m_43, .ref m_44, .ref m_45, .ref m_46, .int 0, .ref m_47, .ref m_48, .ref m_49, .ref m_50, .ref m_51, .ref m_52, .ref m_53, .ref m_54, .ref m_55, .ref m_56, .ref m_57, .ref m_58, .ref m_59, .int 0, .int 0, .ref m_60, .ref m_61, .ref m_62, .ref m_63, .ref m_64, .ref m_65, .ref m_66, .ref m_67, .ref m_68, .ref m_69])), (m_41, .inl (k_hours_74, 144, .inl (fun _ => 0)))]) [3, 4] rfl
      have hDc := hD.sub (ws' := [(q_35, .inr (9, [.int 0, .ref m_37, .int 0, .int 0, .int 0, .ref m_38, .ref m_39, .ref m_40, .int 0, .int 0, .int 0, .int 0, .int 0, .int 0, .long 0, .ref m_41, .ref m_42, .ref m_43, .ref m_44, .ref m_45, .ref m_46, .int 0, .ref m_47, .ref m_48, .ref m_49, .ref m_50, .ref m_51, .ref m_52, .ref m_53, .ref m_54, .ref m_55, .ref m_56, .ref m_57, .ref m_58, .ref m_59, .int 0, .int 0, .ref m_60, .ref m_61, .ref m_62, .ref m_63, .ref m_64, .ref m_65, .ref m_66, .ref m_67, .ref m_68, .ref m_69])), (m_41, .inl (k_hours_74, 144, .inl (fun _ => 0)))]) [3, 4] (by decide) rfl
      have hKc := hK.sub (tys' := [(k_hours_74, .int)]) [17] rfl
      have hFc := va_free (wc := [(q_35, .inr (9, [.int 0, .ref m_37, .int 0, .int 0, .int 0, .ref m_38, .ref m_39, .ref m_40, .int 0, .int 0, .int 0, .int 0, .int 0, .int 0, .long 0, .ref m_41, .ref m_42, .ref m_43, .ref m_44, .ref m_45, .ref m_46, .int 0, .ref m_47, .ref m_48, .ref m_49, .ref m_50, .ref m_51, .ref m_52, .ref m_53, .ref m_54, .ref m_55, .ref m_56, .ref m_57, .ref m_58, .ref m_59, .int 0, .int 0, .ref m_60, .ref m_61, .ref m_62, .ref m_63, .ref m_64, .ref m_65, .ref m_66, .ref m_67, .ref m_68, .ref m_69])), (m_41, .inl (k_hours_74, 144, .inl (fun _ => 0)))]) hD hS hA [3, 4] rfl
      refine va_calli (va_runV (As := [.int (xs 1), .int (xs 2), .int (xs 3)]) (rest := [.int 0]) ⟨hx, hb, hml, hown, hts⟩ (c_X9_snow l dC dI q_35 m_37 m_38 m_39 m_40 m_41 m_42 m_43 m_44 m_45 m_46 m_47 m_48 m_49 m_50 m_51 m_52 m_53 m_54 m_55 m_56 m_57 m_58 m_59 m_60 m_61 m_62 m_63 m_64 m_65 m_66 m_67 m_68 m_69 k_hours_74 (xs 1) (xs 2) (xs 3) H.size) (cwV 3 hts gL_law_X9_snow rfl rfl rfl (by decide +kernel) ⟨Nat.le_of_ble_eq_true rfl, Nat.le_of_ble_eq_true rfl⟩) ⟨c_blind, va_recv hKc hPc (ci := 9) (q0 := 0) rfl rfl, c_pre hPc hKc hDc hN⟩ rfl rfl hl.1 rfl (lv_room (Nat.le_of_ble_eq_true rfl)) dL_law_358 ⟨Nat.le_of_ble_eq_true rfl, Nat.le_of_ble_eq_true rfl⟩) hS (fun q _ h => hFc q h) hFc (fun r_188 u9 t9 H1 locs ht hvm hw hB hz1 hk1 hS => ?_)
      obtain ⟨hP1, hK1, hD1⟩ := hB
      rw [ht] at hP1
      have hK1 := va_K.moved hvm.symm hK1
      obtain ⟨hP, hD⟩ := va_join (wr := [(q_1, .inr (8, [.ref a_3, .ref a_4, .ref a_5, .ref a_6, .ref a_7, .ref a_8, .ref a_9, .ref a_10, .ref a_11, .int 0, .int 0, .int 0, .int 0, .int 0, .int 0])), (a_4, .inr (3, [.ref b_14, .ref b_15, .ref b_16, .ref b_17, .ref b_18])), (b_14, .inl (g_19, 12, .inr (.inr (.inr (.inr (fun i => if i < 12 then some (r_25 i) else none)))))), ((r_25 j), .inl (ky_21, 12, .inl (fun _ => 0)))]) (w1 := []) hP hD [3, 4] [0, 1, 2, 5] rfl rfl (by decide) (by decide) hk1 hFc hP1 hD1
      have hK := (hK.sub (tys' := [(j_13, .int), (g_19, .array .int), (g_20, .array .int), (ky_21, .int), (kt_22, .int), (kz_23, .boolean), (kr_24, .int), (j_27, .int), (j_28, .object "YamRiders$Horse"), (j_29, .object "YamRiders$Tablet"), (j_30, .object "YamRiders$Rider"), (j_31, .object "YamRiders$Rider"), (j_33, .int), (k_tape_70, .byte), (k_law_71, .int), (k_fresh_72, .int), (k_isTold_73, .boolean), (k_hours_74, .int), (k_snow_75, .int), (k_least_76, .int), (k_fodder_77, .int), (k_strength_78, .int), (k_stands_79, .int), (k_rank_80, .int), (k_voidSince_81, .int), (k_newsSince_82, .int), (k_ways_83, .int), (k_wayMany_84, .int), (k_tabletOf_85, .int), (k_state_86, .int), (k_come_87, .int), (k_cameIn_88, .int), (k_horseOf_89, .int), (k_due_90, .int), (k_time_91, .int), (k_brings_92, .int), (k_loose_93, .boolean), (k_asked_94, .boolean), (k_led_95, .int), (k_cost_96, .int), (k_left_97, .int), (k_wants_98, .int), (k_toGiver_99, .int), (k_toTaker_100, .int), (k_giverBy_101, .int), (k_takerBy_102, .int), (k_105, .long)]) [0, 1, 2, 3, 4, 5, 6, 7, 8, 9, 10, 11, 12, 13, 14, 15, 16, 17, 18, 19, 20, 21, 22, 23, 24, 25, 26, 27, 28, 29, 30, 31, 32, 33, 34, 35, 36, 37, 38, 39, 40, 41, 42, 43, 44, 45, 46] rfl).app hK1
      generalize H1 = H at hP hS ⊢
      have hK : va_K (dC, dI) vwCl [(j_13, .int), (g_19, .array .int), (g_20, .array .int), (ky_21, .int), (kt_22, .int), (kz_23, .boolean), (kr_24, .int), (j_27, .int), (j_28, .object "YamRiders$Horse"), (j_29, .object "YamRiders$Tablet"), (j_30, .object "YamRiders$Rider"), (j_31, .object "YamRiders$Rider"), (j_33, .int), (k_tape_70, .byte), (k_law_71, .int), (k_fresh_72, .int), (k_isTold_73, .boolean), (k_hours_74, .int), (k_snow_75, .int), (k_least_76, .int), (k_fodder_77, .int), (k_strength_78, .int), (k_stands_79, .int), (k_rank_80, .int), (k_voidSince_81, .int), (k_newsSince_82, .int), (k_ways_83, .int), (k_wayMany_84, .int), (k_tabletOf_85, .int), (k_state_86, .int), (k_come_87, .int), (k_cameIn_88, .int), (k_horseOf_89, .int), (k_due_90, .int), (k_time_91, .int), (k_brings_92, .int), (k_loose_93, .boolean), (k_asked_94, .boolean), (k_led_95, .int), (k_cost_96, .int), (k_left_97, .int), (k_wants_98, .int), (k_toGiver_99, .int), (k_toTaker_100, .int), (k_giverBy_101, .int), (k_takerBy_102, .int), (k_105, .long)] s := hK
      have hP : va_P (dC, dI) vwCl [(q_1, .inr (8, [.ref a_3, .ref a_4, .ref a_5, .ref a_6, .ref a_7, .ref a_8, .ref a_9, .ref a_10, .ref a_11, .int 0, .int 0, .int 0, .int 0, .int 0, .int 0])), (a_4, .inr (3, [.ref b_14, .ref b_15, .ref b_16, .ref b_17, .ref b_18])), (b_14, .inl (g_19, 12, .inr (.inr (.inr (.inr (fun i => if i < 12 then some (r_25 i) else none)))))), ((r_25 j), .inl (ky_21, 12, .inl (fun _ => 0)))] H := hP
      have hD : va_D (fun q : Nat => s.heap.size ≤ q) [(q_1, .inr (8, [.ref a_3, .ref a_4, .ref a_5, .ref a_6, .ref a_7, .ref a_8, .ref a_9, .ref a_10, .ref a_11, .int 0, .int 0, .int 0, .int 0, .int 0, .int 0])), (a_4, .inr (3, [.ref b_14, .ref b_15, .ref b_16, .ref b_17, .ref b_18])), (b_14, .inl (g_19, 12, .inr (.inr (.inr (.inr (fun i => if i < 12 then some (r_25 i) else none)))))), ((r_25 j), .inl (ky_21, 12, .inl (fun _ => 0)))] := hD
      try dsimp only at hw
      subst hw
      refine W.widen (k := 102) (n := 4433) (Nat.le_of_ble_eq_true rfl) (Nat.le_of_ble_eq_true rfl) ?_
      refine lv_icmp_eq (tgt := 948) hx hb dL_law_361 (by decide) (fun _ => ?_) (fun c_189 => by first | exact absurd c_189 (by decide) | exact absurd (by decide) c_189)
      refine lv_iinc (v := 6) (lv' := [(4, .int 6), (3, .ref q_104), (2, .ref q_35), (1, .ref q_1), (0, .ref b)]) hx hb dL_law_948 hl (k := 0) rfl (by decide) (by decide) rfl (fun ls hl => ?_)
      refine lv_goto (tgt := 23) hx hb dL_law_951 (by decide) ?_
      refine lv_iload hx hb dL_law_23 (lv_at hl 0 rfl) ?_
      refine lv_aload_n hx hb dL_law_25 rfl (lv_at hl 4 rfl) ?_
      refine va_slen hx hb hX hbl hbA hS dL_law_26 ?_
      refine lv_bipush (v := 6) hx hb dL_law_27 (by decide) ?_
      refine lv_isub hx hb dL_law_29 ?_
      refine lv_topi (fun y_190 ey_190 => ?_)
      obtain rfl : y_190 = 0 := ey_190.trans (by decide)
      refine lv_icmp_gt (tgt := 954) hx hb dL_law_30 (by decide) (fun _ => ?_) (fun c_191 => by first | exact absurd c_191 (by decide) | exact absurd (by decide) c_191)
      refine lv_iconst (v := 1) hx hb dL_law_954 (by decide) ?_
      refine va_forget (fun q hq => hS.2.2 q hq) ?_
      refine W.widen (k := 600002) (n := 7302232) (Nat.le_of_ble_eq_true rfl) (Nat.le_of_ble_eq_true rfl) ?_
      exact lw_ret hx hb hr hlocks dL_law_955
    by_cases c_192 : (xs 0) &&& 31 = 6
    · refine lv_tableIn (tgt := 366) (off := 326) hx hb dL_law_40 (by rw [c_192]; decide) (by rw [c_192]; decide) (by rw [c_192]; decide) (by decide) ?_
      have hP := hP.sub (ws' := [(q_1, .inr (8, [.ref a_3, .ref a_4, .ref a_5, .ref a_6, .ref a_7, .ref a_8, .ref a_9, .ref a_10, .ref a_11, .int 0, .int 0, .int 0, .int 0, .int 0, .int 0])), (a_6, .inl (j_27, 12, .inl (fun _ => 0))), (q_35, .inr (9, [.int 0, .ref m_37, .int 0, .int 0, .int 0, .ref m_38, .ref m_39, .ref m_40, .int 0, .int 0, .int 0, .int 0, .int 0, .int 0, .long 0, .ref m_41, .ref m_42, .ref m_43, .ref m_44, .ref m_45, .ref m_46, .int 0, .ref m_47, .ref m_48, .ref m_49, .ref m_50, .ref m_51, .ref m_52, .ref m_53, .ref m_54, .ref m_55, .ref m_56, .ref m_57, .ref m_58, .ref m_59, .int 0, .int 0, .ref m_60, .ref m_61, .ref m_62, .ref m_63, .ref m_64, .ref m_65, .ref m_66, .ref m_67, .ref m_68, .ref m_69])), (m_44, .inl (k_fodder_77, 12, .inl (fun _ => 0)))]) [0, 33, 40, 48] rfl
      have hD := hD.sub (ws' := [(q_1, .inr (8, [.ref a_3, .ref a_4, .ref a_5, .ref a_6, .ref a_7, .ref a_8, .ref a_9, .ref a_10, .ref a_11, .int 0, .int 0, .int 0, .int 0, .int 0, .int 0])), (a_6, .inl (j_27, 12, .inl (fun _ => 0))), (q_35, .inr (9, [.int 0, .ref m_37, .int 0, .int 0, .int 0, .ref m_38, .ref m_39, .ref m_40, .int 0, .int 0, .int 0, .int 0, .int 0, .int 0, .long 0, .ref m_41, .ref m_42, .ref m_43, .ref m_44, .ref m_45, .ref m_46, .int 0, .ref m_47, .ref m_48, .ref m_49, .ref m_50, .ref m_51, .ref m_52, .ref m_53, .ref m_54, .ref m_55, .ref m_56, .ref m_57, .ref m_58, .ref m_59, .int 0, .int 0, .ref m_60, .ref m_61, .ref m_62, .ref m_63, .ref m_64, .ref m_65, .ref m_66, .ref m_67, .ref m_68, .ref m_69])), (m_44, .inl (k_fodder_77, 12, .inl (fun _ => 0)))]) [0, 33, 40, 48] (by decide) rfl
      refine lv_aload_n hx hb dL_law_366 rfl (lv_at hl 3 rfl) ?_
      refine lv_aload_n hx hb dL_law_367 rfl (lv_at hl 4 rfl) ?_
      refine lv_iload hx hb dL_law_368 (lv_at hl 0 rfl) ?_
      refine lv_iconst (v := 1) hx hb dL_law_370 (by decide) ?_
      refine lv_iadd hx hb dL_law_371 ?_
      refine lv_topi (fun y_193 ey_193 => ?_)
      obtain rfl : y_193 = 1 := ey_193.trans (by decide)
      refine va_sld hx hb hX hbl hbA hS (by unfold vp_in; decide) dL_law_372 ?_
      refine lv_topi (fun v_194 ev_194 => ?_)
      obtain rfl : v_194 = xs 1 := ev_194.trans rfl
      refine lv_aload_n hx hb dL_law_373 rfl (lv_at hl 4 rfl) ?_
      refine lv_iload hx hb dL_law_374 (lv_at hl 0 rfl) ?_
      refine lv_iconst (v := 2) hx hb dL_law_376 (by decide) ?_
      refine lv_iadd hx hb dL_law_377 ?_
      refine lv_topi (fun y_195 ey_195 => ?_)
      obtain rfl : y_195 = 2 := ey_195.trans (by decide)
      refine va_sld hx hb hX hbl hbA hS (by unfold vp_in; decide) dL_law_378 ?_
      refine lv_topi (fun v_196 ev_196 => ?_)
      obtain rfl : v_196 = xs 2 := ev_196.trans rfl
      have hPc := hP.sub (ws' := [(q_1, .inr (8, [.ref a_3, .ref a_4, .ref a_5, .ref a_6, .ref a_7, .ref a_8, .ref a_9, .ref a_10, .ref a_11, .int 0, .int 0, .int 0, .int 0, .int 0, .int 0])), (a_6, .inl (j_27, 12, .inl (fun _ => 0)))]) [0, 1] rfl
      have hDc := hD.sub (ws' := [(q_1, .inr (8, [.ref a_3, .ref a_4, .ref a_5, .ref a_6, .ref a_7, .ref a_8, .ref a_9, .ref a_10, .ref a_11, .int 0, .int 0, .int 0, .int 0, .int 0, .int 0])), (a_6, .inl (j_27, 12, .inl (fun _ => 0)))]) [0, 1] (by decide) rfl
      have hKc := hK.sub (tys' := [(j_27, .int)]) [7] rfl
      have hFc := va_free (wc := [(q_1, .inr (8, [.ref a_3, .ref a_4, .ref a_5, .ref a_6, .ref a_7, .ref a_8, .ref a_9, .ref a_10, .ref a_11, .int 0, .int 0, .int 0, .int 0, .int 0, .int 0])), (a_6, .inl (j_27, 12, .inl (fun _ => 0)))]) hD hS hA [0, 1] rfl
      refine va_calli (va_runV (As := [.int (xs 1), .int (xs 2)]) (rest := []) ⟨hx, hb, hml, hown, hts⟩ (c_X8_fodder l dC dI q_1 a_3 a_4 a_5 a_6 a_7 a_8 a_9 a_10 a_11 j_27 (xs 1) (xs 2) H.size) (cwV 2 hts gL_law_X8_fodder rfl rfl rfl (by decide +kernel) ⟨Nat.le_of_ble_eq_true rfl, Nat.le_of_ble_eq_true rfl⟩) ⟨c_blind, va_recv hKc hPc (ci := 8) (q0 := 0) rfl rfl, c_pre hPc hKc hDc hN⟩ rfl rfl hl.1 rfl (lv_room (Nat.le_of_ble_eq_true rfl)) dL_law_379 ⟨Nat.le_of_ble_eq_true rfl, Nat.le_of_ble_eq_true rfl⟩) hS (fun q _ h => hFc q h) hFc (fun r_197 u9 t9 H1 locs ht hvm hw hB hz1 hk1 hS => ?_)
      obtain ⟨hP1, hK1, hD1⟩ := hB
      rw [ht] at hP1
      have hK1 := va_K.moved hvm.symm hK1
      obtain ⟨hP, hD⟩ := va_join (wr := [(q_35, .inr (9, [.int 0, .ref m_37, .int 0, .int 0, .int 0, .ref m_38, .ref m_39, .ref m_40, .int 0, .int 0, .int 0, .int 0, .int 0, .int 0, .long 0, .ref m_41, .ref m_42, .ref m_43, .ref m_44, .ref m_45, .ref m_46, .int 0, .ref m_47, .ref m_48, .ref m_49, .ref m_50, .ref m_51, .ref m_52, .ref m_53, .ref m_54, .ref m_55, .ref m_56, .ref m_57, .ref m_58, .ref m_59, .int 0, .int 0, .ref m_60, .ref m_61, .ref m_62, .ref m_63, .ref m_64, .ref m_65, .ref m_66, .ref m_67, .ref m_68, .ref m_69])), (m_44, .inl (k_fodder_77, 12, .inl (fun _ => 0)))]) (w1 := []) hP hD [0, 1] [2, 3] rfl rfl (by decide) (by decide) hk1 hFc hP1 hD1
      have hK := (hK.sub (tys' := [(j_13, .int), (g_19, .array .int), (g_20, .array .int), (ky_21, .int), (kt_22, .int), (kz_23, .boolean), (kr_24, .int), (j_27, .int), (j_28, .object "YamRiders$Horse"), (j_29, .object "YamRiders$Tablet"), (j_30, .object "YamRiders$Rider"), (j_31, .object "YamRiders$Rider"), (j_33, .int), (k_tape_70, .byte), (k_law_71, .int), (k_fresh_72, .int), (k_isTold_73, .boolean), (k_hours_74, .int), (k_snow_75, .int), (k_least_76, .int), (k_fodder_77, .int), (k_strength_78, .int), (k_stands_79, .int), (k_rank_80, .int), (k_voidSince_81, .int), (k_newsSince_82, .int), (k_ways_83, .int), (k_wayMany_84, .int), (k_tabletOf_85, .int), (k_state_86, .int), (k_come_87, .int), (k_cameIn_88, .int), (k_horseOf_89, .int), (k_due_90, .int), (k_time_91, .int), (k_brings_92, .int), (k_loose_93, .boolean), (k_asked_94, .boolean), (k_led_95, .int), (k_cost_96, .int), (k_left_97, .int), (k_wants_98, .int), (k_toGiver_99, .int), (k_toTaker_100, .int), (k_giverBy_101, .int), (k_takerBy_102, .int), (k_105, .long)]) [0, 1, 2, 3, 4, 5, 6, 7, 8, 9, 10, 11, 12, 13, 14, 15, 16, 17, 18, 19, 20, 21, 22, 23, 24, 25, 26, 27, 28, 29, 30, 31, 32, 33, 34, 35, 36, 37, 38, 39, 40, 41, 42, 43, 44, 45, 46] rfl).app hK1
      generalize H1 = H at hP hS ⊢
      have hK : va_K (dC, dI) vwCl [(j_13, .int), (g_19, .array .int), (g_20, .array .int), (ky_21, .int), (kt_22, .int), (kz_23, .boolean), (kr_24, .int), (j_27, .int), (j_28, .object "YamRiders$Horse"), (j_29, .object "YamRiders$Tablet"), (j_30, .object "YamRiders$Rider"), (j_31, .object "YamRiders$Rider"), (j_33, .int), (k_tape_70, .byte), (k_law_71, .int), (k_fresh_72, .int), (k_isTold_73, .boolean), (k_hours_74, .int), (k_snow_75, .int), (k_least_76, .int), (k_fodder_77, .int), (k_strength_78, .int), (k_stands_79, .int), (k_rank_80, .int), (k_voidSince_81, .int), (k_newsSince_82, .int), (k_ways_83, .int), (k_wayMany_84, .int), (k_tabletOf_85, .int), (k_state_86, .int), (k_come_87, .int), (k_cameIn_88, .int), (k_horseOf_89, .int), (k_due_90, .int), (k_time_91, .int), (k_brings_92, .int), (k_loose_93, .boolean), (k_asked_94, .boolean), (k_led_95, .int), (k_cost_96, .int), (k_left_97, .int), (k_wants_98, .int), (k_toGiver_99, .int), (k_toTaker_100, .int), (k_giverBy_101, .int), (k_takerBy_102, .int), (k_105, .long)] s := hK
      have hP : va_P (dC, dI) vwCl [(q_35, .inr (9, [.int 0, .ref m_37, .int 0, .int 0, .int 0, .ref m_38, .ref m_39, .ref m_40, .int 0, .int 0, .int 0, .int 0, .int 0, .int 0, .long 0, .ref m_41, .ref m_42, .ref m_43, .ref m_44, .ref m_45, .ref m_46, .int 0, .ref m_47, .ref m_48, .ref m_49, .ref m_50, .ref m_51, .ref m_52, .ref m_53, .ref m_54, .ref m_55, .ref m_56, .ref m_57, .ref m_58, .ref m_59, .int 0, .int 0, .ref m_60, .ref m_61, .ref m_62, .ref m_63, .ref m_64, .ref m_65, .ref m_66, .ref m_67, .ref m_68, .ref m_69])), (m_44, .inl (k_fodder_77, 12, .inl (fun _ => 0)))] H := hP
      have hD : va_D (fun q : Nat => s.heap.size ≤ q) [(q_35, .inr (9, [.int 0, .ref m_37, .int 0, .int 0, .int 0, .ref m_38, .ref m_39, .ref m_40, .int 0, .int 0, .int 0, .int 0, .int 0, .int 0, .long 0, .ref m_41, .ref m_42, .ref m_43, .ref m_44, .ref m_45, .ref m_46, .int 0, .ref m_47, .ref m_48, .ref m_49, .ref m_50, .ref m_51, .ref m_52, .ref m_53, .ref m_54, .ref m_55, .ref m_56, .ref m_57, .ref m_58, .ref m_59, .int 0, .int 0, .ref m_60, .ref m_61, .ref m_62, .ref m_63, .ref m_64, .ref m_65, .ref m_66, .ref m_67, .ref m_68, .ref m_69])), (m_44, .inl (k_fodder_77, 12, .inl (fun _ => 0)))] := hD
      try dsimp only at hw
      subst hw
      refine W.widen (k := 102) (n := 4433) (Nat.le_of_ble_eq_true rfl) (Nat.le_of_ble_eq_true rfl) ?_
      refine lv_aload_n hx hb dL_law_382 rfl (lv_at hl 2 rfl) ?_
      refine lv_aload_n hx hb dL_law_383 rfl (lv_at hl 4 rfl) ?_
      refine lv_iload hx hb dL_law_384 (lv_at hl 0 rfl) ?_
      refine lv_iconst (v := 1) hx hb dL_law_386 (by decide) ?_
      refine lv_iadd hx hb dL_law_387 ?_
      refine lv_topi (fun y_198 ey_198 => ?_)
      obtain rfl : y_198 = 1 := ey_198.trans (by decide)
      refine va_sld hx hb hX hbl hbA hS (by unfold vp_in; decide) dL_law_388 ?_
      refine lv_topi (fun v_199 ev_199 => ?_)
      obtain rfl : v_199 = xs 1 := ev_199.trans rfl
      refine lv_aload_n hx hb dL_law_389 rfl (lv_at hl 4 rfl) ?_
      refine lv_iload hx hb dL_law_390 (lv_at hl 0 rfl) ?_
      refine lv_iconst (v := 2) hx hb dL_law_392 (by decide) ?_
      refine lv_iadd hx hb dL_law_393 ?_
      refine lv_topi (fun y_200 ey_200 => ?_)
      obtain rfl : y_200 = 2 := ey_200.trans (by decide)
      refine va_sld hx hb hX hbl hbA hS (by unfold vp_in; decide) dL_law_394 ?_
      refine lv_topi (fun v_201 ev_201 => ?_)
      obtain rfl : v_201 = xs 2 := ev_201.trans rfl
      have hPc := hP.sub (ws' := [(q_35, .inr (9, [.int 0, .ref m_37, .int 0, .int 0, .int 0, .ref m_38, .ref m_39, .ref m_40, .int 0, .int 0, .int 0, .int 0, .int 0, .int 0, .long 0, .ref m_41, .ref m_42, .ref m_43, .ref m_44, .ref m_45, .ref m_46, .int 0, .ref m_47, .ref m_48, .ref m_49, .ref m_50, .ref m_51, .ref m_52, .ref m_53, .ref m_54, .ref m_55, .ref m_56, .ref m_57, .ref m_58, .ref m_59, .int 0, .int 0, .ref m_60, .ref m_61, .ref m_62, .ref m_63, .ref m_64, .ref m_65, .ref m_66, .ref m_67, .ref m_68, .ref m_69])), (m_44, .inl (k_fodder_77, 12, .inl (fun _ => 0)))]) [0, 1] rfl
      have hDc := hD.sub (ws' := [(q_35, .inr (9, [.int 0, .ref m_37, .int 0, .int 0, .int 0, .ref m_38, .ref m_39, .ref m_40, .int 0, .int 0, .int 0, .int 0, .int 0, .int 0, .long 0, .ref m_41, .ref m_42, .ref m_43, .ref m_44, .ref m_45, .ref m_46, .int 0, .ref m_47, .ref m_48, .ref m_49, .ref m_50, .ref m_51, .ref m_52, .ref m_53, .ref m_54, .ref m_55, .ref m_56, .ref m_57, .ref m_58, .ref m_59, .int 0, .int 0, .ref m_60, .ref m_61, .ref m_62, .ref m_63, .ref m_64, .ref m_65, .ref m_66, .ref m_67, .ref m_68, .ref m_69])), (m_44, .inl (k_fodder_77, 12, .inl (fun _ => 0)))]) [0, 1] (by decide) rfl
      have hKc := hK.sub (tys' := [(k_fodder_77, .int)]) [20] rfl
      have hFc := va_free (wc := [(q_35, .inr (9, [.int 0, .ref m_37, .int 0, .int 0, .int 0, .ref m_38, .ref m_39, .ref m_40, .int 0, .int 0, .int 0, .int 0, .int 0, .int 0, .long 0, .ref m_41, .ref m_42, .ref m_43, .ref m_44, .ref m_45, .ref m_46, .int 0, .ref m_47, .ref m_48, .ref m_49, .ref m_50, .ref m_51, .ref m_52, .ref m_53, .ref m_54, .ref m_55, .ref m_56, .ref m_57, .ref m_58, .ref m_59, .int 0, .int 0, .ref m_60, .ref m_61, .ref m_62, .ref m_63, .ref m_64, .ref m_65, .ref m_66, .ref m_67, .ref m_68, .ref m_69])), (m_44, .inl (k_fodder_77, 12, .inl (fun _ => 0)))]) hD hS hA [0, 1] rfl
      refine va_calli (va_runV (As := [.int (xs 1), .int (xs 2)]) (rest := [.int (if (sp_st (xs 1)) = 0 then (-1) else (if (xs 2) < 1 then (-1) else (if 10000 < (xs 2) then (-1) else (if (0 + (xs 2)) ≤ 100000 then 0 + (xs 2) else (-1)))))]) ⟨hx, hb, hml, hown, hts⟩ (c_X9_fodder l dC dI q_35 m_37 m_38 m_39 m_40 m_41 m_42 m_43 m_44 m_45 m_46 m_47 m_48 m_49 m_50 m_51 m_52 m_53 m_54 m_55 m_56 m_57 m_58 m_59 m_60 m_61 m_62 m_63 m_64 m_65 m_66 m_67 m_68 m_69 k_fodder_77 (xs 1) (xs 2) H.size) (cwV 2 hts gL_law_X9_fodder rfl rfl rfl (by decide +kernel) ⟨Nat.le_of_ble_eq_true rfl, Nat.le_of_ble_eq_true rfl⟩) ⟨c_blind, va_recv hKc hPc (ci := 9) (q0 := 0) rfl rfl, c_pre hPc hKc hDc hN⟩ rfl rfl hl.1 rfl (lv_room (Nat.le_of_ble_eq_true rfl)) dL_law_395 ⟨Nat.le_of_ble_eq_true rfl, Nat.le_of_ble_eq_true rfl⟩) hS (fun q _ h => hFc q h) hFc (fun r_202 u9 t9 H1 locs ht hvm hw hB hz1 hk1 hS => ?_)
      obtain ⟨hP1, hK1, hD1⟩ := hB
      rw [ht] at hP1
      have hK1 := va_K.moved hvm.symm hK1
      obtain ⟨hP, hD⟩ := va_join (wr := []) (w1 := []) hP hD [0, 1] [] rfl rfl (by decide) (by decide) hk1 hFc hP1 hD1
      have hK := (hK.sub (tys' := [(j_13, .int), (g_19, .array .int), (g_20, .array .int), (ky_21, .int), (kt_22, .int), (kz_23, .boolean), (kr_24, .int), (j_27, .int), (j_28, .object "YamRiders$Horse"), (j_29, .object "YamRiders$Tablet"), (j_30, .object "YamRiders$Rider"), (j_31, .object "YamRiders$Rider"), (j_33, .int), (k_tape_70, .byte), (k_law_71, .int), (k_fresh_72, .int), (k_isTold_73, .boolean), (k_hours_74, .int), (k_snow_75, .int), (k_least_76, .int), (k_fodder_77, .int), (k_strength_78, .int), (k_stands_79, .int), (k_rank_80, .int), (k_voidSince_81, .int), (k_newsSince_82, .int), (k_ways_83, .int), (k_wayMany_84, .int), (k_tabletOf_85, .int), (k_state_86, .int), (k_come_87, .int), (k_cameIn_88, .int), (k_horseOf_89, .int), (k_due_90, .int), (k_time_91, .int), (k_brings_92, .int), (k_loose_93, .boolean), (k_asked_94, .boolean), (k_led_95, .int), (k_cost_96, .int), (k_left_97, .int), (k_wants_98, .int), (k_toGiver_99, .int), (k_toTaker_100, .int), (k_giverBy_101, .int), (k_takerBy_102, .int), (k_105, .long)]) [0, 1, 2, 3, 4, 5, 6, 7, 8, 9, 10, 11, 12, 13, 14, 15, 16, 17, 18, 19, 20, 21, 22, 23, 24, 25, 26, 27, 28, 29, 30, 31, 32, 33, 34, 35, 36, 37, 38, 39, 40, 41, 42, 43, 44, 45, 46] rfl).app hK1
      generalize H1 = H at hP hS ⊢
      have hK : va_K (dC, dI) vwCl [(j_13, .int), (g_19, .array .int), (g_20, .array .int), (ky_21, .int), (kt_22, .int), (kz_23, .boolean), (kr_24, .int), (j_27, .int), (j_28, .object "YamRiders$Horse"), (j_29, .object "YamRiders$Tablet"), (j_30, .object "YamRiders$Rider"), (j_31, .object "YamRiders$Rider"), (j_33, .int), (k_tape_70, .byte), (k_law_71, .int), (k_fresh_72, .int), (k_isTold_73, .boolean), (k_hours_74, .int), (k_snow_75, .int), (k_least_76, .int), (k_fodder_77, .int), (k_strength_78, .int), (k_stands_79, .int), (k_rank_80, .int), (k_voidSince_81, .int), (k_newsSince_82, .int), (k_ways_83, .int), (k_wayMany_84, .int), (k_tabletOf_85, .int), (k_state_86, .int), (k_come_87, .int), (k_cameIn_88, .int), (k_horseOf_89, .int), (k_due_90, .int), (k_time_91, .int), (k_brings_92, .int), (k_loose_93, .boolean), (k_asked_94, .boolean), (k_led_95, .int), (k_cost_96, .int), (k_left_97, .int), (k_wants_98, .int), (k_toGiver_99, .int), (k_toTaker_100, .int), (k_giverBy_101, .int), (k_takerBy_102, .int), (k_105, .long)] s := hK
      have hP : va_P (dC, dI) vwCl [] H := hP
      have hD : va_D (fun q : Nat => s.heap.size ≤ q) [] := hD
      try dsimp only at hw
      subst hw
      refine W.widen (k := 102) (n := 4433) (Nat.le_of_ble_eq_true rfl) (Nat.le_of_ble_eq_true rfl) ?_
      refine lv_icmp_eq (tgt := 948) hx hb dL_law_398 (by decide) (fun _ => ?_) (fun c_203 => by first | exact absurd c_203 rfl | exact absurd rfl c_203)
      refine lv_iinc (v := 6) (lv' := [(4, .int 6), (3, .ref q_104), (2, .ref q_35), (1, .ref q_1), (0, .ref b)]) hx hb dL_law_948 hl (k := 0) rfl (by decide) (by decide) rfl (fun ls hl => ?_)
      refine lv_goto (tgt := 23) hx hb dL_law_951 (by decide) ?_
      refine lv_iload hx hb dL_law_23 (lv_at hl 0 rfl) ?_
      refine lv_aload_n hx hb dL_law_25 rfl (lv_at hl 4 rfl) ?_
      refine va_slen hx hb hX hbl hbA hS dL_law_26 ?_
      refine lv_bipush (v := 6) hx hb dL_law_27 (by decide) ?_
      refine lv_isub hx hb dL_law_29 ?_
      refine lv_topi (fun y_204 ey_204 => ?_)
      obtain rfl : y_204 = 0 := ey_204.trans (by decide)
      refine lv_icmp_gt (tgt := 954) hx hb dL_law_30 (by decide) (fun _ => ?_) (fun c_205 => by first | exact absurd c_205 (by decide) | exact absurd (by decide) c_205)
      refine lv_iconst (v := 1) hx hb dL_law_954 (by decide) ?_
      refine va_forget (fun q hq => hS.2.2 q hq) ?_
      refine W.widen (k := 600002) (n := 7302232) (Nat.le_of_ble_eq_true rfl) (Nat.le_of_ble_eq_true rfl) ?_
      exact lw_ret hx hb hr hlocks dL_law_955
    by_cases c_206 : (xs 0) &&& 31 = 7
    · refine lv_tableIn (tgt := 403) (off := 363) hx hb dL_law_40 (by rw [c_206]; decide) (by rw [c_206]; decide) (by rw [c_206]; decide) (by decide) ?_
      have hP := hP.sub (ws' := [(q_1, .inr (8, [.ref a_3, .ref a_4, .ref a_5, .ref a_6, .ref a_7, .ref a_8, .ref a_9, .ref a_10, .ref a_11, .int 0, .int 0, .int 0, .int 0, .int 0, .int 0])), (a_7, .inl (j_28, 60, .inr (.inr (.inr (.inr (fun _ => none)))))), (q_35, .inr (9, [.int 0, .ref m_37, .int 0, .int 0, .int 0, .ref m_38, .ref m_39, .ref m_40, .int 0, .int 0, .int 0, .int 0, .int 0, .int 0, .long 0, .ref m_41, .ref m_42, .ref m_43, .ref m_44, .ref m_45, .ref m_46, .int 0, .ref m_47, .ref m_48, .ref m_49, .ref m_50, .ref m_51, .ref m_52, .ref m_53, .ref m_54, .ref m_55, .ref m_56, .ref m_57, .ref m_58, .ref m_59, .int 0, .int 0, .ref m_60, .ref m_61, .ref m_62, .ref m_63, .ref m_64, .ref m_65, .ref m_66, .ref m_67, .ref m_68, .ref m_69])), (m_45, .inl (k_strength_78, 60, .inl (fun _ => 0))), (m_46, .inl (k_stands_79, 60, .inl (fun _ => 0)))]) [0, 34, 40, 49, 50] rfl
      have hD := hD.sub (ws' := [(q_1, .inr (8, [.ref a_3, .ref a_4, .ref a_5, .ref a_6, .ref a_7, .ref a_8, .ref a_9, .ref a_10, .ref a_11, .int 0, .int 0, .int 0, .int 0, .int 0, .int 0])), (a_7, .inl (j_28, 60, .inr (.inr (.inr (.inr (fun _ => none)))))), (q_35, .inr (9, [.int 0, .ref m_37, .int 0, .int 0, .int 0, .ref m_38, .ref m_39, .ref m_40, .int 0, .int 0, .int 0, .int 0, .int 0, .int 0, .long 0, .ref m_41, .ref m_42, .ref m_43, .ref m_44, .ref m_45, .ref m_46, .int 0, .ref m_47, .ref m_48, .ref m_49, .ref m_50, .ref m_51, .ref m_52, .ref m_53, .ref m_54, .ref m_55, .ref m_56, .ref m_57, .ref m_58, .ref m_59, .int 0, .int 0, .ref m_60, .ref m_61, .ref m_62, .ref m_63, .ref m_64, .ref m_65, .ref m_66, .ref m_67, .ref m_68, .ref m_69])), (m_45, .inl (k_strength_78, 60, .inl (fun _ => 0))), (m_46, .inl (k_stands_79, 60, .inl (fun _ => 0)))]) [0, 34, 40, 49, 50] (by decide) rfl
      refine lv_aload_n hx hb dL_law_403 rfl (lv_at hl 3 rfl) ?_
      refine lv_aload_n hx hb dL_law_404 rfl (lv_at hl 4 rfl) ?_
      refine lv_iload hx hb dL_law_405 (lv_at hl 0 rfl) ?_
      refine lv_iconst (v := 1) hx hb dL_law_407 (by decide) ?_
      refine lv_iadd hx hb dL_law_408 ?_
      refine lv_topi (fun y_207 ey_207 => ?_)
      obtain rfl : y_207 = 1 := ey_207.trans (by decide)
      refine va_sld hx hb hX hbl hbA hS (by unfold vp_in; decide) dL_law_409 ?_
      refine lv_topi (fun v_208 ev_208 => ?_)
      obtain rfl : v_208 = xs 1 := ev_208.trans rfl
      refine lv_aload_n hx hb dL_law_410 rfl (lv_at hl 4 rfl) ?_
      refine lv_iload hx hb dL_law_411 (lv_at hl 0 rfl) ?_
      refine lv_iconst (v := 2) hx hb dL_law_413 (by decide) ?_
      refine lv_iadd hx hb dL_law_414 ?_
      refine lv_topi (fun y_209 ey_209 => ?_)
      obtain rfl : y_209 = 2 := ey_209.trans (by decide)
      refine va_sld hx hb hX hbl hbA hS (by unfold vp_in; decide) dL_law_415 ?_
      refine lv_topi (fun v_210 ev_210 => ?_)
      obtain rfl : v_210 = xs 2 := ev_210.trans rfl
      have hPc := hP.sub (ws' := [(q_1, .inr (8, [.ref a_3, .ref a_4, .ref a_5, .ref a_6, .ref a_7, .ref a_8, .ref a_9, .ref a_10, .ref a_11, .int 0, .int 0, .int 0, .int 0, .int 0, .int 0])), (a_7, .inl (j_28, 60, .inr (.inr (.inr (.inr (fun _ => none))))))]) [0, 1] rfl
      have hDc := hD.sub (ws' := [(q_1, .inr (8, [.ref a_3, .ref a_4, .ref a_5, .ref a_6, .ref a_7, .ref a_8, .ref a_9, .ref a_10, .ref a_11, .int 0, .int 0, .int 0, .int 0, .int 0, .int 0])), (a_7, .inl (j_28, 60, .inr (.inr (.inr (.inr (fun _ => none))))))]) [0, 1] (by decide) rfl
      have hKc := hK.sub (tys' := [(j_28, .object "YamRiders$Horse")]) [8] rfl
      have hFc := va_free (wc := [(q_1, .inr (8, [.ref a_3, .ref a_4, .ref a_5, .ref a_6, .ref a_7, .ref a_8, .ref a_9, .ref a_10, .ref a_11, .int 0, .int 0, .int 0, .int 0, .int 0, .int 0])), (a_7, .inl (j_28, 60, .inr (.inr (.inr (.inr (fun _ => none))))))]) hD hS hA [0, 1] rfl
      refine va_calli (va_runV (As := [.int (xs 1), .int (xs 2)]) (rest := []) ⟨hx, hb, hml, hown, hts⟩ (c_X8_horse l dC dI q_1 a_3 a_4 a_5 a_6 a_7 a_8 a_9 a_10 a_11 j_28 (xs 1) (xs 2) H.size) (cwV 2 hts gL_law_X8_horse rfl rfl rfl (by decide +kernel) ⟨Nat.le_of_ble_eq_true rfl, Nat.le_of_ble_eq_true rfl⟩) ⟨c_blind, va_recv hKc hPc (ci := 8) (q0 := 0) rfl rfl, c_pre hPc hKc hDc hN⟩ rfl rfl hl.1 rfl (lv_room (Nat.le_of_ble_eq_true rfl)) dL_law_416 ⟨Nat.le_of_ble_eq_true rfl, Nat.le_of_ble_eq_true rfl⟩) hS (fun q _ h => hFc q h) hFc (fun r_211 u9 t9 H1 locs ht hvm hw hB hz1 hk1 hS => ?_)
      obtain ⟨hP1, hK1, hD1⟩ := hB
      rw [ht] at hP1
      have hK1 := va_K.moved hvm.symm hK1
      obtain ⟨hP, hD⟩ := va_join (wr := [(q_35, .inr (9, [.int 0, .ref m_37, .int 0, .int 0, .int 0, .ref m_38, .ref m_39, .ref m_40, .int 0, .int 0, .int 0, .int 0, .int 0, .int 0, .long 0, .ref m_41, .ref m_42, .ref m_43, .ref m_44, .ref m_45, .ref m_46, .int 0, .ref m_47, .ref m_48, .ref m_49, .ref m_50, .ref m_51, .ref m_52, .ref m_53, .ref m_54, .ref m_55, .ref m_56, .ref m_57, .ref m_58, .ref m_59, .int 0, .int 0, .ref m_60, .ref m_61, .ref m_62, .ref m_63, .ref m_64, .ref m_65, .ref m_66, .ref m_67, .ref m_68, .ref m_69])), (m_45, .inl (k_strength_78, 60, .inl (fun _ => 0))), (m_46, .inl (k_stands_79, 60, .inl (fun _ => 0)))]) (w1 := []) hP hD [0, 1] [2, 3, 4] rfl rfl (by decide) (by decide) hk1 hFc hP1 hD1
      have hK := (hK.sub (tys' := [(j_13, .int), (g_19, .array .int), (g_20, .array .int), (ky_21, .int), (kt_22, .int), (kz_23, .boolean), (kr_24, .int), (j_27, .int), (j_28, .object "YamRiders$Horse"), (j_29, .object "YamRiders$Tablet"), (j_30, .object "YamRiders$Rider"), (j_31, .object "YamRiders$Rider"), (j_33, .int), (k_tape_70, .byte), (k_law_71, .int), (k_fresh_72, .int), (k_isTold_73, .boolean), (k_hours_74, .int), (k_snow_75, .int), (k_least_76, .int), (k_fodder_77, .int), (k_strength_78, .int), (k_stands_79, .int), (k_rank_80, .int), (k_voidSince_81, .int), (k_newsSince_82, .int), (k_ways_83, .int), (k_wayMany_84, .int), (k_tabletOf_85, .int), (k_state_86, .int), (k_come_87, .int), (k_cameIn_88, .int), (k_horseOf_89, .int), (k_due_90, .int), (k_time_91, .int), (k_brings_92, .int), (k_loose_93, .boolean), (k_asked_94, .boolean), (k_led_95, .int), (k_cost_96, .int), (k_left_97, .int), (k_wants_98, .int), (k_toGiver_99, .int), (k_toTaker_100, .int), (k_giverBy_101, .int), (k_takerBy_102, .int), (k_105, .long)]) [0, 1, 2, 3, 4, 5, 6, 7, 8, 9, 10, 11, 12, 13, 14, 15, 16, 17, 18, 19, 20, 21, 22, 23, 24, 25, 26, 27, 28, 29, 30, 31, 32, 33, 34, 35, 36, 37, 38, 39, 40, 41, 42, 43, 44, 45, 46] rfl).app hK1
      generalize H1 = H at hP hS ⊢
      have hK : va_K (dC, dI) vwCl [(j_13, .int), (g_19, .array .int), (g_20, .array .int), (ky_21, .int), (kt_22, .int), (kz_23, .boolean), (kr_24, .int), (j_27, .int), (j_28, .object "YamRiders$Horse"), (j_29, .object "YamRiders$Tablet"), (j_30, .object "YamRiders$Rider"), (j_31, .object "YamRiders$Rider"), (j_33, .int), (k_tape_70, .byte), (k_law_71, .int), (k_fresh_72, .int), (k_isTold_73, .boolean), (k_hours_74, .int), (k_snow_75, .int), (k_least_76, .int), (k_fodder_77, .int), (k_strength_78, .int), (k_stands_79, .int), (k_rank_80, .int), (k_voidSince_81, .int), (k_newsSince_82, .int), (k_ways_83, .int), (k_wayMany_84, .int), (k_tabletOf_85, .int), (k_state_86, .int), (k_come_87, .int), (k_cameIn_88, .int), (k_horseOf_89, .int), (k_due_90, .int), (k_time_91, .int), (k_brings_92, .int), (k_loose_93, .boolean), (k_asked_94, .boolean), (k_led_95, .int), (k_cost_96, .int), (k_left_97, .int), (k_wants_98, .int), (k_toGiver_99, .int), (k_toTaker_100, .int), (k_giverBy_101, .int), (k_takerBy_102, .int), (k_105, .long)] s := hK
      have hP : va_P (dC, dI) vwCl [(q_35, .inr (9, [.int 0, .ref m_37, .int 0, .int 0, .int 0, .ref m_38, .ref m_39, .ref m_40, .int 0, .int 0, .int 0, .int 0, .int 0, .int 0, .long 0, .ref m_41, .ref m_42, .ref m_43, .ref m_44, .ref m_45, .ref m_46, .int 0, .ref m_47, .ref m_48, .ref m_49, .ref m_50, .ref m_51, .ref m_52, .ref m_53, .ref m_54, .ref m_55, .ref m_56, .ref m_57, .ref m_58, .ref m_59, .int 0, .int 0, .ref m_60, .ref m_61, .ref m_62, .ref m_63, .ref m_64, .ref m_65, .ref m_66, .ref m_67, .ref m_68, .ref m_69])), (m_45, .inl (k_strength_78, 60, .inl (fun _ => 0))), (m_46, .inl (k_stands_79, 60, .inl (fun _ => 0)))] H := hP
      have hD : va_D (fun q : Nat => s.heap.size ≤ q) [(q_35, .inr (9, [.int 0, .ref m_37, .int 0, .int 0, .int 0, .ref m_38, .ref m_39, .ref m_40, .int 0, .int 0, .int 0, .int 0, .int 0, .int 0, .long 0, .ref m_41, .ref m_42, .ref m_43, .ref m_44, .ref m_45, .ref m_46, .int 0, .ref m_47, .ref m_48, .ref m_49, .ref m_50, .ref m_51, .ref m_52, .ref m_53, .ref m_54, .ref m_55, .ref m_56, .ref m_57, .ref m_58, .ref m_59, .int 0, .int 0, .ref m_60, .ref m_61, .ref m_62, .ref m_63, .ref m_64, .ref m_65, .ref m_66, .ref m_67, .ref m_68, .ref m_69])), (m_45, .inl (k_strength_78, 60, .inl (fun _ => 0))), (m_46, .inl (k_stands_79, 60, .inl (fun _ => 0)))] := hD
      try dsimp only at hw
      subst hw
      refine W.widen (k := 103) (n := 4436) (Nat.le_of_ble_eq_true rfl) (Nat.le_of_ble_eq_true rfl) ?_
      refine lv_aload_n hx hb dL_law_419 rfl (lv_at hl 2 rfl) ?_
      refine lv_aload_n hx hb dL_law_420 rfl (lv_at hl 4 rfl) ?_
      refine lv_iload hx hb dL_law_421 (lv_at hl 0 rfl) ?_
      refine lv_iconst (v := 1) hx hb dL_law_423 (by decide) ?_
      refine lv_iadd hx hb dL_law_424 ?_
      refine lv_topi (fun y_212 ey_212 => ?_)
      obtain rfl : y_212 = 1 := ey_212.trans (by decide)
      refine va_sld hx hb hX hbl hbA hS (by unfold vp_in; decide) dL_law_425 ?_
      refine lv_topi (fun v_213 ev_213 => ?_)
      obtain rfl : v_213 = xs 1 := ev_213.trans rfl
      refine lv_aload_n hx hb dL_law_426 rfl (lv_at hl 4 rfl) ?_
      refine lv_iload hx hb dL_law_427 (lv_at hl 0 rfl) ?_
      refine lv_iconst (v := 2) hx hb dL_law_429 (by decide) ?_
      refine lv_iadd hx hb dL_law_430 ?_
      refine lv_topi (fun y_214 ey_214 => ?_)
      obtain rfl : y_214 = 2 := ey_214.trans (by decide)
      refine va_sld hx hb hX hbl hbA hS (by unfold vp_in; decide) dL_law_431 ?_
      refine lv_topi (fun v_215 ev_215 => ?_)
      obtain rfl : v_215 = xs 2 := ev_215.trans rfl
      have hPc := hP.sub (ws' := [(q_35, .inr (9, [.int 0, .ref m_37, .int 0, .int 0, .int 0, .ref m_38, .ref m_39, .ref m_40, .int 0, .int 0, .int 0, .int 0, .int 0, .int 0, .long 0, .ref m_41, .ref m_42, .ref m_43, .ref m_44, .ref m_45, .ref m_46, .int 0, .ref m_47, .ref m_48, .ref m_49, .ref m_50, .ref m_51, .ref m_52, .ref m_53, .ref m_54, .ref m_55, .ref m_56, .ref m_57, .ref m_58, .ref m_59, .int 0, .int 0, .ref m_60, .ref m_61, .ref m_62, .ref m_63, .ref m_64, .ref m_65, .ref m_66, .ref m_67, .ref m_68, .ref m_69])), (m_45, .inl (k_strength_78, 60, .inl (fun _ => 0))), (m_46, .inl (k_stands_79, 60, .inl (fun _ => 0)))]) [0, 1, 2] rfl
      have hDc := hD.sub (ws' := [(q_35, .inr (9, [.int 0, .ref m_37, .int 0, .int 0, .int 0, .ref m_38, .ref m_39, .ref m_40, .int 0, .int 0, .int 0, .int 0, .int 0, .int 0, .long 0, .ref m_41, .ref m_42, .ref m_43, .ref m_44, .ref m_45, .ref m_46, .int 0, .ref m_47, .ref m_48, .ref m_49, .ref m_50, .ref m_51, .ref m_52, .ref m_53, .ref m_54, .ref m_55, .ref m_56, .ref m_57, .ref m_58, .ref m_59, .int 0, .int 0, .ref m_60, .ref m_61, .ref m_62, .ref m_63, .ref m_64, .ref m_65, .ref m_66, .ref m_67, .ref m_68, .ref m_69])), (m_45, .inl (k_strength_78, 60, .inl (fun _ => 0))), (m_46, .inl (k_stands_79, 60, .inl (fun _ => 0)))]) [0, 1, 2] (by decide) rfl
      have hKc := hK.sub (tys' := [(k_strength_78, .int), (k_stands_79, .int)]) [21, 22] rfl
      have hFc := va_free (wc := [(q_35, .inr (9, [.int 0, .ref m_37, .int 0, .int 0, .int 0, .ref m_38, .ref m_39, .ref m_40, .int 0, .int 0, .int 0, .int 0, .int 0, .int 0, .long 0, .ref m_41, .ref m_42, .ref m_43, .ref m_44, .ref m_45, .ref m_46, .int 0, .ref m_47, .ref m_48, .ref m_49, .ref m_50, .ref m_51, .ref m_52, .ref m_53, .ref m_54, .ref m_55, .ref m_56, .ref m_57, .ref m_58, .ref m_59, .int 0, .int 0, .ref m_60, .ref m_61, .ref m_62, .ref m_63, .ref m_64, .ref m_65, .ref m_66, .ref m_67, .ref m_68, .ref m_69])), (m_45, .inl (k_strength_78, 60, .inl (fun _ => 0))), (m_46, .inl (k_stands_79, 60, .inl (fun _ => 0)))]) hD hS hA [0, 1, 2] rfl
      refine va_calli (va_runV (As := [.int (xs 1), .int (xs 2)]) (rest := [.int (if (sp_st (xs 1)) = 0 then (-1) else (if (xs 2) < 0 then (-1) else (if (xs 2) ≤ 100 then 0 else (-1))))]) ⟨hx, hb, hml, hown, hts⟩ (c_X9_horse l dC dI q_35 m_37 m_38 m_39 m_40 m_41 m_42 m_43 m_44 m_45 m_46 m_47 m_48 m_49 m_50 m_51 m_52 m_53 m_54 m_55 m_56 m_57 m_58 m_59 m_60 m_61 m_62 m_63 m_64 m_65 m_66 m_67 m_68 m_69 k_strength_78 k_stands_79 (xs 1) (xs 2) H.size) (cwV 2 hts gL_law_X9_horse rfl rfl rfl (by decide +kernel) ⟨Nat.le_of_ble_eq_true rfl, Nat.le_of_ble_eq_true rfl⟩) ⟨c_blind, va_recv hKc hPc (ci := 9) (q0 := 0) rfl rfl, c_pre hPc hKc hDc hN⟩ rfl rfl hl.1 rfl (lv_room (Nat.le_of_ble_eq_true rfl)) dL_law_432 ⟨Nat.le_of_ble_eq_true rfl, Nat.le_of_ble_eq_true rfl⟩) hS (fun q _ h => hFc q h) hFc (fun r_216 u9 t9 H1 locs ht hvm hw hB hz1 hk1 hS => ?_)
      obtain ⟨hP1, hK1, hD1⟩ := hB
      rw [ht] at hP1
      have hK1 := va_K.moved hvm.symm hK1
      obtain ⟨hP, hD⟩ := va_join (wr := []) (w1 := []) hP hD [0, 1, 2] [] rfl rfl (by decide) (by decide) hk1 hFc hP1 hD1
      have hK := (hK.sub (tys' := [(j_13, .int), (g_19, .array .int), (g_20, .array .int), (ky_21, .int), (kt_22, .int), (kz_23, .boolean), (kr_24, .int), (j_27, .int), (j_28, .object "YamRiders$Horse"), (j_29, .object "YamRiders$Tablet"), (j_30, .object "YamRiders$Rider"), (j_31, .object "YamRiders$Rider"), (j_33, .int), (k_tape_70, .byte), (k_law_71, .int), (k_fresh_72, .int), (k_isTold_73, .boolean), (k_hours_74, .int), (k_snow_75, .int), (k_least_76, .int), (k_fodder_77, .int), (k_strength_78, .int), (k_stands_79, .int), (k_rank_80, .int), (k_voidSince_81, .int), (k_newsSince_82, .int), (k_ways_83, .int), (k_wayMany_84, .int), (k_tabletOf_85, .int), (k_state_86, .int), (k_come_87, .int), (k_cameIn_88, .int), (k_horseOf_89, .int), (k_due_90, .int), (k_time_91, .int), (k_brings_92, .int), (k_loose_93, .boolean), (k_asked_94, .boolean), (k_led_95, .int), (k_cost_96, .int), (k_left_97, .int), (k_wants_98, .int), (k_toGiver_99, .int), (k_toTaker_100, .int), (k_giverBy_101, .int), (k_takerBy_102, .int), (k_105, .long)]) [0, 1, 2, 3, 4, 5, 6, 7, 8, 9, 10, 11, 12, 13, 14, 15, 16, 17, 18, 19, 20, 21, 22, 23, 24, 25, 26, 27, 28, 29, 30, 31, 32, 33, 34, 35, 36, 37, 38, 39, 40, 41, 42, 43, 44, 45, 46] rfl).app hK1
      generalize H1 = H at hP hS ⊢
      have hK : va_K (dC, dI) vwCl [(j_13, .int), (g_19, .array .int), (g_20, .array .int), (ky_21, .int), (kt_22, .int), (kz_23, .boolean), (kr_24, .int), (j_27, .int), (j_28, .object "YamRiders$Horse"), (j_29, .object "YamRiders$Tablet"), (j_30, .object "YamRiders$Rider"), (j_31, .object "YamRiders$Rider"), (j_33, .int), (k_tape_70, .byte), (k_law_71, .int), (k_fresh_72, .int), (k_isTold_73, .boolean), (k_hours_74, .int), (k_snow_75, .int), (k_least_76, .int), (k_fodder_77, .int), (k_strength_78, .int), (k_stands_79, .int), (k_rank_80, .int), (k_voidSince_81, .int), (k_newsSince_82, .int), (k_ways_83, .int), (k_wayMany_84, .int), (k_tabletOf_85, .int), (k_state_86, .int), (k_come_87, .int), (k_cameIn_88, .int), (k_horseOf_89, .int), (k_due_90, .int), (k_time_91, .int), (k_brings_92, .int), (k_loose_93, .boolean), (k_asked_94, .boolean), (k_led_95, .int), (k_cost_96, .int), (k_left_97, .int), (k_wants_98, .int), (k_toGiver_99, .int), (k_toTaker_100, .int), (k_giverBy_101, .int), (k_takerBy_102, .int), (k_105, .long)] s := hK
      have hP : va_P (dC, dI) vwCl [] H := hP
      have hD : va_D (fun q : Nat => s.heap.size ≤ q) [] := hD
      try dsimp only at hw
      subst hw
      refine W.widen (k := 103) (n := 4436) (Nat.le_of_ble_eq_true rfl) (Nat.le_of_ble_eq_true rfl) ?_
      refine lv_icmp_eq (tgt := 948) hx hb dL_law_435 (by decide) (fun _ => ?_) (fun c_217 => by first | exact absurd c_217 rfl | exact absurd rfl c_217)
      refine lv_iinc (v := 6) (lv' := [(4, .int 6), (3, .ref q_104), (2, .ref q_35), (1, .ref q_1), (0, .ref b)]) hx hb dL_law_948 hl (k := 0) rfl (by decide) (by decide) rfl (fun ls hl => ?_)
      refine lv_goto (tgt := 23) hx hb dL_law_951 (by decide) ?_
      refine lv_iload hx hb dL_law_23 (lv_at hl 0 rfl) ?_
      refine lv_aload_n hx hb dL_law_25 rfl (lv_at hl 4 rfl) ?_
      refine va_slen hx hb hX hbl hbA hS dL_law_26 ?_
      refine lv_bipush (v := 6) hx hb dL_law_27 (by decide) ?_
      refine lv_isub hx hb dL_law_29 ?_
      refine lv_topi (fun y_218 ey_218 => ?_)
      obtain rfl : y_218 = 0 := ey_218.trans (by decide)
      refine lv_icmp_gt (tgt := 954) hx hb dL_law_30 (by decide) (fun _ => ?_) (fun c_219 => by first | exact absurd c_219 (by decide) | exact absurd (by decide) c_219)
      refine lv_iconst (v := 1) hx hb dL_law_954 (by decide) ?_
      refine va_forget (fun q hq => hS.2.2 q hq) ?_
      refine W.widen (k := 600002) (n := 7302232) (Nat.le_of_ble_eq_true rfl) (Nat.le_of_ble_eq_true rfl) ?_
      exact lw_ret hx hb hr hlocks dL_law_955
    by_cases c_220 : (xs 0) &&& 31 = 8
    · refine lv_tableIn (tgt := 440) (off := 400) hx hb dL_law_40 (by rw [c_220]; decide) (by rw [c_220]; decide) (by rw [c_220]; decide) (by decide) ?_
      have hP := hP.sub (ws' := [(q_1, .inr (8, [.ref a_3, .ref a_4, .ref a_5, .ref a_6, .ref a_7, .ref a_8, .ref a_9, .ref a_10, .ref a_11, .int 0, .int 0, .int 0, .int 0, .int 0, .int 0])), (a_8, .inl (j_29, 20, .inr (.inr (.inr (.inr (fun _ => none)))))), (q_35, .inr (9, [.int 0, .ref m_37, .int 0, .int 0, .int 0, .ref m_38, .ref m_39, .ref m_40, .int 0, .int 0, .int 0, .int 0, .int 0, .int 0, .long 0, .ref m_41, .ref m_42, .ref m_43, .ref m_44, .ref m_45, .ref m_46, .int 0, .ref m_47, .ref m_48, .ref m_49, .ref m_50, .ref m_51, .ref m_52, .ref m_53, .ref m_54, .ref m_55, .ref m_56, .ref m_57, .ref m_58, .ref m_59, .int 0, .int 0, .ref m_60, .ref m_61, .ref m_62, .ref m_63, .ref m_64, .ref m_65, .ref m_66, .ref m_67, .ref m_68, .ref m_69])), (m_47, .inl (k_rank_80, 20, .inl (fun _ => 0))), (m_48, .inl (k_voidSince_81, 240, .inl (fun _ => 0)))]) [0, 35, 40, 51, 52] rfl
      have hD := hD.sub (ws' := [(q_1, .inr (8, [.ref a_3, .ref a_4, .ref a_5, .ref a_6, .ref a_7, .ref a_8, .ref a_9, .ref a_10, .ref a_11, .int 0, .int 0, .int 0, .int 0, .int 0, .int 0])), (a_8, .inl (j_29, 20, .inr (.inr (.inr (.inr (fun _ => none)))))), (q_35, .inr (9, [.int 0, .ref m_37, .int 0, .int 0, .int 0, .ref m_38, .ref m_39, .ref m_40, .int 0, .int 0, .int 0, .int 0, .int 0, .int 0, .long 0, .ref m_41, .ref m_42, .ref m_43, .ref m_44, .ref m_45, .ref m_46, .int 0, .ref m_47, .ref m_48, .ref m_49, .ref m_50, .ref m_51, .ref m_52, .ref m_53, .ref m_54, .ref m_55, .ref m_56, .ref m_57, .ref m_58, .ref m_59, .int 0, .int 0, .ref m_60, .ref m_61, .ref m_62, .ref m_63, .ref m_64, .ref m_65, .ref m_66, .ref m_67, .ref m_68, .ref m_69])), (m_47, .inl (k_rank_80, 20, .inl (fun _ => 0))), (m_48, .inl (k_voidSince_81, 240, .inl (fun _ => 0)))]) [0, 35, 40, 51, 52] (by decide) rfl
      refine lv_aload_n hx hb dL_law_440 rfl (lv_at hl 3 rfl) ?_
      refine lv_aload_n hx hb dL_law_441 rfl (lv_at hl 4 rfl) ?_
      refine lv_iload hx hb dL_law_442 (lv_at hl 0 rfl) ?_
      refine lv_iconst (v := 1) hx hb dL_law_444 (by decide) ?_
      refine lv_iadd hx hb dL_law_445 ?_
      refine lv_topi (fun y_221 ey_221 => ?_)
      obtain rfl : y_221 = 1 := ey_221.trans (by decide)
      refine va_sld hx hb hX hbl hbA hS (by unfold vp_in; decide) dL_law_446 ?_
      refine lv_topi (fun v_222 ev_222 => ?_)
      obtain rfl : v_222 = xs 1 := ev_222.trans rfl
      have hPc := hP.sub (ws' := [(q_1, .inr (8, [.ref a_3, .ref a_4, .ref a_5, .ref a_6, .ref a_7, .ref a_8, .ref a_9, .ref a_10, .ref a_11, .int 0, .int 0, .int 0, .int 0, .int 0, .int 0])), (a_8, .inl (j_29, 20, .inr (.inr (.inr (.inr (fun _ => none))))))]) [0, 1] rfl
      have hDc := hD.sub (ws' := [(q_1, .inr (8, [.ref a_3, .ref a_4, .ref a_5, .ref a_6, .ref a_7, .ref a_8, .ref a_9, .ref a_10, .ref a_11, .int 0, .int 0, .int 0, .int 0, .int 0, .int 0])), (a_8, .inl (j_29, 20, .inr (.inr (.inr (.inr (fun _ => none))))))]) [0, 1] (by decide) rfl
      have hKc := hK.sub (tys' := [(j_29, .object "YamRiders$Tablet")]) [9] rfl
      have hFc := va_free (wc := [(q_1, .inr (8, [.ref a_3, .ref a_4, .ref a_5, .ref a_6, .ref a_7, .ref a_8, .ref a_9, .ref a_10, .ref a_11, .int 0, .int 0, .int 0, .int 0, .int 0, .int 0])), (a_8, .inl (j_29, 20, .inr (.inr (.inr (.inr (fun _ => none))))))]) hD hS hA [0, 1] rfl
      refine va_calli (va_runV (As := [.int (xs 1)]) (rest := []) ⟨hx, hb, hml, hown, hts⟩ (c_X8_tablet l dC dI q_1 a_3 a_4 a_5 a_6 a_7 a_8 a_9 a_10 a_11 j_29 (xs 1) H.size) (cwV 1 hts gL_law_X8_tablet rfl rfl rfl (by decide +kernel) ⟨Nat.le_of_ble_eq_true rfl, Nat.le_of_ble_eq_true rfl⟩) ⟨c_blind, va_recv hKc hPc (ci := 8) (q0 := 0) rfl rfl, c_pre hPc hKc hDc hN⟩ rfl rfl hl.1 rfl (lv_room (Nat.le_of_ble_eq_true rfl)) dL_law_447 ⟨Nat.le_of_ble_eq_true rfl, Nat.le_of_ble_eq_true rfl⟩) hS (fun q _ h => hFc q h) hFc (fun r_223 u9 t9 H1 locs ht hvm hw hB hz1 hk1 hS => ?_)
      obtain ⟨hP1, hK1, hD1⟩ := hB
      rw [ht] at hP1
      have hK1 := va_K.moved hvm.symm hK1
      obtain ⟨hP, hD⟩ := va_join (wr := [(q_35, .inr (9, [.int 0, .ref m_37, .int 0, .int 0, .int 0, .ref m_38, .ref m_39, .ref m_40, .int 0, .int 0, .int 0, .int 0, .int 0, .int 0, .long 0, .ref m_41, .ref m_42, .ref m_43, .ref m_44, .ref m_45, .ref m_46, .int 0, .ref m_47, .ref m_48, .ref m_49, .ref m_50, .ref m_51, .ref m_52, .ref m_53, .ref m_54, .ref m_55, .ref m_56, .ref m_57, .ref m_58, .ref m_59, .int 0, .int 0, .ref m_60, .ref m_61, .ref m_62, .ref m_63, .ref m_64, .ref m_65, .ref m_66, .ref m_67, .ref m_68, .ref m_69])), (m_47, .inl (k_rank_80, 20, .inl (fun _ => 0))), (m_48, .inl (k_voidSince_81, 240, .inl (fun _ => 0)))]) (w1 := []) hP hD [0, 1] [2, 3, 4] rfl rfl (by decide) (by decide) hk1 hFc hP1 hD1
      have hK := (hK.sub (tys' := [(j_13, .int), (g_19, .array .int), (g_20, .array .int), (ky_21, .int), (kt_22, .int), (kz_23, .boolean), (kr_24, .int), (j_27, .int), (j_28, .object "YamRiders$Horse"), (j_29, .object "YamRiders$Tablet"), (j_30, .object "YamRiders$Rider"), (j_31, .object "YamRiders$Rider"), (j_33, .int), (k_tape_70, .byte), (k_law_71, .int), (k_fresh_72, .int), (k_isTold_73, .boolean), (k_hours_74, .int), (k_snow_75, .int), (k_least_76, .int), (k_fodder_77, .int), (k_strength_78, .int), (k_stands_79, .int), (k_rank_80, .int), (k_voidSince_81, .int), (k_newsSince_82, .int), (k_ways_83, .int), (k_wayMany_84, .int), (k_tabletOf_85, .int), (k_state_86, .int), (k_come_87, .int), (k_cameIn_88, .int), (k_horseOf_89, .int), (k_due_90, .int), (k_time_91, .int), (k_brings_92, .int), (k_loose_93, .boolean), (k_asked_94, .boolean), (k_led_95, .int), (k_cost_96, .int), (k_left_97, .int), (k_wants_98, .int), (k_toGiver_99, .int), (k_toTaker_100, .int), (k_giverBy_101, .int), (k_takerBy_102, .int), (k_105, .long)]) [0, 1, 2, 3, 4, 5, 6, 7, 8, 9, 10, 11, 12, 13, 14, 15, 16, 17, 18, 19, 20, 21, 22, 23, 24, 25, 26, 27, 28, 29, 30, 31, 32, 33, 34, 35, 36, 37, 38, 39, 40, 41, 42, 43, 44, 45, 46] rfl).app hK1
      generalize H1 = H at hP hS ⊢
      have hK : va_K (dC, dI) vwCl [(j_13, .int), (g_19, .array .int), (g_20, .array .int), (ky_21, .int), (kt_22, .int), (kz_23, .boolean), (kr_24, .int), (j_27, .int), (j_28, .object "YamRiders$Horse"), (j_29, .object "YamRiders$Tablet"), (j_30, .object "YamRiders$Rider"), (j_31, .object "YamRiders$Rider"), (j_33, .int), (k_tape_70, .byte), (k_law_71, .int), (k_fresh_72, .int), (k_isTold_73, .boolean), (k_hours_74, .int), (k_snow_75, .int), (k_least_76, .int), (k_fodder_77, .int), (k_strength_78, .int), (k_stands_79, .int), (k_rank_80, .int), (k_voidSince_81, .int), (k_newsSince_82, .int), (k_ways_83, .int), (k_wayMany_84, .int), (k_tabletOf_85, .int), (k_state_86, .int), (k_come_87, .int), (k_cameIn_88, .int), (k_horseOf_89, .int), (k_due_90, .int), (k_time_91, .int), (k_brings_92, .int), (k_loose_93, .boolean), (k_asked_94, .boolean), (k_led_95, .int), (k_cost_96, .int), (k_left_97, .int), (k_wants_98, .int), (k_toGiver_99, .int), (k_toTaker_100, .int), (k_giverBy_101, .int), (k_takerBy_102, .int), (k_105, .long)] s := hK
      have hP : va_P (dC, dI) vwCl [(q_35, .inr (9, [.int 0, .ref m_37, .int 0, .int 0, .int 0, .ref m_38, .ref m_39, .ref m_40, .int 0, .int 0, .int 0, .int 0, .int 0, .int 0, .long 0, .ref m_41, .ref m_42, .ref m_43, .ref m_44, .ref m_45, .ref m_46, .int 0, .ref m_47, .ref m_48, .ref m_49, .ref m_50, .ref m_51, .ref m_52, .ref m_53, .ref m_54, .ref m_55, .ref m_56, .ref m_57, .ref m_58, .ref m_59, .int 0, .int 0, .ref m_60, .ref m_61, .ref m_62, .ref m_63, .ref m_64, .ref m_65, .ref m_66, .ref m_67, .ref m_68, .ref m_69])), (m_47, .inl (k_rank_80, 20, .inl (fun _ => 0))), (m_48, .inl (k_voidSince_81, 240, .inl (fun _ => 0)))] H := hP
      have hD : va_D (fun q : Nat => s.heap.size ≤ q) [(q_35, .inr (9, [.int 0, .ref m_37, .int 0, .int 0, .int 0, .ref m_38, .ref m_39, .ref m_40, .int 0, .int 0, .int 0, .int 0, .int 0, .int 0, .long 0, .ref m_41, .ref m_42, .ref m_43, .ref m_44, .ref m_45, .ref m_46, .int 0, .ref m_47, .ref m_48, .ref m_49, .ref m_50, .ref m_51, .ref m_52, .ref m_53, .ref m_54, .ref m_55, .ref m_56, .ref m_57, .ref m_58, .ref m_59, .int 0, .int 0, .ref m_60, .ref m_61, .ref m_62, .ref m_63, .ref m_64, .ref m_65, .ref m_66, .ref m_67, .ref m_68, .ref m_69])), (m_47, .inl (k_rank_80, 20, .inl (fun _ => 0))), (m_48, .inl (k_voidSince_81, 240, .inl (fun _ => 0)))] := hD
      try dsimp only at hw
      subst hw
      refine W.widen (k := 104) (n := 4447) (Nat.le_of_ble_eq_true rfl) (Nat.le_of_ble_eq_true rfl) ?_
      refine lv_aload_n hx hb dL_law_450 rfl (lv_at hl 2 rfl) ?_
      refine lv_aload_n hx hb dL_law_451 rfl (lv_at hl 4 rfl) ?_
      refine lv_iload hx hb dL_law_452 (lv_at hl 0 rfl) ?_
      refine lv_iconst (v := 1) hx hb dL_law_454 (by decide) ?_
      refine lv_iadd hx hb dL_law_455 ?_
      refine lv_topi (fun y_224 ey_224 => ?_)
      obtain rfl : y_224 = 1 := ey_224.trans (by decide)
      refine va_sld hx hb hX hbl hbA hS (by unfold vp_in; decide) dL_law_456 ?_
      refine lv_topi (fun v_225 ev_225 => ?_)
      obtain rfl : v_225 = xs 1 := ev_225.trans rfl
      have hPc := hP.sub (ws' := [(q_35, .inr (9, [.int 0, .ref m_37, .int 0, .int 0, .int 0, .ref m_38, .ref m_39, .ref m_40, .int 0, .int 0, .int 0, .int 0, .int 0, .int 0, .long 0, .ref m_41, .ref m_42, .ref m_43, .ref m_44, .ref m_45, .ref m_46, .int 0, .ref m_47, .ref m_48, .ref m_49, .ref m_50, .ref m_51, .ref m_52, .ref m_53, .ref m_54, .ref m_55, .ref m_56, .ref m_57, .ref m_58, .ref m_59, .int 0, .int 0, .ref m_60, .ref m_61, .ref m_62, .ref m_63, .ref m_64, .ref m_65, .ref m_66, .ref m_67, .ref m_68, .ref m_69])), (m_47, .inl (k_rank_80, 20, .inl (fun _ => 0))), (m_48, .inl (k_voidSince_81, 240, .inl (fun _ => 0)))]) [0, 1, 2] rfl
      have hDc := hD.sub (ws' := [(q_35, .inr (9, [.int 0, .ref m_37, .int 0, .int 0, .int 0, .ref m_38, .ref m_39, .ref m_40, .int 0, .int 0, .int 0, .int 0, .int 0, .int 0, .long 0, .ref m_41, .ref m_42, .ref m_43, .ref m_44, .ref m_45, .ref m_46, .int 0, .ref m_47, .ref m_48, .ref m_49, .ref m_50, .ref m_51, .ref m_52, .ref m_53, .ref m_54, .ref m_55, .ref m_56, .ref m_57, .ref m_58, .ref m_59, .int 0, .int 0, .ref m_60, .ref m_61, .ref m_62, .ref m_63, .ref m_64, .ref m_65, .ref m_66, .ref m_67, .ref m_68, .ref m_69])), (m_47, .inl (k_rank_80, 20, .inl (fun _ => 0))), (m_48, .inl (k_voidSince_81, 240, .inl (fun _ => 0)))]) [0, 1, 2] (by decide) rfl
      have hKc := hK.sub (tys' := [(k_rank_80, .int), (k_voidSince_81, .int)]) [23, 24] rfl
      have hFc := va_free (wc := [(q_35, .inr (9, [.int 0, .ref m_37, .int 0, .int 0, .int 0, .ref m_38, .ref m_39, .ref m_40, .int 0, .int 0, .int 0, .int 0, .int 0, .int 0, .long 0, .ref m_41, .ref m_42, .ref m_43, .ref m_44, .ref m_45, .ref m_46, .int 0, .ref m_47, .ref m_48, .ref m_49, .ref m_50, .ref m_51, .ref m_52, .ref m_53, .ref m_54, .ref m_55, .ref m_56, .ref m_57, .ref m_58, .ref m_59, .int 0, .int 0, .ref m_60, .ref m_61, .ref m_62, .ref m_63, .ref m_64, .ref m_65, .ref m_66, .ref m_67, .ref m_68, .ref m_69])), (m_47, .inl (k_rank_80, 20, .inl (fun _ => 0))), (m_48, .inl (k_voidSince_81, 240, .inl (fun _ => 0)))]) hD hS hA [0, 1, 2] rfl
      refine va_calli (va_runV (As := [.int (xs 1)]) (rest := [.int (if (xs 1) < 1 then (-1) else (if (xs 1) ≤ 3 then 0 else (-1)))]) ⟨hx, hb, hml, hown, hts⟩ (c_X9_tablet l dC dI q_35 m_37 m_38 m_39 m_40 m_41 m_42 m_43 m_44 m_45 m_46 m_47 m_48 m_49 m_50 m_51 m_52 m_53 m_54 m_55 m_56 m_57 m_58 m_59 m_60 m_61 m_62 m_63 m_64 m_65 m_66 m_67 m_68 m_69 k_rank_80 k_voidSince_81 (xs 1) H.size) (cwV 1 hts gL_law_X9_tablet rfl rfl rfl (by decide +kernel) ⟨Nat.le_of_ble_eq_true rfl, Nat.le_of_ble_eq_true rfl⟩) ⟨c_blind, va_recv hKc hPc (ci := 9) (q0 := 0) rfl rfl, c_pre hPc hKc hDc hN⟩ rfl rfl hl.1 rfl (lv_room (Nat.le_of_ble_eq_true rfl)) dL_law_457 ⟨Nat.le_of_ble_eq_true rfl, Nat.le_of_ble_eq_true rfl⟩) hS (fun q _ h => hFc q h) hFc (fun r_226 u9 t9 H1 locs ht hvm hw hB hz1 hk1 hS => ?_)
      obtain ⟨hP1, hK1, hD1⟩ := hB
      rw [ht] at hP1
      have hK1 := va_K.moved hvm.symm hK1
      obtain ⟨hP, hD⟩ := va_join (wr := []) (w1 := []) hP hD [0, 1, 2] [] rfl rfl (by decide) (by decide) hk1 hFc hP1 hD1
      have hK := (hK.sub (tys' := [(j_13, .int), (g_19, .array .int), (g_20, .array .int), (ky_21, .int), (kt_22, .int), (kz_23, .boolean), (kr_24, .int), (j_27, .int), (j_28, .object "YamRiders$Horse"), (j_29, .object "YamRiders$Tablet"), (j_30, .object "YamRiders$Rider"), (j_31, .object "YamRiders$Rider"), (j_33, .int), (k_tape_70, .byte), (k_law_71, .int), (k_fresh_72, .int), (k_isTold_73, .boolean), (k_hours_74, .int), (k_snow_75, .int), (k_least_76, .int), (k_fodder_77, .int), (k_strength_78, .int), (k_stands_79, .int), (k_rank_80, .int), (k_voidSince_81, .int), (k_newsSince_82, .int), (k_ways_83, .int), (k_wayMany_84, .int), (k_tabletOf_85, .int), (k_state_86, .int), (k_come_87, .int), (k_cameIn_88, .int), (k_horseOf_89, .int), (k_due_90, .int), (k_time_91, .int), (k_brings_92, .int), (k_loose_93, .boolean), (k_asked_94, .boolean), (k_led_95, .int), (k_cost_96, .int), (k_left_97, .int), (k_wants_98, .int), (k_toGiver_99, .int), (k_toTaker_100, .int), (k_giverBy_101, .int), (k_takerBy_102, .int), (k_105, .long)]) [0, 1, 2, 3, 4, 5, 6, 7, 8, 9, 10, 11, 12, 13, 14, 15, 16, 17, 18, 19, 20, 21, 22, 23, 24, 25, 26, 27, 28, 29, 30, 31, 32, 33, 34, 35, 36, 37, 38, 39, 40, 41, 42, 43, 44, 45, 46] rfl).app hK1
      generalize H1 = H at hP hS ⊢
      have hK : va_K (dC, dI) vwCl [(j_13, .int), (g_19, .array .int), (g_20, .array .int), (ky_21, .int), (kt_22, .int), (kz_23, .boolean), (kr_24, .int), (j_27, .int), (j_28, .object "YamRiders$Horse"), (j_29, .object "YamRiders$Tablet"), (j_30, .object "YamRiders$Rider"), (j_31, .object "YamRiders$Rider"), (j_33, .int), (k_tape_70, .byte), (k_law_71, .int), (k_fresh_72, .int), (k_isTold_73, .boolean), (k_hours_74, .int), (k_snow_75, .int), (k_least_76, .int), (k_fodder_77, .int), (k_strength_78, .int), (k_stands_79, .int), (k_rank_80, .int), (k_voidSince_81, .int), (k_newsSince_82, .int), (k_ways_83, .int), (k_wayMany_84, .int), (k_tabletOf_85, .int), (k_state_86, .int), (k_come_87, .int), (k_cameIn_88, .int), (k_horseOf_89, .int), (k_due_90, .int), (k_time_91, .int), (k_brings_92, .int), (k_loose_93, .boolean), (k_asked_94, .boolean), (k_led_95, .int), (k_cost_96, .int), (k_left_97, .int), (k_wants_98, .int), (k_toGiver_99, .int), (k_toTaker_100, .int), (k_giverBy_101, .int), (k_takerBy_102, .int), (k_105, .long)] s := hK
      have hP : va_P (dC, dI) vwCl [] H := hP
      have hD : va_D (fun q : Nat => s.heap.size ≤ q) [] := hD
      try dsimp only at hw
      subst hw
      refine W.widen (k := 104) (n := 4447) (Nat.le_of_ble_eq_true rfl) (Nat.le_of_ble_eq_true rfl) ?_
      refine lv_icmp_eq (tgt := 948) hx hb dL_law_460 (by decide) (fun _ => ?_) (fun c_227 => by first | exact absurd c_227 rfl | exact absurd rfl c_227)
      refine lv_iinc (v := 6) (lv' := [(4, .int 6), (3, .ref q_104), (2, .ref q_35), (1, .ref q_1), (0, .ref b)]) hx hb dL_law_948 hl (k := 0) rfl (by decide) (by decide) rfl (fun ls hl => ?_)
      refine lv_goto (tgt := 23) hx hb dL_law_951 (by decide) ?_
      refine lv_iload hx hb dL_law_23 (lv_at hl 0 rfl) ?_
      refine lv_aload_n hx hb dL_law_25 rfl (lv_at hl 4 rfl) ?_
      refine va_slen hx hb hX hbl hbA hS dL_law_26 ?_
      refine lv_bipush (v := 6) hx hb dL_law_27 (by decide) ?_
      refine lv_isub hx hb dL_law_29 ?_
      refine lv_topi (fun y_228 ey_228 => ?_)
      obtain rfl : y_228 = 0 := ey_228.trans (by decide)
      refine lv_icmp_gt (tgt := 954) hx hb dL_law_30 (by decide) (fun _ => ?_) (fun c_229 => by first | exact absurd c_229 (by decide) | exact absurd (by decide) c_229)
      refine lv_iconst (v := 1) hx hb dL_law_954 (by decide) ?_
      refine va_forget (fun q hq => hS.2.2 q hq) ?_
      refine W.widen (k := 600002) (n := 7302232) (Nat.le_of_ble_eq_true rfl) (Nat.le_of_ble_eq_true rfl) ?_
      exact lw_ret hx hb hr hlocks dL_law_955
    by_cases c_230 : (xs 0) &&& 31 = 9
    · refine lv_tableIn (tgt := 465) (off := 425) hx hb dL_law_40 (by rw [c_230]; decide) (by rw [c_230]; decide) (by rw [c_230]; decide) (by decide) ?_
      have hP := hP.sub (ws' := [(q_1, .inr (8, [.ref a_3, .ref a_4, .ref a_5, .ref a_6, .ref a_7, .ref a_8, .ref a_9, .ref a_10, .ref a_11, .int 0, .int 0, .int 0, .int 0, .int 0, .int 0])), (a_8, .inl (j_29, 20, .inr (.inr (.inr (.inr (fun _ => none)))))), (q_35, .inr (9, [.int 0, .ref m_37, .int 0, .int 0, .int 0, .ref m_38, .ref m_39, .ref m_40, .int 0, .int 0, .int 0, .int 0, .int 0, .int 0, .long 0, .ref m_41, .ref m_42, .ref m_43, .ref m_44, .ref m_45, .ref m_46, .int 0, .ref m_47, .ref m_48, .ref m_49, .ref m_50, .ref m_51, .ref m_52, .ref m_53, .ref m_54, .ref m_55, .ref m_56, .ref m_57, .ref m_58, .ref m_59, .int 0, .int 0, .ref m_60, .ref m_61, .ref m_62, .ref m_63, .ref m_64, .ref m_65, .ref m_66, .ref m_67, .ref m_68, .ref m_69]))]) [0, 35, 40] rfl
      have hD := hD.sub (ws' := [(q_1, .inr (8, [.ref a_3, .ref a_4, .ref a_5, .ref a_6, .ref a_7, .ref a_8, .ref a_9, .ref a_10, .ref a_11, .int 0, .int 0, .int 0, .int 0, .int 0, .int 0])), (a_8, .inl (j_29, 20, .inr (.inr (.inr (.inr (fun _ => none)))))), (q_35, .inr (9, [.int 0, .ref m_37, .int 0, .int 0, .int 0, .ref m_38, .ref m_39, .ref m_40, .int 0, .int 0, .int 0, .int 0, .int 0, .int 0, .long 0, .ref m_41, .ref m_42, .ref m_43, .ref m_44, .ref m_45, .ref m_46, .int 0, .ref m_47, .ref m_48, .ref m_49, .ref m_50, .ref m_51, .ref m_52, .ref m_53, .ref m_54, .ref m_55, .ref m_56, .ref m_57, .ref m_58, .ref m_59, .int 0, .int 0, .ref m_60, .ref m_61, .ref m_62, .ref m_63, .ref m_64, .ref m_65, .ref m_66, .ref m_67, .ref m_68, .ref m_69]))]) [0, 35, 40] (by decide) rfl
      refine lv_aload_n hx hb dL_law_465 rfl (lv_at hl 3 rfl) ?_
      refine lv_aload_n hx hb dL_law_466 rfl (lv_at hl 4 rfl) ?_
      refine lv_iload hx hb dL_law_467 (lv_at hl 0 rfl) ?_
      refine lv_iconst (v := 1) hx hb dL_law_469 (by decide) ?_
      refine lv_iadd hx hb dL_law_470 ?_
      refine lv_topi (fun y_231 ey_231 => ?_)
      obtain rfl : y_231 = 1 := ey_231.trans (by decide)
      refine va_sld hx hb hX hbl hbA hS (by unfold vp_in; decide) dL_law_471 ?_
      refine lv_topi (fun v_232 ev_232 => ?_)
      obtain rfl : v_232 = xs 1 := ev_232.trans rfl
      refine lv_aload_n hx hb dL_law_472 rfl (lv_at hl 4 rfl) ?_
      refine lv_iload hx hb dL_law_473 (lv_at hl 0 rfl) ?_
      refine lv_iconst (v := 2) hx hb dL_law_475 (by decide) ?_
      refine lv_iadd hx hb dL_law_476 ?_
      refine lv_topi (fun y_233 ey_233 => ?_)
      obtain rfl : y_233 = 2 := ey_233.trans (by decide)
      refine va_sld hx hb hX hbl hbA hS (by unfold vp_in; decide) dL_law_477 ?_
      refine lv_topi (fun v_234 ev_234 => ?_)
      obtain rfl : v_234 = xs 2 := ev_234.trans rfl
      refine lv_aload_n hx hb dL_law_478 rfl (lv_at hl 4 rfl) ?_
      refine lv_iload hx hb dL_law_479 (lv_at hl 0 rfl) ?_
      refine lv_iconst (v := 3) hx hb dL_law_481 (by decide) ?_
      refine lv_iadd hx hb dL_law_482 ?_
      refine lv_topi (fun y_235 ey_235 => ?_)
      obtain rfl : y_235 = 3 := ey_235.trans (by decide)
      refine va_sld hx hb hX hbl hbA hS (by unfold vp_in; decide) dL_law_483 ?_
      refine lv_topi (fun v_236 ev_236 => ?_)
      obtain rfl : v_236 = xs 3 := ev_236.trans rfl
      have hPc := hP.sub (ws' := [(q_1, .inr (8, [.ref a_3, .ref a_4, .ref a_5, .ref a_6, .ref a_7, .ref a_8, .ref a_9, .ref a_10, .ref a_11, .int 0, .int 0, .int 0, .int 0, .int 0, .int 0])), (a_8, .inl (j_29, 20, .inr (.inr (.inr (.inr (fun _ => none))))))]) [0, 1] rfl
      have hDc := hD.sub (ws' := [(q_1, .inr (8, [.ref a_3, .ref a_4, .ref a_5, .ref a_6, .ref a_7, .ref a_8, .ref a_9, .ref a_10, .ref a_11, .int 0, .int 0, .int 0, .int 0, .int 0, .int 0])), (a_8, .inl (j_29, 20, .inr (.inr (.inr (.inr (fun _ => none))))))]) [0, 1] (by decide) rfl
      have hKc := hK.sub (tys' := [(j_29, .object "YamRiders$Tablet")]) [9] rfl
      refine cs_i (va_runV (As := [.int (xs 1), .int (xs 2), .int (xs 3)]) (rest := []) ⟨hx, hb, hml, hown, hts⟩ (c_X8_ride l dC dI q_1 a_3 a_4 a_5 a_6 a_7 a_8 a_9 a_10 a_11 j_29 (xs 1) (xs 2) (xs 3) H.size) (cwV 3 hts gL_law_X8_ride rfl rfl rfl (by decide +kernel) ⟨Nat.le_of_ble_eq_true rfl, Nat.le_of_ble_eq_true rfl⟩) ⟨c_blind, va_recv hKc hPc (ci := 8) (q0 := 0) rfl rfl, c_pre hPc hKc hDc hN⟩ rfl rfl hl.1 rfl (lv_room (Nat.le_of_ble_eq_true rfl)) dL_law_484 ⟨Nat.le_of_ble_eq_true rfl, Nat.le_of_ble_eq_true rfl⟩) (fun r_237 hr_237 => ?_)
      subst hr_237
      refine lv_aload_n hx hb dL_law_487 rfl (lv_at hl 2 rfl) ?_
      refine lv_aload_n hx hb dL_law_488 rfl (lv_at hl 4 rfl) ?_
      refine lv_iload hx hb dL_law_489 (lv_at hl 0 rfl) ?_
      refine lv_iconst (v := 1) hx hb dL_law_491 (by decide) ?_
      refine lv_iadd hx hb dL_law_492 ?_
      refine lv_topi (fun y_238 ey_238 => ?_)
      obtain rfl : y_238 = 1 := ey_238.trans (by decide)
      refine va_sld hx hb hX hbl hbA hS (by unfold vp_in; decide) dL_law_493 ?_
      refine lv_topi (fun v_239 ev_239 => ?_)
      obtain rfl : v_239 = xs 1 := ev_239.trans rfl
      refine lv_aload_n hx hb dL_law_494 rfl (lv_at hl 4 rfl) ?_
      refine lv_iload hx hb dL_law_495 (lv_at hl 0 rfl) ?_
      refine lv_iconst (v := 2) hx hb dL_law_497 (by decide) ?_
      refine lv_iadd hx hb dL_law_498 ?_
      refine lv_topi (fun y_240 ey_240 => ?_)
      obtain rfl : y_240 = 2 := ey_240.trans (by decide)
      refine va_sld hx hb hX hbl hbA hS (by unfold vp_in; decide) dL_law_499 ?_
      refine lv_topi (fun v_241 ev_241 => ?_)
      obtain rfl : v_241 = xs 2 := ev_241.trans rfl
      refine lv_aload_n hx hb dL_law_500 rfl (lv_at hl 4 rfl) ?_
      refine lv_iload hx hb dL_law_501 (lv_at hl 0 rfl) ?_
      refine lv_iconst (v := 3) hx hb dL_law_503 (by decide) ?_
      refine lv_iadd hx hb dL_law_504 ?_
      refine lv_topi (fun y_242 ey_242 => ?_)
      obtain rfl : y_242 = 3 := ey_242.trans (by decide)
      refine va_sld hx hb hX hbl hbA hS (by unfold vp_in; decide) dL_law_505 ?_
      refine lv_topi (fun v_243 ev_243 => ?_)
      obtain rfl : v_243 = xs 3 := ev_243.trans rfl
      have hPc := hP.sub (ws' := [(q_35, .inr (9, [.int 0, .ref m_37, .int 0, .int 0, .int 0, .ref m_38, .ref m_39, .ref m_40, .int 0, .int 0, .int 0, .int 0, .int 0, .int 0, .long 0, .ref m_41, .ref m_42, .ref m_43, .ref m_44, .ref m_45, .ref m_46, .int 0, .ref m_47, .ref m_48, .ref m_49, .ref m_50, .ref m_51, .ref m_52, .ref m_53, .ref m_54, .ref m_55, .ref m_56, .ref m_57, .ref m_58, .ref m_59, .int 0, .int 0, .ref m_60, .ref m_61, .ref m_62, .ref m_63, .ref m_64, .ref m_65, .ref m_66, .ref m_67, .ref m_68, .ref m_69]))]) [2] rfl
      have hDc := hD.sub (ws' := [(q_35, .inr (9, [.int 0, .ref m_37, .int 0, .int 0, .int 0, .ref m_38, .ref m_39, .ref m_40, .int 0, .int 0, .int 0, .int 0, .int 0, .int 0, .long 0, .ref m_41, .ref m_42, .ref m_43, .ref m_44, .ref m_45, .ref m_46, .int 0, .ref m_47, .ref m_48, .ref m_49, .ref m_50, .ref m_51, .ref m_52, .ref m_53, .ref m_54, .ref m_55, .ref m_56, .ref m_57, .ref m_58, .ref m_59, .int 0, .int 0, .ref m_60, .ref m_61, .ref m_62, .ref m_63, .ref m_64, .ref m_65, .ref m_66, .ref m_67, .ref m_68, .ref m_69]))]) [2] (by decide) rfl
      have hKc := hK.sub (tys' := []) [] rfl
      have hFc := va_free (wc := [(q_35, .inr (9, [.int 0, .ref m_37, .int 0, .int 0, .int 0, .ref m_38, .ref m_39, .ref m_40, .int 0, .int 0, .int 0, .int 0, .int 0, .int 0, .long 0, .ref m_41, .ref m_42, .ref m_43, .ref m_44, .ref m_45, .ref m_46, .int 0, .ref m_47, .ref m_48, .ref m_49, .ref m_50, .ref m_51, .ref m_52, .ref m_53, .ref m_54, .ref m_55, .ref m_56, .ref m_57, .ref m_58, .ref m_59, .int 0, .int 0, .ref m_60, .ref m_61, .ref m_62, .ref m_63, .ref m_64, .ref m_65, .ref m_66, .ref m_67, .ref m_68, .ref m_69]))]) hD hS hA [2] rfl
      refine va_calli (va_runV (As := [.int (xs 1), .int (xs 2), .int (xs 3)]) (rest := [.int (-1)]) ⟨hx, hb, hml, hown, hts⟩ (c_X9_ride l dC dI q_35 m_37 m_38 m_39 m_40 m_41 m_42 m_43 m_44 m_45 m_46 m_47 m_48 m_49 m_50 m_51 m_52 m_53 m_54 m_55 m_56 m_57 m_58 m_59 m_60 m_61 m_62 m_63 m_64 m_65 m_66 m_67 m_68 m_69 (xs 1) (xs 2) (xs 3) H.size) (cwV 3 hts gL_law_X9_ride rfl rfl rfl (by decide +kernel) ⟨Nat.le_of_ble_eq_true rfl, Nat.le_of_ble_eq_true rfl⟩) ⟨c_blind, va_recv hKc hPc (ci := 9) (q0 := 0) rfl rfl, c_pre hPc hKc hDc hN⟩ rfl rfl hl.1 rfl (lv_room (Nat.le_of_ble_eq_true rfl)) dL_law_506 ⟨Nat.le_of_ble_eq_true rfl, Nat.le_of_ble_eq_true rfl⟩) hS (fun q _ h => hFc q h) hFc (fun r_244 u9 t9 H1 locs ht hvm hw hB hz1 hk1 hS => ?_)
      obtain ⟨hP1, hK1, hD1⟩ := hB
      rw [ht] at hP1
      have hK1 := va_K.moved hvm.symm hK1
      obtain ⟨hP, hD⟩ := va_join (wr := [(q_1, .inr (8, [.ref a_3, .ref a_4, .ref a_5, .ref a_6, .ref a_7, .ref a_8, .ref a_9, .ref a_10, .ref a_11, .int 0, .int 0, .int 0, .int 0, .int 0, .int 0])), (a_8, .inl (j_29, 20, .inr (.inr (.inr (.inr (fun _ => none))))))]) (w1 := []) hP hD [2] [0, 1] rfl rfl (by decide) (by decide) hk1 hFc hP1 hD1
      have hK := (hK.sub (tys' := [(j_13, .int), (g_19, .array .int), (g_20, .array .int), (ky_21, .int), (kt_22, .int), (kz_23, .boolean), (kr_24, .int), (j_27, .int), (j_28, .object "YamRiders$Horse"), (j_29, .object "YamRiders$Tablet"), (j_30, .object "YamRiders$Rider"), (j_31, .object "YamRiders$Rider"), (j_33, .int), (k_tape_70, .byte), (k_law_71, .int), (k_fresh_72, .int), (k_isTold_73, .boolean), (k_hours_74, .int), (k_snow_75, .int), (k_least_76, .int), (k_fodder_77, .int), (k_strength_78, .int), (k_stands_79, .int), (k_rank_80, .int), (k_voidSince_81, .int), (k_newsSince_82, .int), (k_ways_83, .int), (k_wayMany_84, .int), (k_tabletOf_85, .int), (k_state_86, .int), (k_come_87, .int), (k_cameIn_88, .int), (k_horseOf_89, .int), (k_due_90, .int), (k_time_91, .int), (k_brings_92, .int), (k_loose_93, .boolean), (k_asked_94, .boolean), (k_led_95, .int), (k_cost_96, .int), (k_left_97, .int), (k_wants_98, .int), (k_toGiver_99, .int), (k_toTaker_100, .int), (k_giverBy_101, .int), (k_takerBy_102, .int), (k_105, .long)]) [0, 1, 2, 3, 4, 5, 6, 7, 8, 9, 10, 11, 12, 13, 14, 15, 16, 17, 18, 19, 20, 21, 22, 23, 24, 25, 26, 27, 28, 29, 30, 31, 32, 33, 34, 35, 36, 37, 38, 39, 40, 41, 42, 43, 44, 45, 46] rfl).app hK1
      generalize H1 = H at hP hS ⊢
      have hK : va_K (dC, dI) vwCl [(j_13, .int), (g_19, .array .int), (g_20, .array .int), (ky_21, .int), (kt_22, .int), (kz_23, .boolean), (kr_24, .int), (j_27, .int), (j_28, .object "YamRiders$Horse"), (j_29, .object "YamRiders$Tablet"), (j_30, .object "YamRiders$Rider"), (j_31, .object "YamRiders$Rider"), (j_33, .int), (k_tape_70, .byte), (k_law_71, .int), (k_fresh_72, .int), (k_isTold_73, .boolean), (k_hours_74, .int), (k_snow_75, .int), (k_least_76, .int), (k_fodder_77, .int), (k_strength_78, .int), (k_stands_79, .int), (k_rank_80, .int), (k_voidSince_81, .int), (k_newsSince_82, .int), (k_ways_83, .int), (k_wayMany_84, .int), (k_tabletOf_85, .int), (k_state_86, .int), (k_come_87, .int), (k_cameIn_88, .int), (k_horseOf_89, .int), (k_due_90, .int), (k_time_91, .int), (k_brings_92, .int), (k_loose_93, .boolean), (k_asked_94, .boolean), (k_led_95, .int), (k_cost_96, .int), (k_left_97, .int), (k_wants_98, .int), (k_toGiver_99, .int), (k_toTaker_100, .int), (k_giverBy_101, .int), (k_takerBy_102, .int), (k_105, .long)] s := hK
      have hP : va_P (dC, dI) vwCl [(q_1, .inr (8, [.ref a_3, .ref a_4, .ref a_5, .ref a_6, .ref a_7, .ref a_8, .ref a_9, .ref a_10, .ref a_11, .int 0, .int 0, .int 0, .int 0, .int 0, .int 0])), (a_8, .inl (j_29, 20, .inr (.inr (.inr (.inr (fun _ => none))))))] H := hP
      have hD : va_D (fun q : Nat => s.heap.size ≤ q) [(q_1, .inr (8, [.ref a_3, .ref a_4, .ref a_5, .ref a_6, .ref a_7, .ref a_8, .ref a_9, .ref a_10, .ref a_11, .int 0, .int 0, .int 0, .int 0, .int 0, .int 0])), (a_8, .inl (j_29, 20, .inr (.inr (.inr (.inr (fun _ => none))))))] := hD
      try dsimp only at hw
      subst hw
      refine W.widen (k := 102) (n := 4433) (Nat.le_of_ble_eq_true rfl) (Nat.le_of_ble_eq_true rfl) ?_
      refine lv_icmp_eq (tgt := 948) hx hb dL_law_509 (by decide) (fun _ => ?_) (fun c_245 => by first | exact absurd c_245 (by decide) | exact absurd (by decide) c_245)
      refine lv_iinc (v := 6) (lv' := [(4, .int 6), (3, .ref q_104), (2, .ref q_35), (1, .ref q_1), (0, .ref b)]) hx hb dL_law_948 hl (k := 0) rfl (by decide) (by decide) rfl (fun ls hl => ?_)
      refine lv_goto (tgt := 23) hx hb dL_law_951 (by decide) ?_
      refine lv_iload hx hb dL_law_23 (lv_at hl 0 rfl) ?_
      refine lv_aload_n hx hb dL_law_25 rfl (lv_at hl 4 rfl) ?_
      refine va_slen hx hb hX hbl hbA hS dL_law_26 ?_
      refine lv_bipush (v := 6) hx hb dL_law_27 (by decide) ?_
      refine lv_isub hx hb dL_law_29 ?_
      refine lv_topi (fun y_246 ey_246 => ?_)
      obtain rfl : y_246 = 0 := ey_246.trans (by decide)
      refine lv_icmp_gt (tgt := 954) hx hb dL_law_30 (by decide) (fun _ => ?_) (fun c_247 => by first | exact absurd c_247 (by decide) | exact absurd (by decide) c_247)
      refine lv_iconst (v := 1) hx hb dL_law_954 (by decide) ?_
      refine va_forget (fun q hq => hS.2.2 q hq) ?_
      refine W.widen (k := 600002) (n := 7302232) (Nat.le_of_ble_eq_true rfl) (Nat.le_of_ble_eq_true rfl) ?_
      exact lw_ret hx hb hr hlocks dL_law_955
    by_cases c_248 : (xs 0) &&& 31 = 10
    · refine lv_tableIn (tgt := 514) (off := 474) hx hb dL_law_40 (by rw [c_248]; decide) (by rw [c_248]; decide) (by rw [c_248]; decide) (by decide) ?_
      have hP := hP.sub (ws' := [(q_1, .inr (8, [.ref a_3, .ref a_4, .ref a_5, .ref a_6, .ref a_7, .ref a_8, .ref a_9, .ref a_10, .ref a_11, .int 0, .int 0, .int 0, .int 0, .int 0, .int 0])), (a_8, .inl (j_29, 20, .inr (.inr (.inr (.inr (fun _ => none)))))), (q_35, .inr (9, [.int 0, .ref m_37, .int 0, .int 0, .int 0, .ref m_38, .ref m_39, .ref m_40, .int 0, .int 0, .int 0, .int 0, .int 0, .int 0, .long 0, .ref m_41, .ref m_42, .ref m_43, .ref m_44, .ref m_45, .ref m_46, .int 0, .ref m_47, .ref m_48, .ref m_49, .ref m_50, .ref m_51, .ref m_52, .ref m_53, .ref m_54, .ref m_55, .ref m_56, .ref m_57, .ref m_58, .ref m_59, .int 0, .int 0, .ref m_60, .ref m_61, .ref m_62, .ref m_63, .ref m_64, .ref m_65, .ref m_66, .ref m_67, .ref m_68, .ref m_69]))]) [0, 35, 40] rfl
      have hD := hD.sub (ws' := [(q_1, .inr (8, [.ref a_3, .ref a_4, .ref a_5, .ref a_6, .ref a_7, .ref a_8, .ref a_9, .ref a_10, .ref a_11, .int 0, .int 0, .int 0, .int 0, .int 0, .int 0])), (a_8, .inl (j_29, 20, .inr (.inr (.inr (.inr (fun _ => none)))))), (q_35, .inr (9, [.int 0, .ref m_37, .int 0, .int 0, .int 0, .ref m_38, .ref m_39, .ref m_40, .int 0, .int 0, .int 0, .int 0, .int 0, .int 0, .long 0, .ref m_41, .ref m_42, .ref m_43, .ref m_44, .ref m_45, .ref m_46, .int 0, .ref m_47, .ref m_48, .ref m_49, .ref m_50, .ref m_51, .ref m_52, .ref m_53, .ref m_54, .ref m_55, .ref m_56, .ref m_57, .ref m_58, .ref m_59, .int 0, .int 0, .ref m_60, .ref m_61, .ref m_62, .ref m_63, .ref m_64, .ref m_65, .ref m_66, .ref m_67, .ref m_68, .ref m_69]))]) [0, 35, 40] (by decide) rfl
      refine lv_aload_n hx hb dL_law_514 rfl (lv_at hl 3 rfl) ?_
      refine lv_aload_n hx hb dL_law_515 rfl (lv_at hl 4 rfl) ?_
      refine lv_iload hx hb dL_law_516 (lv_at hl 0 rfl) ?_
      refine lv_iconst (v := 1) hx hb dL_law_518 (by decide) ?_
      refine lv_iadd hx hb dL_law_519 ?_
      refine lv_topi (fun y_249 ey_249 => ?_)
      obtain rfl : y_249 = 1 := ey_249.trans (by decide)
      refine va_sld hx hb hX hbl hbA hS (by unfold vp_in; decide) dL_law_520 ?_
      refine lv_topi (fun v_250 ev_250 => ?_)
      obtain rfl : v_250 = xs 1 := ev_250.trans rfl
      refine lv_aload_n hx hb dL_law_521 rfl (lv_at hl 4 rfl) ?_
      refine lv_iload hx hb dL_law_522 (lv_at hl 0 rfl) ?_
      refine lv_iconst (v := 2) hx hb dL_law_524 (by decide) ?_
      refine lv_iadd hx hb dL_law_525 ?_
      refine lv_topi (fun y_251 ey_251 => ?_)
      obtain rfl : y_251 = 2 := ey_251.trans (by decide)
      refine va_sld hx hb hX hbl hbA hS (by unfold vp_in; decide) dL_law_526 ?_
      refine lv_topi (fun v_252 ev_252 => ?_)
      obtain rfl : v_252 = xs 2 := ev_252.trans rfl
      have hPc := hP.sub (ws' := [(q_1, .inr (8, [.ref a_3, .ref a_4, .ref a_5, .ref a_6, .ref a_7, .ref a_8, .ref a_9, .ref a_10, .ref a_11, .int 0, .int 0, .int 0, .int 0, .int 0, .int 0])), (a_8, .inl (j_29, 20, .inr (.inr (.inr (.inr (fun _ => none))))))]) [0, 1] rfl
      have hDc := hD.sub (ws' := [(q_1, .inr (8, [.ref a_3, .ref a_4, .ref a_5, .ref a_6, .ref a_7, .ref a_8, .ref a_9, .ref a_10, .ref a_11, .int 0, .int 0, .int 0, .int 0, .int 0, .int 0])), (a_8, .inl (j_29, 20, .inr (.inr (.inr (.inr (fun _ => none))))))]) [0, 1] (by decide) rfl
      have hKc := hK.sub (tys' := [(j_29, .object "YamRiders$Tablet")]) [9] rfl
      refine cs_i (va_runV (As := [.int (xs 1), .int (xs 2)]) (rest := []) ⟨hx, hb, hml, hown, hts⟩ (c_X8_cancel l dC dI q_1 a_3 a_4 a_5 a_6 a_7 a_8 a_9 a_10 a_11 j_29 (xs 1) (xs 2) H.size) (cwV 2 hts gL_law_X8_cancel rfl rfl rfl (by decide +kernel) ⟨Nat.le_of_ble_eq_true rfl, Nat.le_of_ble_eq_true rfl⟩) ⟨c_blind, va_recv hKc hPc (ci := 8) (q0 := 0) rfl rfl, c_pre hPc hKc hDc hN⟩ rfl rfl hl.1 rfl (lv_room (Nat.le_of_ble_eq_true rfl)) dL_law_527 ⟨Nat.le_of_ble_eq_true rfl, Nat.le_of_ble_eq_true rfl⟩) (fun r_253 hr_253 => ?_)
      subst hr_253
      refine lv_aload_n hx hb dL_law_530 rfl (lv_at hl 2 rfl) ?_
      refine lv_aload_n hx hb dL_law_531 rfl (lv_at hl 4 rfl) ?_
      refine lv_iload hx hb dL_law_532 (lv_at hl 0 rfl) ?_
      refine lv_iconst (v := 1) hx hb dL_law_534 (by decide) ?_
      refine lv_iadd hx hb dL_law_535 ?_
      refine lv_topi (fun y_254 ey_254 => ?_)
      obtain rfl : y_254 = 1 := ey_254.trans (by decide)
      refine va_sld hx hb hX hbl hbA hS (by unfold vp_in; decide) dL_law_536 ?_
      refine lv_topi (fun v_255 ev_255 => ?_)
      obtain rfl : v_255 = xs 1 := ev_255.trans rfl
      refine lv_aload_n hx hb dL_law_537 rfl (lv_at hl 4 rfl) ?_
      refine lv_iload hx hb dL_law_538 (lv_at hl 0 rfl) ?_
      refine lv_iconst (v := 2) hx hb dL_law_540 (by decide) ?_
      refine lv_iadd hx hb dL_law_541 ?_
      refine lv_topi (fun y_256 ey_256 => ?_)
      obtain rfl : y_256 = 2 := ey_256.trans (by decide)
      refine va_sld hx hb hX hbl hbA hS (by unfold vp_in; decide) dL_law_542 ?_
      refine lv_topi (fun v_257 ev_257 => ?_)
      obtain rfl : v_257 = xs 2 := ev_257.trans rfl
      have hPc := hP.sub (ws' := [(q_35, .inr (9, [.int 0, .ref m_37, .int 0, .int 0, .int 0, .ref m_38, .ref m_39, .ref m_40, .int 0, .int 0, .int 0, .int 0, .int 0, .int 0, .long 0, .ref m_41, .ref m_42, .ref m_43, .ref m_44, .ref m_45, .ref m_46, .int 0, .ref m_47, .ref m_48, .ref m_49, .ref m_50, .ref m_51, .ref m_52, .ref m_53, .ref m_54, .ref m_55, .ref m_56, .ref m_57, .ref m_58, .ref m_59, .int 0, .int 0, .ref m_60, .ref m_61, .ref m_62, .ref m_63, .ref m_64, .ref m_65, .ref m_66, .ref m_67, .ref m_68, .ref m_69]))]) [2] rfl
      have hDc := hD.sub (ws' := [(q_35, .inr (9, [.int 0, .ref m_37, .int 0, .int 0, .int 0, .ref m_38, .ref m_39, .ref m_40, .int 0, .int 0, .int 0, .int 0, .int 0, .int 0, .long 0, .ref m_41, .ref m_42, .ref m_43, .ref m_44, .ref m_45, .ref m_46, .int 0, .ref m_47, .ref m_48, .ref m_49, .ref m_50, .ref m_51, .ref m_52, .ref m_53, .ref m_54, .ref m_55, .ref m_56, .ref m_57, .ref m_58, .ref m_59, .int 0, .int 0, .ref m_60, .ref m_61, .ref m_62, .ref m_63, .ref m_64, .ref m_65, .ref m_66, .ref m_67, .ref m_68, .ref m_69]))]) [2] (by decide) rfl
      have hKc := hK.sub (tys' := []) [] rfl
      have hFc := va_free (wc := [(q_35, .inr (9, [.int 0, .ref m_37, .int 0, .int 0, .int 0, .ref m_38, .ref m_39, .ref m_40, .int 0, .int 0, .int 0, .int 0, .int 0, .int 0, .long 0, .ref m_41, .ref m_42, .ref m_43, .ref m_44, .ref m_45, .ref m_46, .int 0, .ref m_47, .ref m_48, .ref m_49, .ref m_50, .ref m_51, .ref m_52, .ref m_53, .ref m_54, .ref m_55, .ref m_56, .ref m_57, .ref m_58, .ref m_59, .int 0, .int 0, .ref m_60, .ref m_61, .ref m_62, .ref m_63, .ref m_64, .ref m_65, .ref m_66, .ref m_67, .ref m_68, .ref m_69]))]) hD hS hA [2] rfl
      refine va_calli (va_runV (As := [.int (xs 1), .int (xs 2)]) (rest := [.int 0]) ⟨hx, hb, hml, hown, hts⟩ (c_X9_cancel l dC dI q_35 m_37 m_38 m_39 m_40 m_41 m_42 m_43 m_44 m_45 m_46 m_47 m_48 m_49 m_50 m_51 m_52 m_53 m_54 m_55 m_56 m_57 m_58 m_59 m_60 m_61 m_62 m_63 m_64 m_65 m_66 m_67 m_68 m_69 (xs 1) (xs 2) H.size) (cwV 2 hts gL_law_X9_cancel rfl rfl rfl (by decide +kernel) ⟨Nat.le_of_ble_eq_true rfl, Nat.le_of_ble_eq_true rfl⟩) ⟨c_blind, va_recv hKc hPc (ci := 9) (q0 := 0) rfl rfl, c_pre hPc hKc hDc hN⟩ rfl rfl hl.1 rfl (lv_room (Nat.le_of_ble_eq_true rfl)) dL_law_543 ⟨Nat.le_of_ble_eq_true rfl, Nat.le_of_ble_eq_true rfl⟩) hS (fun q _ h => hFc q h) hFc (fun r_258 u9 t9 H1 locs ht hvm hw hB hz1 hk1 hS => ?_)
      obtain ⟨hP1, hK1, hD1⟩ := hB
      rw [ht] at hP1
      have hK1 := va_K.moved hvm.symm hK1
      obtain ⟨hP, hD⟩ := va_join (wr := [(q_1, .inr (8, [.ref a_3, .ref a_4, .ref a_5, .ref a_6, .ref a_7, .ref a_8, .ref a_9, .ref a_10, .ref a_11, .int 0, .int 0, .int 0, .int 0, .int 0, .int 0])), (a_8, .inl (j_29, 20, .inr (.inr (.inr (.inr (fun _ => none))))))]) (w1 := []) hP hD [2] [0, 1] rfl rfl (by decide) (by decide) hk1 hFc hP1 hD1
      have hK := (hK.sub (tys' := [(j_13, .int), (g_19, .array .int), (g_20, .array .int), (ky_21, .int), (kt_22, .int), (kz_23, .boolean), (kr_24, .int), (j_27, .int), (j_28, .object "YamRiders$Horse"), (j_29, .object "YamRiders$Tablet"), (j_30, .object "YamRiders$Rider"), (j_31, .object "YamRiders$Rider"), (j_33, .int), (k_tape_70, .byte), (k_law_71, .int), (k_fresh_72, .int), (k_isTold_73, .boolean), (k_hours_74, .int), (k_snow_75, .int), (k_least_76, .int), (k_fodder_77, .int), (k_strength_78, .int), (k_stands_79, .int), (k_rank_80, .int), (k_voidSince_81, .int), (k_newsSince_82, .int), (k_ways_83, .int), (k_wayMany_84, .int), (k_tabletOf_85, .int), (k_state_86, .int), (k_come_87, .int), (k_cameIn_88, .int), (k_horseOf_89, .int), (k_due_90, .int), (k_time_91, .int), (k_brings_92, .int), (k_loose_93, .boolean), (k_asked_94, .boolean), (k_led_95, .int), (k_cost_96, .int), (k_left_97, .int), (k_wants_98, .int), (k_toGiver_99, .int), (k_toTaker_100, .int), (k_giverBy_101, .int), (k_takerBy_102, .int), (k_105, .long)]) [0, 1, 2, 3, 4, 5, 6, 7, 8, 9, 10, 11, 12, 13, 14, 15, 16, 17, 18, 19, 20, 21, 22, 23, 24, 25, 26, 27, 28, 29, 30, 31, 32, 33, 34, 35, 36, 37, 38, 39, 40, 41, 42, 43, 44, 45, 46] rfl).app hK1
      generalize H1 = H at hP hS ⊢
      have hK : va_K (dC, dI) vwCl [(j_13, .int), (g_19, .array .int), (g_20, .array .int), (ky_21, .int), (kt_22, .int), (kz_23, .boolean), (kr_24, .int), (j_27, .int), (j_28, .object "YamRiders$Horse"), (j_29, .object "YamRiders$Tablet"), (j_30, .object "YamRiders$Rider"), (j_31, .object "YamRiders$Rider"), (j_33, .int), (k_tape_70, .byte), (k_law_71, .int), (k_fresh_72, .int), (k_isTold_73, .boolean), (k_hours_74, .int), (k_snow_75, .int), (k_least_76, .int), (k_fodder_77, .int), (k_strength_78, .int), (k_stands_79, .int), (k_rank_80, .int), (k_voidSince_81, .int), (k_newsSince_82, .int), (k_ways_83, .int), (k_wayMany_84, .int), (k_tabletOf_85, .int), (k_state_86, .int), (k_come_87, .int), (k_cameIn_88, .int), (k_horseOf_89, .int), (k_due_90, .int), (k_time_91, .int), (k_brings_92, .int), (k_loose_93, .boolean), (k_asked_94, .boolean), (k_led_95, .int), (k_cost_96, .int), (k_left_97, .int), (k_wants_98, .int), (k_toGiver_99, .int), (k_toTaker_100, .int), (k_giverBy_101, .int), (k_takerBy_102, .int), (k_105, .long)] s := hK
      have hP : va_P (dC, dI) vwCl [(q_1, .inr (8, [.ref a_3, .ref a_4, .ref a_5, .ref a_6, .ref a_7, .ref a_8, .ref a_9, .ref a_10, .ref a_11, .int 0, .int 0, .int 0, .int 0, .int 0, .int 0])), (a_8, .inl (j_29, 20, .inr (.inr (.inr (.inr (fun _ => none))))))] H := hP
      have hD : va_D (fun q : Nat => s.heap.size ≤ q) [(q_1, .inr (8, [.ref a_3, .ref a_4, .ref a_5, .ref a_6, .ref a_7, .ref a_8, .ref a_9, .ref a_10, .ref a_11, .int 0, .int 0, .int 0, .int 0, .int 0, .int 0])), (a_8, .inl (j_29, 20, .inr (.inr (.inr (.inr (fun _ => none))))))] := hD
      try dsimp only at hw
      subst hw
      refine W.widen (k := 102) (n := 4433) (Nat.le_of_ble_eq_true rfl) (Nat.le_of_ble_eq_true rfl) ?_
      refine lv_icmp_eq (tgt := 948) hx hb dL_law_546 (by decide) (fun _ => ?_) (fun c_259 => by first | exact absurd c_259 (by decide) | exact absurd (by decide) c_259)
      refine lv_iinc (v := 6) (lv' := [(4, .int 6), (3, .ref q_104), (2, .ref q_35), (1, .ref q_1), (0, .ref b)]) hx hb dL_law_948 hl (k := 0) rfl (by decide) (by decide) rfl (fun ls hl => ?_)
      refine lv_goto (tgt := 23) hx hb dL_law_951 (by decide) ?_
      refine lv_iload hx hb dL_law_23 (lv_at hl 0 rfl) ?_
      refine lv_aload_n hx hb dL_law_25 rfl (lv_at hl 4 rfl) ?_
      refine va_slen hx hb hX hbl hbA hS dL_law_26 ?_
      refine lv_bipush (v := 6) hx hb dL_law_27 (by decide) ?_
      refine lv_isub hx hb dL_law_29 ?_
      refine lv_topi (fun y_260 ey_260 => ?_)
      obtain rfl : y_260 = 0 := ey_260.trans (by decide)
      refine lv_icmp_gt (tgt := 954) hx hb dL_law_30 (by decide) (fun _ => ?_) (fun c_261 => by first | exact absurd c_261 (by decide) | exact absurd (by decide) c_261)
      refine lv_iconst (v := 1) hx hb dL_law_954 (by decide) ?_
      refine va_forget (fun q hq => hS.2.2 q hq) ?_
      refine W.widen (k := 600002) (n := 7302232) (Nat.le_of_ble_eq_true rfl) (Nat.le_of_ble_eq_true rfl) ?_
      exact lw_ret hx hb hr hlocks dL_law_955
    by_cases c_262 : (xs 0) &&& 31 = 11
    · refine lv_tableIn (tgt := 551) (off := 511) hx hb dL_law_40 (by rw [c_262]; decide) (by rw [c_262]; decide) (by rw [c_262]; decide) (by decide) ?_
      have hP := hP.sub (ws' := [(q_1, .inr (8, [.ref a_3, .ref a_4, .ref a_5, .ref a_6, .ref a_7, .ref a_8, .ref a_9, .ref a_10, .ref a_11, .int 0, .int 0, .int 0, .int 0, .int 0, .int 0])), (a_9, .inl (j_30, 60, .inr (.inr (.inr (.inr (fun _ => none)))))), (q_35, .inr (9, [.int 0, .ref m_37, .int 0, .int 0, .int 0, .ref m_38, .ref m_39, .ref m_40, .int 0, .int 0, .int 0, .int 0, .int 0, .int 0, .long 0, .ref m_41, .ref m_42, .ref m_43, .ref m_44, .ref m_45, .ref m_46, .int 0, .ref m_47, .ref m_48, .ref m_49, .ref m_50, .ref m_51, .ref m_52, .ref m_53, .ref m_54, .ref m_55, .ref m_56, .ref m_57, .ref m_58, .ref m_59, .int 0, .int 0, .ref m_60, .ref m_61, .ref m_62, .ref m_63, .ref m_64, .ref m_65, .ref m_66, .ref m_67, .ref m_68, .ref m_69]))]) [0, 36, 40] rfl
      have hD := hD.sub (ws' := [(q_1, .inr (8, [.ref a_3, .ref a_4, .ref a_5, .ref a_6, .ref a_7, .ref a_8, .ref a_9, .ref a_10, .ref a_11, .int 0, .int 0, .int 0, .int 0, .int 0, .int 0])), (a_9, .inl (j_30, 60, .inr (.inr (.inr (.inr (fun _ => none)))))), (q_35, .inr (9, [.int 0, .ref m_37, .int 0, .int 0, .int 0, .ref m_38, .ref m_39, .ref m_40, .int 0, .int 0, .int 0, .int 0, .int 0, .int 0, .long 0, .ref m_41, .ref m_42, .ref m_43, .ref m_44, .ref m_45, .ref m_46, .int 0, .ref m_47, .ref m_48, .ref m_49, .ref m_50, .ref m_51, .ref m_52, .ref m_53, .ref m_54, .ref m_55, .ref m_56, .ref m_57, .ref m_58, .ref m_59, .int 0, .int 0, .ref m_60, .ref m_61, .ref m_62, .ref m_63, .ref m_64, .ref m_65, .ref m_66, .ref m_67, .ref m_68, .ref m_69]))]) [0, 36, 40] (by decide) rfl
      refine lv_aload_n hx hb dL_law_551 rfl (lv_at hl 3 rfl) ?_
      refine lv_aload_n hx hb dL_law_552 rfl (lv_at hl 4 rfl) ?_
      refine lv_iload hx hb dL_law_553 (lv_at hl 0 rfl) ?_
      refine lv_iconst (v := 1) hx hb dL_law_555 (by decide) ?_
      refine lv_iadd hx hb dL_law_556 ?_
      refine lv_topi (fun y_263 ey_263 => ?_)
      obtain rfl : y_263 = 1 := ey_263.trans (by decide)
      refine va_sld hx hb hX hbl hbA hS (by unfold vp_in; decide) dL_law_557 ?_
      refine lv_topi (fun v_264 ev_264 => ?_)
      obtain rfl : v_264 = xs 1 := ev_264.trans rfl
      have hPc := hP.sub (ws' := [(q_1, .inr (8, [.ref a_3, .ref a_4, .ref a_5, .ref a_6, .ref a_7, .ref a_8, .ref a_9, .ref a_10, .ref a_11, .int 0, .int 0, .int 0, .int 0, .int 0, .int 0])), (a_9, .inl (j_30, 60, .inr (.inr (.inr (.inr (fun _ => none))))))]) [0, 1] rfl
      have hDc := hD.sub (ws' := [(q_1, .inr (8, [.ref a_3, .ref a_4, .ref a_5, .ref a_6, .ref a_7, .ref a_8, .ref a_9, .ref a_10, .ref a_11, .int 0, .int 0, .int 0, .int 0, .int 0, .int 0])), (a_9, .inl (j_30, 60, .inr (.inr (.inr (.inr (fun _ => none))))))]) [0, 1] (by decide) rfl
      have hKc := hK.sub (tys' := [(j_30, .object "YamRiders$Rider")]) [10] rfl
      refine cs_i (va_runV (As := [.int (xs 1)]) (rest := []) ⟨hx, hb, hml, hown, hts⟩ (c_X8_kill l dC dI q_1 a_3 a_4 a_5 a_6 a_7 a_8 a_9 a_10 a_11 j_30 (xs 1) H.size) (cwV 1 hts gL_law_X8_kill rfl rfl rfl (by decide +kernel) ⟨Nat.le_of_ble_eq_true rfl, Nat.le_of_ble_eq_true rfl⟩) ⟨c_blind, va_recv hKc hPc (ci := 8) (q0 := 0) rfl rfl, c_pre hPc hKc hDc hN⟩ rfl rfl hl.1 rfl (lv_room (Nat.le_of_ble_eq_true rfl)) dL_law_558 ⟨Nat.le_of_ble_eq_true rfl, Nat.le_of_ble_eq_true rfl⟩) (fun r_265 hr_265 => ?_)
      subst hr_265
      refine lv_aload_n hx hb dL_law_561 rfl (lv_at hl 2 rfl) ?_
      refine lv_aload_n hx hb dL_law_562 rfl (lv_at hl 4 rfl) ?_
      refine lv_iload hx hb dL_law_563 (lv_at hl 0 rfl) ?_
      refine lv_iconst (v := 1) hx hb dL_law_565 (by decide) ?_
      refine lv_iadd hx hb dL_law_566 ?_
      refine lv_topi (fun y_266 ey_266 => ?_)
      obtain rfl : y_266 = 1 := ey_266.trans (by decide)
      refine va_sld hx hb hX hbl hbA hS (by unfold vp_in; decide) dL_law_567 ?_
      refine lv_topi (fun v_267 ev_267 => ?_)
      obtain rfl : v_267 = xs 1 := ev_267.trans rfl
      have hPc := hP.sub (ws' := [(q_35, .inr (9, [.int 0, .ref m_37, .int 0, .int 0, .int 0, .ref m_38, .ref m_39, .ref m_40, .int 0, .int 0, .int 0, .int 0, .int 0, .int 0, .long 0, .ref m_41, .ref m_42, .ref m_43, .ref m_44, .ref m_45, .ref m_46, .int 0, .ref m_47, .ref m_48, .ref m_49, .ref m_50, .ref m_51, .ref m_52, .ref m_53, .ref m_54, .ref m_55, .ref m_56, .ref m_57, .ref m_58, .ref m_59, .int 0, .int 0, .ref m_60, .ref m_61, .ref m_62, .ref m_63, .ref m_64, .ref m_65, .ref m_66, .ref m_67, .ref m_68, .ref m_69]))]) [2] rfl
      have hDc := hD.sub (ws' := [(q_35, .inr (9, [.int 0, .ref m_37, .int 0, .int 0, .int 0, .ref m_38, .ref m_39, .ref m_40, .int 0, .int 0, .int 0, .int 0, .int 0, .int 0, .long 0, .ref m_41, .ref m_42, .ref m_43, .ref m_44, .ref m_45, .ref m_46, .int 0, .ref m_47, .ref m_48, .ref m_49, .ref m_50, .ref m_51, .ref m_52, .ref m_53, .ref m_54, .ref m_55, .ref m_56, .ref m_57, .ref m_58, .ref m_59, .int 0, .int 0, .ref m_60, .ref m_61, .ref m_62, .ref m_63, .ref m_64, .ref m_65, .ref m_66, .ref m_67, .ref m_68, .ref m_69]))]) [2] (by decide) rfl
      have hKc := hK.sub (tys' := []) [] rfl
      have hFc := va_free (wc := [(q_35, .inr (9, [.int 0, .ref m_37, .int 0, .int 0, .int 0, .ref m_38, .ref m_39, .ref m_40, .int 0, .int 0, .int 0, .int 0, .int 0, .int 0, .long 0, .ref m_41, .ref m_42, .ref m_43, .ref m_44, .ref m_45, .ref m_46, .int 0, .ref m_47, .ref m_48, .ref m_49, .ref m_50, .ref m_51, .ref m_52, .ref m_53, .ref m_54, .ref m_55, .ref m_56, .ref m_57, .ref m_58, .ref m_59, .int 0, .int 0, .ref m_60, .ref m_61, .ref m_62, .ref m_63, .ref m_64, .ref m_65, .ref m_66, .ref m_67, .ref m_68, .ref m_69]))]) hD hS hA [2] rfl
      refine va_calli (va_runV (As := [.int (xs 1)]) (rest := [.int 0]) ⟨hx, hb, hml, hown, hts⟩ (c_X9_kill l dC dI q_35 m_37 m_38 m_39 m_40 m_41 m_42 m_43 m_44 m_45 m_46 m_47 m_48 m_49 m_50 m_51 m_52 m_53 m_54 m_55 m_56 m_57 m_58 m_59 m_60 m_61 m_62 m_63 m_64 m_65 m_66 m_67 m_68 m_69 (xs 1) H.size) (cwV 1 hts gL_law_X9_kill rfl rfl rfl (by decide +kernel) ⟨Nat.le_of_ble_eq_true rfl, Nat.le_of_ble_eq_true rfl⟩) ⟨c_blind, va_recv hKc hPc (ci := 9) (q0 := 0) rfl rfl, c_pre hPc hKc hDc hN⟩ rfl rfl hl.1 rfl (lv_room (Nat.le_of_ble_eq_true rfl)) dL_law_568 ⟨Nat.le_of_ble_eq_true rfl, Nat.le_of_ble_eq_true rfl⟩) hS (fun q _ h => hFc q h) hFc (fun r_268 u9 t9 H1 locs ht hvm hw hB hz1 hk1 hS => ?_)
      obtain ⟨hP1, hK1, hD1⟩ := hB
      rw [ht] at hP1
      have hK1 := va_K.moved hvm.symm hK1
      obtain ⟨hP, hD⟩ := va_join (wr := [(q_1, .inr (8, [.ref a_3, .ref a_4, .ref a_5, .ref a_6, .ref a_7, .ref a_8, .ref a_9, .ref a_10, .ref a_11, .int 0, .int 0, .int 0, .int 0, .int 0, .int 0])), (a_9, .inl (j_30, 60, .inr (.inr (.inr (.inr (fun _ => none))))))]) (w1 := []) hP hD [2] [0, 1] rfl rfl (by decide) (by decide) hk1 hFc hP1 hD1
      have hK := (hK.sub (tys' := [(j_13, .int), (g_19, .array .int), (g_20, .array .int), (ky_21, .int), (kt_22, .int), (kz_23, .boolean), (kr_24, .int), (j_27, .int), (j_28, .object "YamRiders$Horse"), (j_29, .object "YamRiders$Tablet"), (j_30, .object "YamRiders$Rider"), (j_31, .object "YamRiders$Rider"), (j_33, .int), (k_tape_70, .byte), (k_law_71, .int), (k_fresh_72, .int), (k_isTold_73, .boolean), (k_hours_74, .int), (k_snow_75, .int), (k_least_76, .int), (k_fodder_77, .int), (k_strength_78, .int), (k_stands_79, .int), (k_rank_80, .int), (k_voidSince_81, .int), (k_newsSince_82, .int), (k_ways_83, .int), (k_wayMany_84, .int), (k_tabletOf_85, .int), (k_state_86, .int), (k_come_87, .int), (k_cameIn_88, .int), (k_horseOf_89, .int), (k_due_90, .int), (k_time_91, .int), (k_brings_92, .int), (k_loose_93, .boolean), (k_asked_94, .boolean), (k_led_95, .int), (k_cost_96, .int), (k_left_97, .int), (k_wants_98, .int), (k_toGiver_99, .int), (k_toTaker_100, .int), (k_giverBy_101, .int), (k_takerBy_102, .int), (k_105, .long)]) [0, 1, 2, 3, 4, 5, 6, 7, 8, 9, 10, 11, 12, 13, 14, 15, 16, 17, 18, 19, 20, 21, 22, 23, 24, 25, 26, 27, 28, 29, 30, 31, 32, 33, 34, 35, 36, 37, 38, 39, 40, 41, 42, 43, 44, 45, 46] rfl).app hK1
      generalize H1 = H at hP hS ⊢
      have hK : va_K (dC, dI) vwCl [(j_13, .int), (g_19, .array .int), (g_20, .array .int), (ky_21, .int), (kt_22, .int), (kz_23, .boolean), (kr_24, .int), (j_27, .int), (j_28, .object "YamRiders$Horse"), (j_29, .object "YamRiders$Tablet"), (j_30, .object "YamRiders$Rider"), (j_31, .object "YamRiders$Rider"), (j_33, .int), (k_tape_70, .byte), (k_law_71, .int), (k_fresh_72, .int), (k_isTold_73, .boolean), (k_hours_74, .int), (k_snow_75, .int), (k_least_76, .int), (k_fodder_77, .int), (k_strength_78, .int), (k_stands_79, .int), (k_rank_80, .int), (k_voidSince_81, .int), (k_newsSince_82, .int), (k_ways_83, .int), (k_wayMany_84, .int), (k_tabletOf_85, .int), (k_state_86, .int), (k_come_87, .int), (k_cameIn_88, .int), (k_horseOf_89, .int), (k_due_90, .int), (k_time_91, .int), (k_brings_92, .int), (k_loose_93, .boolean), (k_asked_94, .boolean), (k_led_95, .int), (k_cost_96, .int), (k_left_97, .int), (k_wants_98, .int), (k_toGiver_99, .int), (k_toTaker_100, .int), (k_giverBy_101, .int), (k_takerBy_102, .int), (k_105, .long)] s := hK
      have hP : va_P (dC, dI) vwCl [(q_1, .inr (8, [.ref a_3, .ref a_4, .ref a_5, .ref a_6, .ref a_7, .ref a_8, .ref a_9, .ref a_10, .ref a_11, .int 0, .int 0, .int 0, .int 0, .int 0, .int 0])), (a_9, .inl (j_30, 60, .inr (.inr (.inr (.inr (fun _ => none))))))] H := hP
      have hD : va_D (fun q : Nat => s.heap.size ≤ q) [(q_1, .inr (8, [.ref a_3, .ref a_4, .ref a_5, .ref a_6, .ref a_7, .ref a_8, .ref a_9, .ref a_10, .ref a_11, .int 0, .int 0, .int 0, .int 0, .int 0, .int 0])), (a_9, .inl (j_30, 60, .inr (.inr (.inr (.inr (fun _ => none))))))] := hD
      try dsimp only at hw
      subst hw
      refine W.widen (k := 102) (n := 4433) (Nat.le_of_ble_eq_true rfl) (Nat.le_of_ble_eq_true rfl) ?_
      refine lv_icmp_eq (tgt := 948) hx hb dL_law_571 (by decide) (fun _ => ?_) (fun c_269 => by first | exact absurd c_269 (by decide) | exact absurd (by decide) c_269)
      refine lv_iinc (v := 6) (lv' := [(4, .int 6), (3, .ref q_104), (2, .ref q_35), (1, .ref q_1), (0, .ref b)]) hx hb dL_law_948 hl (k := 0) rfl (by decide) (by decide) rfl (fun ls hl => ?_)
      refine lv_goto (tgt := 23) hx hb dL_law_951 (by decide) ?_
      refine lv_iload hx hb dL_law_23 (lv_at hl 0 rfl) ?_
      refine lv_aload_n hx hb dL_law_25 rfl (lv_at hl 4 rfl) ?_
      refine va_slen hx hb hX hbl hbA hS dL_law_26 ?_
      refine lv_bipush (v := 6) hx hb dL_law_27 (by decide) ?_
      refine lv_isub hx hb dL_law_29 ?_
      refine lv_topi (fun y_270 ey_270 => ?_)
      obtain rfl : y_270 = 0 := ey_270.trans (by decide)
      refine lv_icmp_gt (tgt := 954) hx hb dL_law_30 (by decide) (fun _ => ?_) (fun c_271 => by first | exact absurd c_271 (by decide) | exact absurd (by decide) c_271)
      refine lv_iconst (v := 1) hx hb dL_law_954 (by decide) ?_
      refine va_forget (fun q hq => hS.2.2 q hq) ?_
      refine W.widen (k := 600002) (n := 7302232) (Nat.le_of_ble_eq_true rfl) (Nat.le_of_ble_eq_true rfl) ?_
      exact lw_ret hx hb hr hlocks dL_law_955
    by_cases c_272 : (xs 0) &&& 31 = 12
    · refine lv_tableIn (tgt := 576) (off := 536) hx hb dL_law_40 (by rw [c_272]; decide) (by rw [c_272]; decide) (by rw [c_272]; decide) (by decide) ?_
      have hP := hP.sub (ws' := [(q_1, .inr (8, [.ref a_3, .ref a_4, .ref a_5, .ref a_6, .ref a_7, .ref a_8, .ref a_9, .ref a_10, .ref a_11, .int 0, .int 0, .int 0, .int 0, .int 0, .int 0])), (a_7, .inl (j_28, 60, .inr (.inr (.inr (.inr (fun _ => none)))))), (a_9, .inl (j_30, 60, .inr (.inr (.inr (.inr (fun _ => none)))))), (q_35, .inr (9, [.int 0, .ref m_37, .int 0, .int 0, .int 0, .ref m_38, .ref m_39, .ref m_40, .int 0, .int 0, .int 0, .int 0, .int 0, .int 0, .long 0, .ref m_41, .ref m_42, .ref m_43, .ref m_44, .ref m_45, .ref m_46, .int 0, .ref m_47, .ref m_48, .ref m_49, .ref m_50, .ref m_51, .ref m_52, .ref m_53, .ref m_54, .ref m_55, .ref m_56, .ref m_57, .ref m_58, .ref m_59, .int 0, .int 0, .ref m_60, .ref m_61, .ref m_62, .ref m_63, .ref m_64, .ref m_65, .ref m_66, .ref m_67, .ref m_68, .ref m_69]))]) [0, 34, 36, 40] rfl
      have hD := hD.sub (ws' := [(q_1, .inr (8, [.ref a_3, .ref a_4, .ref a_5, .ref a_6, .ref a_7, .ref a_8, .ref a_9, .ref a_10, .ref a_11, .int 0, .int 0, .int 0, .int 0, .int 0, .int 0])), (a_7, .inl (j_28, 60, .inr (.inr (.inr (.inr (fun _ => none)))))), (a_9, .inl (j_30, 60, .inr (.inr (.inr (.inr (fun _ => none)))))), (q_35, .inr (9, [.int 0, .ref m_37, .int 0, .int 0, .int 0, .ref m_38, .ref m_39, .ref m_40, .int 0, .int 0, .int 0, .int 0, .int 0, .int 0, .long 0, .ref m_41, .ref m_42, .ref m_43, .ref m_44, .ref m_45, .ref m_46, .int 0, .ref m_47, .ref m_48, .ref m_49, .ref m_50, .ref m_51, .ref m_52, .ref m_53, .ref m_54, .ref m_55, .ref m_56, .ref m_57, .ref m_58, .ref m_59, .int 0, .int 0, .ref m_60, .ref m_61, .ref m_62, .ref m_63, .ref m_64, .ref m_65, .ref m_66, .ref m_67, .ref m_68, .ref m_69]))]) [0, 34, 36, 40] (by decide) rfl
      refine lv_aload_n hx hb dL_law_576 rfl (lv_at hl 3 rfl) ?_
      have hPc := hP.sub (ws' := [(q_1, .inr (8, [.ref a_3, .ref a_4, .ref a_5, .ref a_6, .ref a_7, .ref a_8, .ref a_9, .ref a_10, .ref a_11, .int 0, .int 0, .int 0, .int 0, .int 0, .int 0])), (a_7, .inl (j_28, 60, .inr (.inr (.inr (.inr (fun _ => none)))))), (a_9, .inl (j_30, 60, .inr (.inr (.inr (.inr (fun _ => none))))))]) [0, 1, 2] rfl
      have hDc := hD.sub (ws' := [(q_1, .inr (8, [.ref a_3, .ref a_4, .ref a_5, .ref a_6, .ref a_7, .ref a_8, .ref a_9, .ref a_10, .ref a_11, .int 0, .int 0, .int 0, .int 0, .int 0, .int 0])), (a_7, .inl (j_28, 60, .inr (.inr (.inr (.inr (fun _ => none)))))), (a_9, .inl (j_30, 60, .inr (.inr (.inr (.inr (fun _ => none))))))]) [0, 1, 2] (by decide) rfl
      have hKc := hK.sub (tys' := [(j_28, .object "YamRiders$Horse"), (j_30, .object "YamRiders$Rider")]) [8, 10] rfl
      have hFc := va_free (wc := [(q_1, .inr (8, [.ref a_3, .ref a_4, .ref a_5, .ref a_6, .ref a_7, .ref a_8, .ref a_9, .ref a_10, .ref a_11, .int 0, .int 0, .int 0, .int 0, .int 0, .int 0])), (a_7, .inl (j_28, 60, .inr (.inr (.inr (.inr (fun _ => none)))))), (a_9, .inl (j_30, 60, .inr (.inr (.inr (.inr (fun _ => none))))))]) hD hS hA [0, 1, 2] rfl
      refine va_calli (va_runV (As := []) (rest := []) ⟨hx, hb, hml, hown, hts⟩ (c_X8_next l dC dI q_1 a_3 a_4 a_5 a_6 a_7 a_8 a_9 a_10 a_11 j_28 j_30 H.size) (cwV 0 hts gL_law_X8_next rfl rfl rfl (by decide +kernel) ⟨Nat.le_of_ble_eq_true rfl, Nat.le_of_ble_eq_true rfl⟩) ⟨c_blind, va_recv hKc hPc (ci := 8) (q0 := 0) rfl rfl, c_pre hPc hKc hDc hN⟩ rfl rfl hl.1 rfl (lv_room (Nat.le_of_ble_eq_true rfl)) dL_law_577 ⟨Nat.le_of_ble_eq_true rfl, Nat.le_of_ble_eq_true rfl⟩) hS (fun q _ h => hFc q h) hFc (fun r_273 u9 t9 H1 locs ht hvm hw hB hz1 hk1 hS => ?_)
      obtain ⟨hP1, hK1, hD1⟩ := hB
      rw [ht] at hP1
      have hK1 := va_K.moved hvm.symm hK1
      obtain ⟨hP, hD⟩ := va_join (wr := [(q_35, .inr (9, [.int 0, .ref m_37, .int 0, .int 0, .int 0, .ref m_38, .ref m_39, .ref m_40, .int 0, .int 0, .int 0, .int 0, .int 0, .int 0, .long 0, .ref m_41, .ref m_42, .ref m_43, .ref m_44, .ref m_45, .ref m_46, .int 0, .ref m_47, .ref m_48, .ref m_49, .ref m_50, .ref m_51, .ref m_52, .ref m_53, .ref m_54, .ref m_55, .ref m_56, .ref m_57, .ref m_58, .ref m_59, .int 0, .int 0, .ref m_60, .ref m_61, .ref m_62, .ref m_63, .ref m_64, .ref m_65, .ref m_66, .ref m_67, .ref m_68, .ref m_69]))]) (w1 := []) hP hD [0, 1, 2] [3] rfl rfl (by decide) (by decide) hk1 hFc hP1 hD1
      have hK := (hK.sub (tys' := [(j_13, .int), (g_19, .array .int), (g_20, .array .int), (ky_21, .int), (kt_22, .int), (kz_23, .boolean), (kr_24, .int), (j_27, .int), (j_28, .object "YamRiders$Horse"), (j_29, .object "YamRiders$Tablet"), (j_30, .object "YamRiders$Rider"), (j_31, .object "YamRiders$Rider"), (j_33, .int), (k_tape_70, .byte), (k_law_71, .int), (k_fresh_72, .int), (k_isTold_73, .boolean), (k_hours_74, .int), (k_snow_75, .int), (k_least_76, .int), (k_fodder_77, .int), (k_strength_78, .int), (k_stands_79, .int), (k_rank_80, .int), (k_voidSince_81, .int), (k_newsSince_82, .int), (k_ways_83, .int), (k_wayMany_84, .int), (k_tabletOf_85, .int), (k_state_86, .int), (k_come_87, .int), (k_cameIn_88, .int), (k_horseOf_89, .int), (k_due_90, .int), (k_time_91, .int), (k_brings_92, .int), (k_loose_93, .boolean), (k_asked_94, .boolean), (k_led_95, .int), (k_cost_96, .int), (k_left_97, .int), (k_wants_98, .int), (k_toGiver_99, .int), (k_toTaker_100, .int), (k_giverBy_101, .int), (k_takerBy_102, .int), (k_105, .long)]) [0, 1, 2, 3, 4, 5, 6, 7, 8, 9, 10, 11, 12, 13, 14, 15, 16, 17, 18, 19, 20, 21, 22, 23, 24, 25, 26, 27, 28, 29, 30, 31, 32, 33, 34, 35, 36, 37, 38, 39, 40, 41, 42, 43, 44, 45, 46] rfl).app hK1
      generalize H1 = H at hP hS ⊢
      have hK : va_K (dC, dI) vwCl [(j_13, .int), (g_19, .array .int), (g_20, .array .int), (ky_21, .int), (kt_22, .int), (kz_23, .boolean), (kr_24, .int), (j_27, .int), (j_28, .object "YamRiders$Horse"), (j_29, .object "YamRiders$Tablet"), (j_30, .object "YamRiders$Rider"), (j_31, .object "YamRiders$Rider"), (j_33, .int), (k_tape_70, .byte), (k_law_71, .int), (k_fresh_72, .int), (k_isTold_73, .boolean), (k_hours_74, .int), (k_snow_75, .int), (k_least_76, .int), (k_fodder_77, .int), (k_strength_78, .int), (k_stands_79, .int), (k_rank_80, .int), (k_voidSince_81, .int), (k_newsSince_82, .int), (k_ways_83, .int), (k_wayMany_84, .int), (k_tabletOf_85, .int), (k_state_86, .int), (k_come_87, .int), (k_cameIn_88, .int), (k_horseOf_89, .int), (k_due_90, .int), (k_time_91, .int), (k_brings_92, .int), (k_loose_93, .boolean), (k_asked_94, .boolean), (k_led_95, .int), (k_cost_96, .int), (k_left_97, .int), (k_wants_98, .int), (k_toGiver_99, .int), (k_toTaker_100, .int), (k_giverBy_101, .int), (k_takerBy_102, .int), (k_105, .long)] s := hK
      have hP : va_P (dC, dI) vwCl [(q_35, .inr (9, [.int 0, .ref m_37, .int 0, .int 0, .int 0, .ref m_38, .ref m_39, .ref m_40, .int 0, .int 0, .int 0, .int 0, .int 0, .int 0, .long 0, .ref m_41, .ref m_42, .ref m_43, .ref m_44, .ref m_45, .ref m_46, .int 0, .ref m_47, .ref m_48, .ref m_49, .ref m_50, .ref m_51, .ref m_52, .ref m_53, .ref m_54, .ref m_55, .ref m_56, .ref m_57, .ref m_58, .ref m_59, .int 0, .int 0, .ref m_60, .ref m_61, .ref m_62, .ref m_63, .ref m_64, .ref m_65, .ref m_66, .ref m_67, .ref m_68, .ref m_69]))] H := hP
      have hD : va_D (fun q : Nat => s.heap.size ≤ q) [(q_35, .inr (9, [.int 0, .ref m_37, .int 0, .int 0, .int 0, .ref m_38, .ref m_39, .ref m_40, .int 0, .int 0, .int 0, .int 0, .int 0, .int 0, .long 0, .ref m_41, .ref m_42, .ref m_43, .ref m_44, .ref m_45, .ref m_46, .int 0, .ref m_47, .ref m_48, .ref m_49, .ref m_50, .ref m_51, .ref m_52, .ref m_53, .ref m_54, .ref m_55, .ref m_56, .ref m_57, .ref m_58, .ref m_59, .int 0, .int 0, .ref m_60, .ref m_61, .ref m_62, .ref m_63, .ref m_64, .ref m_65, .ref m_66, .ref m_67, .ref m_68, .ref m_69]))] := hD
      try dsimp only at hw
      subst hw
      refine W.widen (k := 102) (n := 4433) (Nat.le_of_ble_eq_true rfl) (Nat.le_of_ble_eq_true rfl) ?_
      refine lv_aload_n hx hb dL_law_580 rfl (lv_at hl 2 rfl) ?_
      have hPc := hP.sub (ws' := [(q_35, .inr (9, [.int 0, .ref m_37, .int 0, .int 0, .int 0, .ref m_38, .ref m_39, .ref m_40, .int 0, .int 0, .int 0, .int 0, .int 0, .int 0, .long 0, .ref m_41, .ref m_42, .ref m_43, .ref m_44, .ref m_45, .ref m_46, .int 0, .ref m_47, .ref m_48, .ref m_49, .ref m_50, .ref m_51, .ref m_52, .ref m_53, .ref m_54, .ref m_55, .ref m_56, .ref m_57, .ref m_58, .ref m_59, .int 0, .int 0, .ref m_60, .ref m_61, .ref m_62, .ref m_63, .ref m_64, .ref m_65, .ref m_66, .ref m_67, .ref m_68, .ref m_69]))]) [0] rfl
      have hDc := hD.sub (ws' := [(q_35, .inr (9, [.int 0, .ref m_37, .int 0, .int 0, .int 0, .ref m_38, .ref m_39, .ref m_40, .int 0, .int 0, .int 0, .int 0, .int 0, .int 0, .long 0, .ref m_41, .ref m_42, .ref m_43, .ref m_44, .ref m_45, .ref m_46, .int 0, .ref m_47, .ref m_48, .ref m_49, .ref m_50, .ref m_51, .ref m_52, .ref m_53, .ref m_54, .ref m_55, .ref m_56, .ref m_57, .ref m_58, .ref m_59, .int 0, .int 0, .ref m_60, .ref m_61, .ref m_62, .ref m_63, .ref m_64, .ref m_65, .ref m_66, .ref m_67, .ref m_68, .ref m_69]))]) [0] (by decide) rfl
      have hKc := hK.sub (tys' := []) [] rfl
      have hFc := va_free (wc := [(q_35, .inr (9, [.int 0, .ref m_37, .int 0, .int 0, .int 0, .ref m_38, .ref m_39, .ref m_40, .int 0, .int 0, .int 0, .int 0, .int 0, .int 0, .long 0, .ref m_41, .ref m_42, .ref m_43, .ref m_44, .ref m_45, .ref m_46, .int 0, .ref m_47, .ref m_48, .ref m_49, .ref m_50, .ref m_51, .ref m_52, .ref m_53, .ref m_54, .ref m_55, .ref m_56, .ref m_57, .ref m_58, .ref m_59, .int 0, .int 0, .ref m_60, .ref m_61, .ref m_62, .ref m_63, .ref m_64, .ref m_65, .ref m_66, .ref m_67, .ref m_68, .ref m_69]))]) hD hS hA [0] rfl
      refine va_calli (va_runV (As := []) (rest := [.int 1]) ⟨hx, hb, hml, hown, hts⟩ (c_X9_next l dC dI q_35 m_37 m_38 m_39 m_40 m_41 m_42 m_43 m_44 m_45 m_46 m_47 m_48 m_49 m_50 m_51 m_52 m_53 m_54 m_55 m_56 m_57 m_58 m_59 m_60 m_61 m_62 m_63 m_64 m_65 m_66 m_67 m_68 m_69 H.size) (cwV 0 hts gL_law_X9_next rfl rfl rfl (by decide +kernel) ⟨Nat.le_of_ble_eq_true rfl, Nat.le_of_ble_eq_true rfl⟩) ⟨c_blind, va_recv hKc hPc (ci := 9) (q0 := 0) rfl rfl, c_pre hPc hKc hDc hN⟩ rfl rfl hl.1 rfl (lv_room (Nat.le_of_ble_eq_true rfl)) dL_law_581 ⟨Nat.le_of_ble_eq_true rfl, Nat.le_of_ble_eq_true rfl⟩) hS (fun q _ h => hFc q h) hFc (fun r_274 u9 t9 H1 locs ht hvm hw hB hz1 hk1 hS => ?_)
      obtain ⟨hP1, hK1, hD1⟩ := hB
      rw [ht] at hP1
      have hK1 := va_K.moved hvm.symm hK1
      obtain ⟨hP, hD⟩ := va_join (wr := []) (w1 := []) hP hD [0] [] rfl rfl (by decide) (by decide) hk1 hFc hP1 hD1
      have hK := (hK.sub (tys' := [(j_13, .int), (g_19, .array .int), (g_20, .array .int), (ky_21, .int), (kt_22, .int), (kz_23, .boolean), (kr_24, .int), (j_27, .int), (j_28, .object "YamRiders$Horse"), (j_29, .object "YamRiders$Tablet"), (j_30, .object "YamRiders$Rider"), (j_31, .object "YamRiders$Rider"), (j_33, .int), (k_tape_70, .byte), (k_law_71, .int), (k_fresh_72, .int), (k_isTold_73, .boolean), (k_hours_74, .int), (k_snow_75, .int), (k_least_76, .int), (k_fodder_77, .int), (k_strength_78, .int), (k_stands_79, .int), (k_rank_80, .int), (k_voidSince_81, .int), (k_newsSince_82, .int), (k_ways_83, .int), (k_wayMany_84, .int), (k_tabletOf_85, .int), (k_state_86, .int), (k_come_87, .int), (k_cameIn_88, .int), (k_horseOf_89, .int), (k_due_90, .int), (k_time_91, .int), (k_brings_92, .int), (k_loose_93, .boolean), (k_asked_94, .boolean), (k_led_95, .int), (k_cost_96, .int), (k_left_97, .int), (k_wants_98, .int), (k_toGiver_99, .int), (k_toTaker_100, .int), (k_giverBy_101, .int), (k_takerBy_102, .int), (k_105, .long)]) [0, 1, 2, 3, 4, 5, 6, 7, 8, 9, 10, 11, 12, 13, 14, 15, 16, 17, 18, 19, 20, 21, 22, 23, 24, 25, 26, 27, 28, 29, 30, 31, 32, 33, 34, 35, 36, 37, 38, 39, 40, 41, 42, 43, 44, 45, 46] rfl).app hK1
      generalize H1 = H at hP hS ⊢
      have hK : va_K (dC, dI) vwCl [(j_13, .int), (g_19, .array .int), (g_20, .array .int), (ky_21, .int), (kt_22, .int), (kz_23, .boolean), (kr_24, .int), (j_27, .int), (j_28, .object "YamRiders$Horse"), (j_29, .object "YamRiders$Tablet"), (j_30, .object "YamRiders$Rider"), (j_31, .object "YamRiders$Rider"), (j_33, .int), (k_tape_70, .byte), (k_law_71, .int), (k_fresh_72, .int), (k_isTold_73, .boolean), (k_hours_74, .int), (k_snow_75, .int), (k_least_76, .int), (k_fodder_77, .int), (k_strength_78, .int), (k_stands_79, .int), (k_rank_80, .int), (k_voidSince_81, .int), (k_newsSince_82, .int), (k_ways_83, .int), (k_wayMany_84, .int), (k_tabletOf_85, .int), (k_state_86, .int), (k_come_87, .int), (k_cameIn_88, .int), (k_horseOf_89, .int), (k_due_90, .int), (k_time_91, .int), (k_brings_92, .int), (k_loose_93, .boolean), (k_asked_94, .boolean), (k_led_95, .int), (k_cost_96, .int), (k_left_97, .int), (k_wants_98, .int), (k_toGiver_99, .int), (k_toTaker_100, .int), (k_giverBy_101, .int), (k_takerBy_102, .int), (k_105, .long)] s := hK
      have hP : va_P (dC, dI) vwCl [] H := hP
      have hD : va_D (fun q : Nat => s.heap.size ≤ q) [] := hD
      try dsimp only at hw
      subst hw
      refine W.widen (k := 102) (n := 4433) (Nat.le_of_ble_eq_true rfl) (Nat.le_of_ble_eq_true rfl) ?_
      refine lv_icmp_eq (tgt := 948) hx hb dL_law_584 (by decide) (fun _ => ?_) (fun c_275 => by first | exact absurd c_275 (by decide) | exact absurd (by decide) c_275)
      refine lv_iinc (v := 6) (lv' := [(4, .int 6), (3, .ref q_104), (2, .ref q_35), (1, .ref q_1), (0, .ref b)]) hx hb dL_law_948 hl (k := 0) rfl (by decide) (by decide) rfl (fun ls hl => ?_)
      refine lv_goto (tgt := 23) hx hb dL_law_951 (by decide) ?_
      refine lv_iload hx hb dL_law_23 (lv_at hl 0 rfl) ?_
      refine lv_aload_n hx hb dL_law_25 rfl (lv_at hl 4 rfl) ?_
      refine va_slen hx hb hX hbl hbA hS dL_law_26 ?_
      refine lv_bipush (v := 6) hx hb dL_law_27 (by decide) ?_
      refine lv_isub hx hb dL_law_29 ?_
      refine lv_topi (fun y_276 ey_276 => ?_)
      obtain rfl : y_276 = 0 := ey_276.trans (by decide)
      refine lv_icmp_gt (tgt := 954) hx hb dL_law_30 (by decide) (fun _ => ?_) (fun c_277 => by first | exact absurd c_277 (by decide) | exact absurd (by decide) c_277)
      refine lv_iconst (v := 1) hx hb dL_law_954 (by decide) ?_
      refine va_forget (fun q hq => hS.2.2 q hq) ?_
      refine W.widen (k := 600002) (n := 7302232) (Nat.le_of_ble_eq_true rfl) (Nat.le_of_ble_eq_true rfl) ?_
      exact lw_ret hx hb hr hlocks dL_law_955
    by_cases c_278 : (xs 0) &&& 31 = 13
    · refine lv_tableIn (tgt := 589) (off := 549) hx hb dL_law_40 (by rw [c_278]; decide) (by rw [c_278]; decide) (by rw [c_278]; decide) (by decide) ?_
      have hP := hP.sub (ws' := [(q_1, .inr (8, [.ref a_3, .ref a_4, .ref a_5, .ref a_6, .ref a_7, .ref a_8, .ref a_9, .ref a_10, .ref a_11, .int 0, .int 0, .int 0, .int 0, .int 0, .int 0])), (a_9, .inl (j_30, 60, .inr (.inr (.inr (.inr (fun _ => none)))))), (q_35, .inr (9, [.int 0, .ref m_37, .int 0, .int 0, .int 0, .ref m_38, .ref m_39, .ref m_40, .int 0, .int 0, .int 0, .int 0, .int 0, .int 0, .long 0, .ref m_41, .ref m_42, .ref m_43, .ref m_44, .ref m_45, .ref m_46, .int 0, .ref m_47, .ref m_48, .ref m_49, .ref m_50, .ref m_51, .ref m_52, .ref m_53, .ref m_54, .ref m_55, .ref m_56, .ref m_57, .ref m_58, .ref m_59, .int 0, .int 0, .ref m_60, .ref m_61, .ref m_62, .ref m_63, .ref m_64, .ref m_65, .ref m_66, .ref m_67, .ref m_68, .ref m_69]))]) [0, 36, 40] rfl
      have hD := hD.sub (ws' := [(q_1, .inr (8, [.ref a_3, .ref a_4, .ref a_5, .ref a_6, .ref a_7, .ref a_8, .ref a_9, .ref a_10, .ref a_11, .int 0, .int 0, .int 0, .int 0, .int 0, .int 0])), (a_9, .inl (j_30, 60, .inr (.inr (.inr (.inr (fun _ => none)))))), (q_35, .inr (9, [.int 0, .ref m_37, .int 0, .int 0, .int 0, .ref m_38, .ref m_39, .ref m_40, .int 0, .int 0, .int 0, .int 0, .int 0, .int 0, .long 0, .ref m_41, .ref m_42, .ref m_43, .ref m_44, .ref m_45, .ref m_46, .int 0, .ref m_47, .ref m_48, .ref m_49, .ref m_50, .ref m_51, .ref m_52, .ref m_53, .ref m_54, .ref m_55, .ref m_56, .ref m_57, .ref m_58, .ref m_59, .int 0, .int 0, .ref m_60, .ref m_61, .ref m_62, .ref m_63, .ref m_64, .ref m_65, .ref m_66, .ref m_67, .ref m_68, .ref m_69]))]) [0, 36, 40] (by decide) rfl
      refine lv_aload_n hx hb dL_law_589 rfl (lv_at hl 3 rfl) ?_
      refine lv_aload_n hx hb dL_law_590 rfl (lv_at hl 4 rfl) ?_
      refine lv_iload hx hb dL_law_591 (lv_at hl 0 rfl) ?_
      refine lv_iconst (v := 1) hx hb dL_law_593 (by decide) ?_
      refine lv_iadd hx hb dL_law_594 ?_
      refine lv_topi (fun y_279 ey_279 => ?_)
      obtain rfl : y_279 = 1 := ey_279.trans (by decide)
      refine va_sld hx hb hX hbl hbA hS (by unfold vp_in; decide) dL_law_595 ?_
      refine lv_topi (fun v_280 ev_280 => ?_)
      obtain rfl : v_280 = xs 1 := ev_280.trans rfl
      refine lv_aload_n hx hb dL_law_596 rfl (lv_at hl 4 rfl) ?_
      refine lv_iload hx hb dL_law_597 (lv_at hl 0 rfl) ?_
      refine lv_iconst (v := 2) hx hb dL_law_599 (by decide) ?_
      refine lv_iadd hx hb dL_law_600 ?_
      refine lv_topi (fun y_281 ey_281 => ?_)
      obtain rfl : y_281 = 2 := ey_281.trans (by decide)
      refine va_sld hx hb hX hbl hbA hS (by unfold vp_in; decide) dL_law_601 ?_
      refine lv_topi (fun v_282 ev_282 => ?_)
      obtain rfl : v_282 = xs 2 := ev_282.trans rfl
      refine lv_aload_n hx hb dL_law_602 rfl (lv_at hl 1 rfl) ?_
      have hPc := hP.sub (ws' := [(q_1, .inr (8, [.ref a_3, .ref a_4, .ref a_5, .ref a_6, .ref a_7, .ref a_8, .ref a_9, .ref a_10, .ref a_11, .int 0, .int 0, .int 0, .int 0, .int 0, .int 0])), (a_9, .inl (j_30, 60, .inr (.inr (.inr (.inr (fun _ => none))))))]) [0, 1] rfl
      have hDc := hD.sub (ws' := [(q_1, .inr (8, [.ref a_3, .ref a_4, .ref a_5, .ref a_6, .ref a_7, .ref a_8, .ref a_9, .ref a_10, .ref a_11, .int 0, .int 0, .int 0, .int 0, .int 0, .int 0])), (a_9, .inl (j_30, 60, .inr (.inr (.inr (.inr (fun _ => none))))))]) [0, 1] (by decide) rfl
      have hKc := hK.sub (tys' := [(j_30, .object "YamRiders$Rider")]) [10] rfl
      have hFc := va_free (wc := [(q_1, .inr (8, [.ref a_3, .ref a_4, .ref a_5, .ref a_6, .ref a_7, .ref a_8, .ref a_9, .ref a_10, .ref a_11, .int 0, .int 0, .int 0, .int 0, .int 0, .int 0])), (a_9, .inl (j_30, 60, .inr (.inr (.inr (.inr (fun _ => none))))))]) hD hS hA [0, 1] rfl
      refine va_calli (vx_runSW (As := [.ref q_1, .int (xs 1), .int (xs 2), .ref q_104]) (rest := []) ⟨hx, hb, hml, hown, hts0⟩ (c_L_rider l hst dC dI q_1 a_3 a_4 a_5 a_6 a_7 a_8 a_9 a_10 a_11 j_30 (xs 1) (xs 2) q_104 H.size) (vx_cwSW 4 hts0 gN_law_rider rfl rfl rfl (by decide +kernel) ⟨Nat.le_of_ble_eq_true rfl, Nat.le_of_ble_eq_true rfl⟩) ⟨x_blind, x_preH hPc hKc hDc hN hnb0 hsa_rider ((hUz.kept hS.2.1).narrow hFc) ((hSz.kept hS.2.1).narrow hFc)⟩ rfl rfl hl.1 rfl (lv_room (Nat.le_of_ble_eq_true rfl)) dL_law_603 ⟨Nat.le_of_ble_eq_true rfl, Nat.le_of_ble_eq_true rfl⟩) hS (fun q _ h => hFc q h) hFc (fun r9 u9 t9 H1 locs ht hvm hw hB hz1 hk1 hS => ?_)
      obtain ⟨hP, hD⟩ := va_join (wr := [(q_35, .inr (9, [.int 0, .ref m_37, .int 0, .int 0, .int 0, .ref m_38, .ref m_39, .ref m_40, .int 0, .int 0, .int 0, .int 0, .int 0, .int 0, .long 0, .ref m_41, .ref m_42, .ref m_43, .ref m_44, .ref m_45, .ref m_46, .int 0, .ref m_47, .ref m_48, .ref m_49, .ref m_50, .ref m_51, .ref m_52, .ref m_53, .ref m_54, .ref m_55, .ref m_56, .ref m_57, .ref m_58, .ref m_59, .int 0, .int 0, .ref m_60, .ref m_61, .ref m_62, .ref m_63, .ref m_64, .ref m_65, .ref m_66, .ref m_67, .ref m_68, .ref m_69]))]) (w1 := []) hP hD [0, 1] [2] rfl rfl (by decide) (by decide) hk1 hFc (fun k q h => by simp at h) ⟨fun i j p q h => by simp at h, fun k q h => by simp at h⟩
      generalize H1 = H at hP hS ⊢
      have hP : va_P (dC, dI) vwCl [(q_35, .inr (9, [.int 0, .ref m_37, .int 0, .int 0, .int 0, .ref m_38, .ref m_39, .ref m_40, .int 0, .int 0, .int 0, .int 0, .int 0, .int 0, .long 0, .ref m_41, .ref m_42, .ref m_43, .ref m_44, .ref m_45, .ref m_46, .int 0, .ref m_47, .ref m_48, .ref m_49, .ref m_50, .ref m_51, .ref m_52, .ref m_53, .ref m_54, .ref m_55, .ref m_56, .ref m_57, .ref m_58, .ref m_59, .int 0, .int 0, .ref m_60, .ref m_61, .ref m_62, .ref m_63, .ref m_64, .ref m_65, .ref m_66, .ref m_67, .ref m_68, .ref m_69]))] H := hP
      have hD : va_D (fun q : Nat => s.heap.size ≤ q) [(q_35, .inr (9, [.int 0, .ref m_37, .int 0, .int 0, .int 0, .ref m_38, .ref m_39, .ref m_40, .int 0, .int 0, .int 0, .int 0, .int 0, .int 0, .long 0, .ref m_41, .ref m_42, .ref m_43, .ref m_44, .ref m_45, .ref m_46, .int 0, .ref m_47, .ref m_48, .ref m_49, .ref m_50, .ref m_51, .ref m_52, .ref m_53, .ref m_54, .ref m_55, .ref m_56, .ref m_57, .ref m_58, .ref m_59, .int 0, .int 0, .ref m_60, .ref m_61, .ref m_62, .ref m_63, .ref m_64, .ref m_65, .ref m_66, .ref m_67, .ref m_68, .ref m_69]))] := hD
      try dsimp only at hw
      subst hw
      refine W.widen (k := 103) (n := 4439) (Nat.le_of_ble_eq_true rfl) (Nat.le_of_ble_eq_true rfl) ?_
      refine lv_istore (lv' := [(5, .int 1), (4, .int 0), (3, .ref q_104), (2, .ref q_35), (1, .ref q_1), (0, .ref b)]) hx hb dL_law_606 hl (by decide) rfl (fun ls hl => ?_)
      refine lv_aload_n hx hb dL_law_608 rfl (lv_at hl 3 rfl) ?_
      refine lv_aload_n hx hb dL_law_609 rfl (lv_at hl 5 rfl) ?_
      refine lv_iload hx hb dL_law_610 (lv_at hl 1 rfl) ?_
      refine lv_iconst (v := 1) hx hb dL_law_612 (by decide) ?_
      refine lv_iadd hx hb dL_law_613 ?_
      refine lv_topi (fun y_283 ey_283 => ?_)
      obtain rfl : y_283 = 1 := ey_283.trans (by decide)
      refine va_sld hx hb hX hbl hbA hS (by unfold vp_in; decide) dL_law_614 ?_
      refine lv_topi (fun v_284 ev_284 => ?_)
      obtain rfl : v_284 = xs 1 := ev_284.trans rfl
      refine lv_aload_n hx hb dL_law_615 rfl (lv_at hl 5 rfl) ?_
      refine lv_iload hx hb dL_law_616 (lv_at hl 1 rfl) ?_
      refine lv_iconst (v := 2) hx hb dL_law_618 (by decide) ?_
      refine lv_iadd hx hb dL_law_619 ?_
      refine lv_topi (fun y_285 ey_285 => ?_)
      obtain rfl : y_285 = 2 := ey_285.trans (by decide)
      refine va_sld hx hb hX hbl hbA hS (by unfold vp_in; decide) dL_law_620 ?_
      refine lv_topi (fun v_286 ev_286 => ?_)
      obtain rfl : v_286 = xs 2 := ev_286.trans rfl
      have hPc := hP.sub (ws' := [(q_35, .inr (9, [.int 0, .ref m_37, .int 0, .int 0, .int 0, .ref m_38, .ref m_39, .ref m_40, .int 0, .int 0, .int 0, .int 0, .int 0, .int 0, .long 0, .ref m_41, .ref m_42, .ref m_43, .ref m_44, .ref m_45, .ref m_46, .int 0, .ref m_47, .ref m_48, .ref m_49, .ref m_50, .ref m_51, .ref m_52, .ref m_53, .ref m_54, .ref m_55, .ref m_56, .ref m_57, .ref m_58, .ref m_59, .int 0, .int 0, .ref m_60, .ref m_61, .ref m_62, .ref m_63, .ref m_64, .ref m_65, .ref m_66, .ref m_67, .ref m_68, .ref m_69]))]) [0] rfl
      have hDc := hD.sub (ws' := [(q_35, .inr (9, [.int 0, .ref m_37, .int 0, .int 0, .int 0, .ref m_38, .ref m_39, .ref m_40, .int 0, .int 0, .int 0, .int 0, .int 0, .int 0, .long 0, .ref m_41, .ref m_42, .ref m_43, .ref m_44, .ref m_45, .ref m_46, .int 0, .ref m_47, .ref m_48, .ref m_49, .ref m_50, .ref m_51, .ref m_52, .ref m_53, .ref m_54, .ref m_55, .ref m_56, .ref m_57, .ref m_58, .ref m_59, .int 0, .int 0, .ref m_60, .ref m_61, .ref m_62, .ref m_63, .ref m_64, .ref m_65, .ref m_66, .ref m_67, .ref m_68, .ref m_69]))]) [0] (by decide) rfl
      have hKc := hK.sub (tys' := []) [] rfl
      have hFc := va_free (wc := [(q_35, .inr (9, [.int 0, .ref m_37, .int 0, .int 0, .int 0, .ref m_38, .ref m_39, .ref m_40, .int 0, .int 0, .int 0, .int 0, .int 0, .int 0, .long 0, .ref m_41, .ref m_42, .ref m_43, .ref m_44, .ref m_45, .ref m_46, .int 0, .ref m_47, .ref m_48, .ref m_49, .ref m_50, .ref m_51, .ref m_52, .ref m_53, .ref m_54, .ref m_55, .ref m_56, .ref m_57, .ref m_58, .ref m_59, .int 0, .int 0, .ref m_60, .ref m_61, .ref m_62, .ref m_63, .ref m_64, .ref m_65, .ref m_66, .ref m_67, .ref m_68, .ref m_69]))]) hD hS hA [0] rfl
      refine va_calli (va_runV (As := [.int (xs 1), .int (xs 2)]) (rest := []) ⟨hx, hb, hml, hown, hts⟩ (c_X9_rider l dC dI q_35 m_37 m_38 m_39 m_40 m_41 m_42 m_43 m_44 m_45 m_46 m_47 m_48 m_49 m_50 m_51 m_52 m_53 m_54 m_55 m_56 m_57 m_58 m_59 m_60 m_61 m_62 m_63 m_64 m_65 m_66 m_67 m_68 m_69 (xs 1) (xs 2) H.size) (cwV 2 hts gL_law_X9_rider rfl rfl rfl (by decide +kernel) ⟨Nat.le_of_ble_eq_true rfl, Nat.le_of_ble_eq_true rfl⟩) ⟨c_blind, va_recv hKc hPc (ci := 9) (q0 := 0) rfl rfl, c_pre hPc hKc hDc hN⟩ rfl rfl hl.1 rfl (lv_room (Nat.le_of_ble_eq_true rfl)) dL_law_621 ⟨Nat.le_of_ble_eq_true rfl, Nat.le_of_ble_eq_true rfl⟩) hS (fun q _ h => hFc q h) hFc (fun r_287 u9 t9 H1 locs ht hvm hw hB hz1 hk1 hS => ?_)
      obtain ⟨hP1, hK1, hD1⟩ := hB
      rw [ht] at hP1
      have hK1 := va_K.moved hvm.symm hK1
      obtain ⟨hP, hD⟩ := va_join (wr := []) (w1 := [(q_35, .inr (9, [.int 1, .ref m_37, .int 0, .int 0, .int 0, .ref m_38, .ref m_39, .ref m_40, .int 0, .int 0, .int 0, .int 0, .int 0, .int 0, .long 0, .ref m_41, .ref m_42, .ref m_43, .ref m_44, .ref m_45, .ref m_46, .int 0, .ref m_47, .ref m_48, .ref m_49, .ref m_50, .ref m_51, .ref m_52, .ref m_53, .ref m_54, .ref m_55, .ref m_56, .ref m_57, .ref m_58, .ref m_59, .int 0, .int 0, .ref m_60, .ref m_61, .ref m_62, .ref m_63, .ref m_64, .ref m_65, .ref m_66, .ref m_67, .ref m_68, .ref m_69]))]) hP hD [0] [] rfl rfl (by decide) (by decide) hk1 hFc hP1 hD1
      have hK := (hK.sub (tys' := [(j_13, .int), (g_19, .array .int), (g_20, .array .int), (ky_21, .int), (kt_22, .int), (kz_23, .boolean), (kr_24, .int), (j_27, .int), (j_28, .object "YamRiders$Horse"), (j_29, .object "YamRiders$Tablet"), (j_30, .object "YamRiders$Rider"), (j_31, .object "YamRiders$Rider"), (j_33, .int), (k_tape_70, .byte), (k_law_71, .int), (k_fresh_72, .int), (k_isTold_73, .boolean), (k_hours_74, .int), (k_snow_75, .int), (k_least_76, .int), (k_fodder_77, .int), (k_strength_78, .int), (k_stands_79, .int), (k_rank_80, .int), (k_voidSince_81, .int), (k_newsSince_82, .int), (k_ways_83, .int), (k_wayMany_84, .int), (k_tabletOf_85, .int), (k_state_86, .int), (k_come_87, .int), (k_cameIn_88, .int), (k_horseOf_89, .int), (k_due_90, .int), (k_time_91, .int), (k_brings_92, .int), (k_loose_93, .boolean), (k_asked_94, .boolean), (k_led_95, .int), (k_cost_96, .int), (k_left_97, .int), (k_wants_98, .int), (k_toGiver_99, .int), (k_toTaker_100, .int), (k_giverBy_101, .int), (k_takerBy_102, .int), (k_105, .long)]) [0, 1, 2, 3, 4, 5, 6, 7, 8, 9, 10, 11, 12, 13, 14, 15, 16, 17, 18, 19, 20, 21, 22, 23, 24, 25, 26, 27, 28, 29, 30, 31, 32, 33, 34, 35, 36, 37, 38, 39, 40, 41, 42, 43, 44, 45, 46] rfl).app hK1
      generalize H1 = H at hP hS ⊢
      have hK : va_K (dC, dI) vwCl [(j_13, .int), (g_19, .array .int), (g_20, .array .int), (ky_21, .int), (kt_22, .int), (kz_23, .boolean), (kr_24, .int), (j_27, .int), (j_28, .object "YamRiders$Horse"), (j_29, .object "YamRiders$Tablet"), (j_30, .object "YamRiders$Rider"), (j_31, .object "YamRiders$Rider"), (j_33, .int), (k_tape_70, .byte), (k_law_71, .int), (k_fresh_72, .int), (k_isTold_73, .boolean), (k_hours_74, .int), (k_snow_75, .int), (k_least_76, .int), (k_fodder_77, .int), (k_strength_78, .int), (k_stands_79, .int), (k_rank_80, .int), (k_voidSince_81, .int), (k_newsSince_82, .int), (k_ways_83, .int), (k_wayMany_84, .int), (k_tabletOf_85, .int), (k_state_86, .int), (k_come_87, .int), (k_cameIn_88, .int), (k_horseOf_89, .int), (k_due_90, .int), (k_time_91, .int), (k_brings_92, .int), (k_loose_93, .boolean), (k_asked_94, .boolean), (k_led_95, .int), (k_cost_96, .int), (k_left_97, .int), (k_wants_98, .int), (k_toGiver_99, .int), (k_toTaker_100, .int), (k_giverBy_101, .int), (k_takerBy_102, .int), (k_105, .long)] s := hK
      have hP : va_P (dC, dI) vwCl [(q_35, .inr (9, [.int 1, .ref m_37, .int 0, .int 0, .int 0, .ref m_38, .ref m_39, .ref m_40, .int 0, .int 0, .int 0, .int 0, .int 0, .int 0, .long 0, .ref m_41, .ref m_42, .ref m_43, .ref m_44, .ref m_45, .ref m_46, .int 0, .ref m_47, .ref m_48, .ref m_49, .ref m_50, .ref m_51, .ref m_52, .ref m_53, .ref m_54, .ref m_55, .ref m_56, .ref m_57, .ref m_58, .ref m_59, .int 0, .int 0, .ref m_60, .ref m_61, .ref m_62, .ref m_63, .ref m_64, .ref m_65, .ref m_66, .ref m_67, .ref m_68, .ref m_69]))] H := hP
      have hD : va_D (fun q : Nat => s.heap.size ≤ q) [(q_35, .inr (9, [.int 1, .ref m_37, .int 0, .int 0, .int 0, .ref m_38, .ref m_39, .ref m_40, .int 0, .int 0, .int 0, .int 0, .int 0, .int 0, .long 0, .ref m_41, .ref m_42, .ref m_43, .ref m_44, .ref m_45, .ref m_46, .int 0, .ref m_47, .ref m_48, .ref m_49, .ref m_50, .ref m_51, .ref m_52, .ref m_53, .ref m_54, .ref m_55, .ref m_56, .ref m_57, .ref m_58, .ref m_59, .int 0, .int 0, .ref m_60, .ref m_61, .ref m_62, .ref m_63, .ref m_64, .ref m_65, .ref m_66, .ref m_67, .ref m_68, .ref m_69]))] := hD
      try dsimp only at hw
      subst hw
      refine W.widen (k := 103) (n := 4439) (Nat.le_of_ble_eq_true rfl) (Nat.le_of_ble_eq_true rfl) ?_
      refine lv_istore (lv' := [(6, .int 0), (5, .int 1), (4, .int 0), (3, .ref q_104), (2, .ref q_35), (1, .ref q_1), (0, .ref b)]) hx hb dL_law_624 hl (by decide) rfl (fun ls hl => ?_)
      refine lv_aload_n hx hb dL_law_626 rfl (lv_at hl 4 rfl) ?_
      have hPc := hP.sub (ws' := [(q_35, .inr (9, [.int 1, .ref m_37, .int 0, .int 0, .int 0, .ref m_38, .ref m_39, .ref m_40, .int 0, .int 0, .int 0, .int 0, .int 0, .int 0, .long 0, .ref m_41, .ref m_42, .ref m_43, .ref m_44, .ref m_45, .ref m_46, .int 0, .ref m_47, .ref m_48, .ref m_49, .ref m_50, .ref m_51, .ref m_52, .ref m_53, .ref m_54, .ref m_55, .ref m_56, .ref m_57, .ref m_58, .ref m_59, .int 0, .int 0, .ref m_60, .ref m_61, .ref m_62, .ref m_63, .ref m_64, .ref m_65, .ref m_66, .ref m_67, .ref m_68, .ref m_69]))]) [0] rfl
      have hDc := hD.sub (ws' := [(q_35, .inr (9, [.int 1, .ref m_37, .int 0, .int 0, .int 0, .ref m_38, .ref m_39, .ref m_40, .int 0, .int 0, .int 0, .int 0, .int 0, .int 0, .long 0, .ref m_41, .ref m_42, .ref m_43, .ref m_44, .ref m_45, .ref m_46, .int 0, .ref m_47, .ref m_48, .ref m_49, .ref m_50, .ref m_51, .ref m_52, .ref m_53, .ref m_54, .ref m_55, .ref m_56, .ref m_57, .ref m_58, .ref m_59, .int 0, .int 0, .ref m_60, .ref m_61, .ref m_62, .ref m_63, .ref m_64, .ref m_65, .ref m_66, .ref m_67, .ref m_68, .ref m_69]))]) [0] (by decide) rfl
      have hKc := hK.sub (tys' := []) [] rfl
      refine cs_i (va_runV (As := []) (rest := []) ⟨hx, hb, hml, hown, hts⟩ (c_X9_thrown l dC dI q_35 m_37 m_38 m_39 m_40 m_41 m_42 m_43 m_44 m_45 m_46 m_47 m_48 m_49 m_50 m_51 m_52 m_53 m_54 m_55 m_56 m_57 m_58 m_59 m_60 m_61 m_62 m_63 m_64 m_65 m_66 m_67 m_68 m_69 H.size) (cwV 0 hts gL_law_X9_thrown rfl rfl rfl (by decide +kernel) ⟨Nat.le_of_ble_eq_true rfl, Nat.le_of_ble_eq_true rfl⟩) ⟨c_blind, va_recv hKc hPc (ci := 9) (q0 := 0) rfl rfl, c_pre hPc hKc hDc hN⟩ rfl rfl hl.1 rfl (lv_room (Nat.le_of_ble_eq_true rfl)) dL_law_627 ⟨Nat.le_of_ble_eq_true rfl, Nat.le_of_ble_eq_true rfl⟩) (fun r_288 hr_288 => ?_)
      subst hr_288
      refine lv_iload hx hb dL_law_630 (lv_at hl 1 rfl) ?_
      refine lv_icmp_eq (tgt := 637) hx hb dL_law_632 (by decide) (fun _ => ?_) (fun c_289 => by first | exact absurd c_289 (by decide) | exact absurd (by decide) c_289)
      refine lv_iload hx hb dL_law_637 (lv_at hl 1 rfl) ?_
      refine lv_if_ne (tgt := 654) hx hb dL_law_639 (by decide) (fun _ => ?_) (fun c_290 => by first | exact absurd c_290 (by decide) | exact absurd (by decide) c_290)
      refine lv_goto (tgt := 948) hx hb dL_law_654 (by decide) ?_
      refine lv_iinc (v := 6) (lv' := [(4, .int 6), (6, .int 0), (5, .int 1), (3, .ref q_104), (2, .ref q_35), (1, .ref q_1), (0, .ref b)]) hx hb dL_law_948 hl (k := 2) rfl (by decide) (by decide) rfl (fun ls hl => ?_)
      refine lv_goto (tgt := 23) hx hb dL_law_951 (by decide) ?_
      refine lv_iload hx hb dL_law_23 (lv_at hl 0 rfl) ?_
      refine lv_aload_n hx hb dL_law_25 rfl (lv_at hl 6 rfl) ?_
      refine va_slen hx hb hX hbl hbA hS dL_law_26 ?_
      refine lv_bipush (v := 6) hx hb dL_law_27 (by decide) ?_
      refine lv_isub hx hb dL_law_29 ?_
      refine lv_topi (fun y_291 ey_291 => ?_)
      obtain rfl : y_291 = 0 := ey_291.trans (by decide)
      refine lv_icmp_gt (tgt := 954) hx hb dL_law_30 (by decide) (fun _ => ?_) (fun c_292 => by first | exact absurd c_292 (by decide) | exact absurd (by decide) c_292)
      refine lv_iconst (v := 1) hx hb dL_law_954 (by decide) ?_
      refine va_forget (fun q hq => hS.2.2 q hq) ?_
      refine W.widen (k := 600002) (n := 7302232) (Nat.le_of_ble_eq_true rfl) (Nat.le_of_ble_eq_true rfl) ?_
      exact lw_ret hx hb hr hlocks dL_law_955
    by_cases c_293 : (xs 0) &&& 31 = 14
    · refine lv_tableIn (tgt := 657) (off := 617) hx hb dL_law_40 (by rw [c_293]; decide) (by rw [c_293]; decide) (by rw [c_293]; decide) (by decide) ?_
      have hP := hP.sub (ws' := [(q_1, .inr (8, [.ref a_3, .ref a_4, .ref a_5, .ref a_6, .ref a_7, .ref a_8, .ref a_9, .ref a_10, .ref a_11, .int 0, .int 0, .int 0, .int 0, .int 0, .int 0])), (a_9, .inl (j_30, 60, .inr (.inr (.inr (.inr (fun _ => none)))))), (q_35, .inr (9, [.int 0, .ref m_37, .int 0, .int 0, .int 0, .ref m_38, .ref m_39, .ref m_40, .int 0, .int 0, .int 0, .int 0, .int 0, .int 0, .long 0, .ref m_41, .ref m_42, .ref m_43, .ref m_44, .ref m_45, .ref m_46, .int 0, .ref m_47, .ref m_48, .ref m_49, .ref m_50, .ref m_51, .ref m_52, .ref m_53, .ref m_54, .ref m_55, .ref m_56, .ref m_57, .ref m_58, .ref m_59, .int 0, .int 0, .ref m_60, .ref m_61, .ref m_62, .ref m_63, .ref m_64, .ref m_65, .ref m_66, .ref m_67, .ref m_68, .ref m_69]))]) [0, 36, 40] rfl
      have hD := hD.sub (ws' := [(q_1, .inr (8, [.ref a_3, .ref a_4, .ref a_5, .ref a_6, .ref a_7, .ref a_8, .ref a_9, .ref a_10, .ref a_11, .int 0, .int 0, .int 0, .int 0, .int 0, .int 0])), (a_9, .inl (j_30, 60, .inr (.inr (.inr (.inr (fun _ => none)))))), (q_35, .inr (9, [.int 0, .ref m_37, .int 0, .int 0, .int 0, .ref m_38, .ref m_39, .ref m_40, .int 0, .int 0, .int 0, .int 0, .int 0, .int 0, .long 0, .ref m_41, .ref m_42, .ref m_43, .ref m_44, .ref m_45, .ref m_46, .int 0, .ref m_47, .ref m_48, .ref m_49, .ref m_50, .ref m_51, .ref m_52, .ref m_53, .ref m_54, .ref m_55, .ref m_56, .ref m_57, .ref m_58, .ref m_59, .int 0, .int 0, .ref m_60, .ref m_61, .ref m_62, .ref m_63, .ref m_64, .ref m_65, .ref m_66, .ref m_67, .ref m_68, .ref m_69]))]) [0, 36, 40] (by decide) rfl
      refine lv_aload_n hx hb dL_law_657 rfl (lv_at hl 3 rfl) ?_
      refine lv_aload_n hx hb dL_law_658 rfl (lv_at hl 4 rfl) ?_
      refine lv_iload hx hb dL_law_659 (lv_at hl 0 rfl) ?_
      refine lv_iconst (v := 1) hx hb dL_law_661 (by decide) ?_
      refine lv_iadd hx hb dL_law_662 ?_
      refine lv_topi (fun y_294 ey_294 => ?_)
      obtain rfl : y_294 = 1 := ey_294.trans (by decide)
      refine va_sld hx hb hX hbl hbA hS (by unfold vp_in; decide) dL_law_663 ?_
      refine lv_topi (fun v_295 ev_295 => ?_)
      obtain rfl : v_295 = xs 1 := ev_295.trans rfl
      refine lv_aload_n hx hb dL_law_664 rfl (lv_at hl 4 rfl) ?_
      refine lv_iload hx hb dL_law_665 (lv_at hl 0 rfl) ?_
      refine lv_iconst (v := 2) hx hb dL_law_667 (by decide) ?_
      refine lv_iadd hx hb dL_law_668 ?_
      refine lv_topi (fun y_296 ey_296 => ?_)
      obtain rfl : y_296 = 2 := ey_296.trans (by decide)
      refine va_sld hx hb hX hbl hbA hS (by unfold vp_in; decide) dL_law_669 ?_
      refine lv_topi (fun v_297 ev_297 => ?_)
      obtain rfl : v_297 = xs 2 := ev_297.trans rfl
      have hPc := hP.sub (ws' := [(q_1, .inr (8, [.ref a_3, .ref a_4, .ref a_5, .ref a_6, .ref a_7, .ref a_8, .ref a_9, .ref a_10, .ref a_11, .int 0, .int 0, .int 0, .int 0, .int 0, .int 0])), (a_9, .inl (j_30, 60, .inr (.inr (.inr (.inr (fun _ => none))))))]) [0, 1] rfl
      have hDc := hD.sub (ws' := [(q_1, .inr (8, [.ref a_3, .ref a_4, .ref a_5, .ref a_6, .ref a_7, .ref a_8, .ref a_9, .ref a_10, .ref a_11, .int 0, .int 0, .int 0, .int 0, .int 0, .int 0])), (a_9, .inl (j_30, 60, .inr (.inr (.inr (.inr (fun _ => none))))))]) [0, 1] (by decide) rfl
      have hKc := hK.sub (tys' := [(j_30, .object "YamRiders$Rider")]) [10] rfl
      refine cs_i (va_runV (As := [.int (xs 1), .int (xs 2)]) (rest := []) ⟨hx, hb, hml, hown, hts⟩ (c_X8_way l dC dI q_1 a_3 a_4 a_5 a_6 a_7 a_8 a_9 a_10 a_11 j_30 (xs 1) (xs 2) H.size) (cwV 2 hts gL_law_X8_way rfl rfl rfl (by decide +kernel) ⟨Nat.le_of_ble_eq_true rfl, Nat.le_of_ble_eq_true rfl⟩) ⟨c_blind, va_recv hKc hPc (ci := 8) (q0 := 0) rfl rfl, c_pre hPc hKc hDc hN⟩ rfl rfl hl.1 rfl (lv_room (Nat.le_of_ble_eq_true rfl)) dL_law_670 ⟨Nat.le_of_ble_eq_true rfl, Nat.le_of_ble_eq_true rfl⟩) (fun r_298 hr_298 => ?_)
      subst hr_298
      refine lv_aload_n hx hb dL_law_673 rfl (lv_at hl 2 rfl) ?_
      refine lv_aload_n hx hb dL_law_674 rfl (lv_at hl 4 rfl) ?_
      refine lv_iload hx hb dL_law_675 (lv_at hl 0 rfl) ?_
      refine lv_iconst (v := 1) hx hb dL_law_677 (by decide) ?_
      refine lv_iadd hx hb dL_law_678 ?_
      refine lv_topi (fun y_299 ey_299 => ?_)
      obtain rfl : y_299 = 1 := ey_299.trans (by decide)
      refine va_sld hx hb hX hbl hbA hS (by unfold vp_in; decide) dL_law_679 ?_
      refine lv_topi (fun v_300 ev_300 => ?_)
      obtain rfl : v_300 = xs 1 := ev_300.trans rfl
      refine lv_aload_n hx hb dL_law_680 rfl (lv_at hl 4 rfl) ?_
      refine lv_iload hx hb dL_law_681 (lv_at hl 0 rfl) ?_
      refine lv_iconst (v := 2) hx hb dL_law_683 (by decide) ?_
      refine lv_iadd hx hb dL_law_684 ?_
      refine lv_topi (fun y_301 ey_301 => ?_)
      obtain rfl : y_301 = 2 := ey_301.trans (by decide)
      refine va_sld hx hb hX hbl hbA hS (by unfold vp_in; decide) dL_law_685 ?_
      refine lv_topi (fun v_302 ev_302 => ?_)
      obtain rfl : v_302 = xs 2 := ev_302.trans rfl
      have hPc := hP.sub (ws' := [(q_35, .inr (9, [.int 0, .ref m_37, .int 0, .int 0, .int 0, .ref m_38, .ref m_39, .ref m_40, .int 0, .int 0, .int 0, .int 0, .int 0, .int 0, .long 0, .ref m_41, .ref m_42, .ref m_43, .ref m_44, .ref m_45, .ref m_46, .int 0, .ref m_47, .ref m_48, .ref m_49, .ref m_50, .ref m_51, .ref m_52, .ref m_53, .ref m_54, .ref m_55, .ref m_56, .ref m_57, .ref m_58, .ref m_59, .int 0, .int 0, .ref m_60, .ref m_61, .ref m_62, .ref m_63, .ref m_64, .ref m_65, .ref m_66, .ref m_67, .ref m_68, .ref m_69]))]) [2] rfl
      have hDc := hD.sub (ws' := [(q_35, .inr (9, [.int 0, .ref m_37, .int 0, .int 0, .int 0, .ref m_38, .ref m_39, .ref m_40, .int 0, .int 0, .int 0, .int 0, .int 0, .int 0, .long 0, .ref m_41, .ref m_42, .ref m_43, .ref m_44, .ref m_45, .ref m_46, .int 0, .ref m_47, .ref m_48, .ref m_49, .ref m_50, .ref m_51, .ref m_52, .ref m_53, .ref m_54, .ref m_55, .ref m_56, .ref m_57, .ref m_58, .ref m_59, .int 0, .int 0, .ref m_60, .ref m_61, .ref m_62, .ref m_63, .ref m_64, .ref m_65, .ref m_66, .ref m_67, .ref m_68, .ref m_69]))]) [2] (by decide) rfl
      have hKc := hK.sub (tys' := []) [] rfl
      have hFc := va_free (wc := [(q_35, .inr (9, [.int 0, .ref m_37, .int 0, .int 0, .int 0, .ref m_38, .ref m_39, .ref m_40, .int 0, .int 0, .int 0, .int 0, .int 0, .int 0, .long 0, .ref m_41, .ref m_42, .ref m_43, .ref m_44, .ref m_45, .ref m_46, .int 0, .ref m_47, .ref m_48, .ref m_49, .ref m_50, .ref m_51, .ref m_52, .ref m_53, .ref m_54, .ref m_55, .ref m_56, .ref m_57, .ref m_58, .ref m_59, .int 0, .int 0, .ref m_60, .ref m_61, .ref m_62, .ref m_63, .ref m_64, .ref m_65, .ref m_66, .ref m_67, .ref m_68, .ref m_69]))]) hD hS hA [2] rfl
      refine va_calli (va_runV (As := [.int (xs 1), .int (xs 2)]) (rest := [.int (-1)]) ⟨hx, hb, hml, hown, hts⟩ (c_X9_way l dC dI q_35 m_37 m_38 m_39 m_40 m_41 m_42 m_43 m_44 m_45 m_46 m_47 m_48 m_49 m_50 m_51 m_52 m_53 m_54 m_55 m_56 m_57 m_58 m_59 m_60 m_61 m_62 m_63 m_64 m_65 m_66 m_67 m_68 m_69 (xs 1) (xs 2) H.size) (cwV 2 hts gL_law_X9_way rfl rfl rfl (by decide +kernel) ⟨Nat.le_of_ble_eq_true rfl, Nat.le_of_ble_eq_true rfl⟩) ⟨c_blind, va_recv hKc hPc (ci := 9) (q0 := 0) rfl rfl, c_pre hPc hKc hDc hN⟩ rfl rfl hl.1 rfl (lv_room (Nat.le_of_ble_eq_true rfl)) dL_law_686 ⟨Nat.le_of_ble_eq_true rfl, Nat.le_of_ble_eq_true rfl⟩) hS (fun q _ h => hFc q h) hFc (fun r_303 u9 t9 H1 locs ht hvm hw hB hz1 hk1 hS => ?_)
      obtain ⟨hP1, hK1, hD1⟩ := hB
      rw [ht] at hP1
      have hK1 := va_K.moved hvm.symm hK1
      obtain ⟨hP, hD⟩ := va_join (wr := [(q_1, .inr (8, [.ref a_3, .ref a_4, .ref a_5, .ref a_6, .ref a_7, .ref a_8, .ref a_9, .ref a_10, .ref a_11, .int 0, .int 0, .int 0, .int 0, .int 0, .int 0])), (a_9, .inl (j_30, 60, .inr (.inr (.inr (.inr (fun _ => none))))))]) (w1 := []) hP hD [2] [0, 1] rfl rfl (by decide) (by decide) hk1 hFc hP1 hD1
      have hK := (hK.sub (tys' := [(j_13, .int), (g_19, .array .int), (g_20, .array .int), (ky_21, .int), (kt_22, .int), (kz_23, .boolean), (kr_24, .int), (j_27, .int), (j_28, .object "YamRiders$Horse"), (j_29, .object "YamRiders$Tablet"), (j_30, .object "YamRiders$Rider"), (j_31, .object "YamRiders$Rider"), (j_33, .int), (k_tape_70, .byte), (k_law_71, .int), (k_fresh_72, .int), (k_isTold_73, .boolean), (k_hours_74, .int), (k_snow_75, .int), (k_least_76, .int), (k_fodder_77, .int), (k_strength_78, .int), (k_stands_79, .int), (k_rank_80, .int), (k_voidSince_81, .int), (k_newsSince_82, .int), (k_ways_83, .int), (k_wayMany_84, .int), (k_tabletOf_85, .int), (k_state_86, .int), (k_come_87, .int), (k_cameIn_88, .int), (k_horseOf_89, .int), (k_due_90, .int), (k_time_91, .int), (k_brings_92, .int), (k_loose_93, .boolean), (k_asked_94, .boolean), (k_led_95, .int), (k_cost_96, .int), (k_left_97, .int), (k_wants_98, .int), (k_toGiver_99, .int), (k_toTaker_100, .int), (k_giverBy_101, .int), (k_takerBy_102, .int), (k_105, .long)]) [0, 1, 2, 3, 4, 5, 6, 7, 8, 9, 10, 11, 12, 13, 14, 15, 16, 17, 18, 19, 20, 21, 22, 23, 24, 25, 26, 27, 28, 29, 30, 31, 32, 33, 34, 35, 36, 37, 38, 39, 40, 41, 42, 43, 44, 45, 46] rfl).app hK1
      generalize H1 = H at hP hS ⊢
      have hK : va_K (dC, dI) vwCl [(j_13, .int), (g_19, .array .int), (g_20, .array .int), (ky_21, .int), (kt_22, .int), (kz_23, .boolean), (kr_24, .int), (j_27, .int), (j_28, .object "YamRiders$Horse"), (j_29, .object "YamRiders$Tablet"), (j_30, .object "YamRiders$Rider"), (j_31, .object "YamRiders$Rider"), (j_33, .int), (k_tape_70, .byte), (k_law_71, .int), (k_fresh_72, .int), (k_isTold_73, .boolean), (k_hours_74, .int), (k_snow_75, .int), (k_least_76, .int), (k_fodder_77, .int), (k_strength_78, .int), (k_stands_79, .int), (k_rank_80, .int), (k_voidSince_81, .int), (k_newsSince_82, .int), (k_ways_83, .int), (k_wayMany_84, .int), (k_tabletOf_85, .int), (k_state_86, .int), (k_come_87, .int), (k_cameIn_88, .int), (k_horseOf_89, .int), (k_due_90, .int), (k_time_91, .int), (k_brings_92, .int), (k_loose_93, .boolean), (k_asked_94, .boolean), (k_led_95, .int), (k_cost_96, .int), (k_left_97, .int), (k_wants_98, .int), (k_toGiver_99, .int), (k_toTaker_100, .int), (k_giverBy_101, .int), (k_takerBy_102, .int), (k_105, .long)] s := hK
      have hP : va_P (dC, dI) vwCl [(q_1, .inr (8, [.ref a_3, .ref a_4, .ref a_5, .ref a_6, .ref a_7, .ref a_8, .ref a_9, .ref a_10, .ref a_11, .int 0, .int 0, .int 0, .int 0, .int 0, .int 0])), (a_9, .inl (j_30, 60, .inr (.inr (.inr (.inr (fun _ => none))))))] H := hP
      have hD : va_D (fun q : Nat => s.heap.size ≤ q) [(q_1, .inr (8, [.ref a_3, .ref a_4, .ref a_5, .ref a_6, .ref a_7, .ref a_8, .ref a_9, .ref a_10, .ref a_11, .int 0, .int 0, .int 0, .int 0, .int 0, .int 0])), (a_9, .inl (j_30, 60, .inr (.inr (.inr (.inr (fun _ => none))))))] := hD
      try dsimp only at hw
      subst hw
      refine W.widen (k := 102) (n := 4433) (Nat.le_of_ble_eq_true rfl) (Nat.le_of_ble_eq_true rfl) ?_
      refine lv_icmp_eq (tgt := 948) hx hb dL_law_689 (by decide) (fun _ => ?_) (fun c_304 => by first | exact absurd c_304 (by decide) | exact absurd (by decide) c_304)
      refine lv_iinc (v := 6) (lv' := [(4, .int 6), (3, .ref q_104), (2, .ref q_35), (1, .ref q_1), (0, .ref b)]) hx hb dL_law_948 hl (k := 0) rfl (by decide) (by decide) rfl (fun ls hl => ?_)
      refine lv_goto (tgt := 23) hx hb dL_law_951 (by decide) ?_
      refine lv_iload hx hb dL_law_23 (lv_at hl 0 rfl) ?_
      refine lv_aload_n hx hb dL_law_25 rfl (lv_at hl 4 rfl) ?_
      refine va_slen hx hb hX hbl hbA hS dL_law_26 ?_
      refine lv_bipush (v := 6) hx hb dL_law_27 (by decide) ?_
      refine lv_isub hx hb dL_law_29 ?_
      refine lv_topi (fun y_305 ey_305 => ?_)
      obtain rfl : y_305 = 0 := ey_305.trans (by decide)
      refine lv_icmp_gt (tgt := 954) hx hb dL_law_30 (by decide) (fun _ => ?_) (fun c_306 => by first | exact absurd c_306 (by decide) | exact absurd (by decide) c_306)
      refine lv_iconst (v := 1) hx hb dL_law_954 (by decide) ?_
      refine va_forget (fun q hq => hS.2.2 q hq) ?_
      refine W.widen (k := 600002) (n := 7302232) (Nat.le_of_ble_eq_true rfl) (Nat.le_of_ble_eq_true rfl) ?_
      exact lw_ret hx hb hr hlocks dL_law_955
    by_cases c_307 : (xs 0) &&& 31 = 15
    · refine lv_tableIn (tgt := 694) (off := 654) hx hb dL_law_40 (by rw [c_307]; decide) (by rw [c_307]; decide) (by rw [c_307]; decide) (by decide) ?_
      have hP := hP.sub (ws' := [(q_1, .inr (8, [.ref a_3, .ref a_4, .ref a_5, .ref a_6, .ref a_7, .ref a_8, .ref a_9, .ref a_10, .ref a_11, .int 0, .int 0, .int 0, .int 0, .int 0, .int 0])), (a_7, .inl (j_28, 60, .inr (.inr (.inr (.inr (fun _ => none)))))), (q_35, .inr (9, [.int 0, .ref m_37, .int 0, .int 0, .int 0, .ref m_38, .ref m_39, .ref m_40, .int 0, .int 0, .int 0, .int 0, .int 0, .int 0, .long 0, .ref m_41, .ref m_42, .ref m_43, .ref m_44, .ref m_45, .ref m_46, .int 0, .ref m_47, .ref m_48, .ref m_49, .ref m_50, .ref m_51, .ref m_52, .ref m_53, .ref m_54, .ref m_55, .ref m_56, .ref m_57, .ref m_58, .ref m_59, .int 0, .int 0, .ref m_60, .ref m_61, .ref m_62, .ref m_63, .ref m_64, .ref m_65, .ref m_66, .ref m_67, .ref m_68, .ref m_69]))]) [0, 34, 40] rfl
      have hD := hD.sub (ws' := [(q_1, .inr (8, [.ref a_3, .ref a_4, .ref a_5, .ref a_6, .ref a_7, .ref a_8, .ref a_9, .ref a_10, .ref a_11, .int 0, .int 0, .int 0, .int 0, .int 0, .int 0])), (a_7, .inl (j_28, 60, .inr (.inr (.inr (.inr (fun _ => none)))))), (q_35, .inr (9, [.int 0, .ref m_37, .int 0, .int 0, .int 0, .ref m_38, .ref m_39, .ref m_40, .int 0, .int 0, .int 0, .int 0, .int 0, .int 0, .long 0, .ref m_41, .ref m_42, .ref m_43, .ref m_44, .ref m_45, .ref m_46, .int 0, .ref m_47, .ref m_48, .ref m_49, .ref m_50, .ref m_51, .ref m_52, .ref m_53, .ref m_54, .ref m_55, .ref m_56, .ref m_57, .ref m_58, .ref m_59, .int 0, .int 0, .ref m_60, .ref m_61, .ref m_62, .ref m_63, .ref m_64, .ref m_65, .ref m_66, .ref m_67, .ref m_68, .ref m_69]))]) [0, 34, 40] (by decide) rfl
      refine lv_aload_n hx hb dL_law_694 rfl (lv_at hl 3 rfl) ?_
      refine lv_aload_n hx hb dL_law_695 rfl (lv_at hl 4 rfl) ?_
      refine lv_iload hx hb dL_law_696 (lv_at hl 0 rfl) ?_
      refine lv_iconst (v := 1) hx hb dL_law_698 (by decide) ?_
      refine lv_iadd hx hb dL_law_699 ?_
      refine lv_topi (fun y_308 ey_308 => ?_)
      obtain rfl : y_308 = 1 := ey_308.trans (by decide)
      refine va_sld hx hb hX hbl hbA hS (by unfold vp_in; decide) dL_law_700 ?_
      refine lv_topi (fun v_309 ev_309 => ?_)
      obtain rfl : v_309 = xs 1 := ev_309.trans rfl
      refine lv_aload_n hx hb dL_law_701 rfl (lv_at hl 4 rfl) ?_
      refine lv_iload hx hb dL_law_702 (lv_at hl 0 rfl) ?_
      refine lv_iconst (v := 2) hx hb dL_law_704 (by decide) ?_
      refine lv_iadd hx hb dL_law_705 ?_
      refine lv_topi (fun y_310 ey_310 => ?_)
      obtain rfl : y_310 = 2 := ey_310.trans (by decide)
      refine va_sld hx hb hX hbl hbA hS (by unfold vp_in; decide) dL_law_706 ?_
      refine lv_topi (fun v_311 ev_311 => ?_)
      obtain rfl : v_311 = xs 2 := ev_311.trans rfl
      refine lv_aload_n hx hb dL_law_707 rfl (lv_at hl 1 rfl) ?_
      have hPc := hP.sub (ws' := [(q_1, .inr (8, [.ref a_3, .ref a_4, .ref a_5, .ref a_6, .ref a_7, .ref a_8, .ref a_9, .ref a_10, .ref a_11, .int 0, .int 0, .int 0, .int 0, .int 0, .int 0])), (a_7, .inl (j_28, 60, .inr (.inr (.inr (.inr (fun _ => none))))))]) [0, 1] rfl
      have hDc := hD.sub (ws' := [(q_1, .inr (8, [.ref a_3, .ref a_4, .ref a_5, .ref a_6, .ref a_7, .ref a_8, .ref a_9, .ref a_10, .ref a_11, .int 0, .int 0, .int 0, .int 0, .int 0, .int 0])), (a_7, .inl (j_28, 60, .inr (.inr (.inr (.inr (fun _ => none))))))]) [0, 1] (by decide) rfl
      have hKc := hK.sub (tys' := [(j_28, .object "YamRiders$Horse")]) [8] rfl
      have hFc := va_free (wc := [(q_1, .inr (8, [.ref a_3, .ref a_4, .ref a_5, .ref a_6, .ref a_7, .ref a_8, .ref a_9, .ref a_10, .ref a_11, .int 0, .int 0, .int 0, .int 0, .int 0, .int 0])), (a_7, .inl (j_28, 60, .inr (.inr (.inr (.inr (fun _ => none))))))]) hD hS hA [0, 1] rfl
      refine va_calli (vx_runSW (As := [.ref q_1, .int (xs 1), .int (xs 2), .ref q_104]) (rest := []) ⟨hx, hb, hml, hown, hts0⟩ (c_L_steed l hst dC dI q_1 a_3 a_4 a_5 a_6 a_7 a_8 a_9 a_10 a_11 j_28 (xs 1) (xs 2) q_104 H.size) (vx_cwSW 4 hts0 gN_law_steed rfl rfl rfl (by decide +kernel) ⟨Nat.le_of_ble_eq_true rfl, Nat.le_of_ble_eq_true rfl⟩) ⟨x_blind, x_preH hPc hKc hDc hN hnb0 hsa_steed ((hUz.kept hS.2.1).narrow hFc) ((hSz.kept hS.2.1).narrow hFc)⟩ rfl rfl hl.1 rfl (lv_room (Nat.le_of_ble_eq_true rfl)) dL_law_708 ⟨Nat.le_of_ble_eq_true rfl, Nat.le_of_ble_eq_true rfl⟩) hS (fun q _ h => hFc q h) hFc (fun r9 u9 t9 H1 locs ht hvm hw hB hz1 hk1 hS => ?_)
      obtain ⟨hP, hD⟩ := va_join (wr := [(q_35, .inr (9, [.int 0, .ref m_37, .int 0, .int 0, .int 0, .ref m_38, .ref m_39, .ref m_40, .int 0, .int 0, .int 0, .int 0, .int 0, .int 0, .long 0, .ref m_41, .ref m_42, .ref m_43, .ref m_44, .ref m_45, .ref m_46, .int 0, .ref m_47, .ref m_48, .ref m_49, .ref m_50, .ref m_51, .ref m_52, .ref m_53, .ref m_54, .ref m_55, .ref m_56, .ref m_57, .ref m_58, .ref m_59, .int 0, .int 0, .ref m_60, .ref m_61, .ref m_62, .ref m_63, .ref m_64, .ref m_65, .ref m_66, .ref m_67, .ref m_68, .ref m_69]))]) (w1 := []) hP hD [0, 1] [2] rfl rfl (by decide) (by decide) hk1 hFc (fun k q h => by simp at h) ⟨fun i j p q h => by simp at h, fun k q h => by simp at h⟩
      generalize H1 = H at hP hS ⊢
      have hP : va_P (dC, dI) vwCl [(q_35, .inr (9, [.int 0, .ref m_37, .int 0, .int 0, .int 0, .ref m_38, .ref m_39, .ref m_40, .int 0, .int 0, .int 0, .int 0, .int 0, .int 0, .long 0, .ref m_41, .ref m_42, .ref m_43, .ref m_44, .ref m_45, .ref m_46, .int 0, .ref m_47, .ref m_48, .ref m_49, .ref m_50, .ref m_51, .ref m_52, .ref m_53, .ref m_54, .ref m_55, .ref m_56, .ref m_57, .ref m_58, .ref m_59, .int 0, .int 0, .ref m_60, .ref m_61, .ref m_62, .ref m_63, .ref m_64, .ref m_65, .ref m_66, .ref m_67, .ref m_68, .ref m_69]))] H := hP
      have hD : va_D (fun q : Nat => s.heap.size ≤ q) [(q_35, .inr (9, [.int 0, .ref m_37, .int 0, .int 0, .int 0, .ref m_38, .ref m_39, .ref m_40, .int 0, .int 0, .int 0, .int 0, .int 0, .int 0, .long 0, .ref m_41, .ref m_42, .ref m_43, .ref m_44, .ref m_45, .ref m_46, .int 0, .ref m_47, .ref m_48, .ref m_49, .ref m_50, .ref m_51, .ref m_52, .ref m_53, .ref m_54, .ref m_55, .ref m_56, .ref m_57, .ref m_58, .ref m_59, .int 0, .int 0, .ref m_60, .ref m_61, .ref m_62, .ref m_63, .ref m_64, .ref m_65, .ref m_66, .ref m_67, .ref m_68, .ref m_69]))] := hD
      try dsimp only at hw
      subst hw
      refine W.widen (k := 103) (n := 4439) (Nat.le_of_ble_eq_true rfl) (Nat.le_of_ble_eq_true rfl) ?_
      refine lv_istore (lv' := [(5, .int 1), (4, .int 0), (3, .ref q_104), (2, .ref q_35), (1, .ref q_1), (0, .ref b)]) hx hb dL_law_711 hl (by decide) rfl (fun ls hl => ?_)
      refine lv_aload_n hx hb dL_law_713 rfl (lv_at hl 3 rfl) ?_
      refine lv_aload_n hx hb dL_law_714 rfl (lv_at hl 5 rfl) ?_
      refine lv_iload hx hb dL_law_715 (lv_at hl 1 rfl) ?_
      refine lv_iconst (v := 1) hx hb dL_law_717 (by decide) ?_
      refine lv_iadd hx hb dL_law_718 ?_
      refine lv_topi (fun y_312 ey_312 => ?_)
      obtain rfl : y_312 = 1 := ey_312.trans (by decide)
      refine va_sld hx hb hX hbl hbA hS (by unfold vp_in; decide) dL_law_719 ?_
      refine lv_topi (fun v_313 ev_313 => ?_)
      obtain rfl : v_313 = xs 1 := ev_313.trans rfl
      refine lv_aload_n hx hb dL_law_720 rfl (lv_at hl 5 rfl) ?_
      refine lv_iload hx hb dL_law_721 (lv_at hl 1 rfl) ?_
      refine lv_iconst (v := 2) hx hb dL_law_723 (by decide) ?_
      refine lv_iadd hx hb dL_law_724 ?_
      refine lv_topi (fun y_314 ey_314 => ?_)
      obtain rfl : y_314 = 2 := ey_314.trans (by decide)
      refine va_sld hx hb hX hbl hbA hS (by unfold vp_in; decide) dL_law_725 ?_
      refine lv_topi (fun v_315 ev_315 => ?_)
      obtain rfl : v_315 = xs 2 := ev_315.trans rfl
      have hPc := hP.sub (ws' := [(q_35, .inr (9, [.int 0, .ref m_37, .int 0, .int 0, .int 0, .ref m_38, .ref m_39, .ref m_40, .int 0, .int 0, .int 0, .int 0, .int 0, .int 0, .long 0, .ref m_41, .ref m_42, .ref m_43, .ref m_44, .ref m_45, .ref m_46, .int 0, .ref m_47, .ref m_48, .ref m_49, .ref m_50, .ref m_51, .ref m_52, .ref m_53, .ref m_54, .ref m_55, .ref m_56, .ref m_57, .ref m_58, .ref m_59, .int 0, .int 0, .ref m_60, .ref m_61, .ref m_62, .ref m_63, .ref m_64, .ref m_65, .ref m_66, .ref m_67, .ref m_68, .ref m_69]))]) [0] rfl
      have hDc := hD.sub (ws' := [(q_35, .inr (9, [.int 0, .ref m_37, .int 0, .int 0, .int 0, .ref m_38, .ref m_39, .ref m_40, .int 0, .int 0, .int 0, .int 0, .int 0, .int 0, .long 0, .ref m_41, .ref m_42, .ref m_43, .ref m_44, .ref m_45, .ref m_46, .int 0, .ref m_47, .ref m_48, .ref m_49, .ref m_50, .ref m_51, .ref m_52, .ref m_53, .ref m_54, .ref m_55, .ref m_56, .ref m_57, .ref m_58, .ref m_59, .int 0, .int 0, .ref m_60, .ref m_61, .ref m_62, .ref m_63, .ref m_64, .ref m_65, .ref m_66, .ref m_67, .ref m_68, .ref m_69]))]) [0] (by decide) rfl
      have hKc := hK.sub (tys' := []) [] rfl
      have hFc := va_free (wc := [(q_35, .inr (9, [.int 0, .ref m_37, .int 0, .int 0, .int 0, .ref m_38, .ref m_39, .ref m_40, .int 0, .int 0, .int 0, .int 0, .int 0, .int 0, .long 0, .ref m_41, .ref m_42, .ref m_43, .ref m_44, .ref m_45, .ref m_46, .int 0, .ref m_47, .ref m_48, .ref m_49, .ref m_50, .ref m_51, .ref m_52, .ref m_53, .ref m_54, .ref m_55, .ref m_56, .ref m_57, .ref m_58, .ref m_59, .int 0, .int 0, .ref m_60, .ref m_61, .ref m_62, .ref m_63, .ref m_64, .ref m_65, .ref m_66, .ref m_67, .ref m_68, .ref m_69]))]) hD hS hA [0] rfl
      refine va_calli (va_runV (As := [.int (xs 1), .int (xs 2)]) (rest := []) ⟨hx, hb, hml, hown, hts⟩ (c_X9_steed l dC dI q_35 m_37 m_38 m_39 m_40 m_41 m_42 m_43 m_44 m_45 m_46 m_47 m_48 m_49 m_50 m_51 m_52 m_53 m_54 m_55 m_56 m_57 m_58 m_59 m_60 m_61 m_62 m_63 m_64 m_65 m_66 m_67 m_68 m_69 (xs 1) (xs 2) H.size) (cwV 2 hts gL_law_X9_steed rfl rfl rfl (by decide +kernel) ⟨Nat.le_of_ble_eq_true rfl, Nat.le_of_ble_eq_true rfl⟩) ⟨c_blind, va_recv hKc hPc (ci := 9) (q0 := 0) rfl rfl, c_pre hPc hKc hDc hN⟩ rfl rfl hl.1 rfl (lv_room (Nat.le_of_ble_eq_true rfl)) dL_law_726 ⟨Nat.le_of_ble_eq_true rfl, Nat.le_of_ble_eq_true rfl⟩) hS (fun q _ h => hFc q h) hFc (fun r_316 u9 t9 H1 locs ht hvm hw hB hz1 hk1 hS => ?_)
      obtain ⟨hP1, hK1, hD1⟩ := hB
      rw [ht] at hP1
      have hK1 := va_K.moved hvm.symm hK1
      obtain ⟨hP, hD⟩ := va_join (wr := []) (w1 := [(q_35, .inr (9, [.int 1, .ref m_37, .int 0, .int 0, .int 0, .ref m_38, .ref m_39, .ref m_40, .int 0, .int 0, .int 0, .int 0, .int 0, .int 0, .long 0, .ref m_41, .ref m_42, .ref m_43, .ref m_44, .ref m_45, .ref m_46, .int 0, .ref m_47, .ref m_48, .ref m_49, .ref m_50, .ref m_51, .ref m_52, .ref m_53, .ref m_54, .ref m_55, .ref m_56, .ref m_57, .ref m_58, .ref m_59, .int 0, .int 0, .ref m_60, .ref m_61, .ref m_62, .ref m_63, .ref m_64, .ref m_65, .ref m_66, .ref m_67, .ref m_68, .ref m_69]))]) hP hD [0] [] rfl rfl (by decide) (by decide) hk1 hFc hP1 hD1
      have hK := (hK.sub (tys' := [(j_13, .int), (g_19, .array .int), (g_20, .array .int), (ky_21, .int), (kt_22, .int), (kz_23, .boolean), (kr_24, .int), (j_27, .int), (j_28, .object "YamRiders$Horse"), (j_29, .object "YamRiders$Tablet"), (j_30, .object "YamRiders$Rider"), (j_31, .object "YamRiders$Rider"), (j_33, .int), (k_tape_70, .byte), (k_law_71, .int), (k_fresh_72, .int), (k_isTold_73, .boolean), (k_hours_74, .int), (k_snow_75, .int), (k_least_76, .int), (k_fodder_77, .int), (k_strength_78, .int), (k_stands_79, .int), (k_rank_80, .int), (k_voidSince_81, .int), (k_newsSince_82, .int), (k_ways_83, .int), (k_wayMany_84, .int), (k_tabletOf_85, .int), (k_state_86, .int), (k_come_87, .int), (k_cameIn_88, .int), (k_horseOf_89, .int), (k_due_90, .int), (k_time_91, .int), (k_brings_92, .int), (k_loose_93, .boolean), (k_asked_94, .boolean), (k_led_95, .int), (k_cost_96, .int), (k_left_97, .int), (k_wants_98, .int), (k_toGiver_99, .int), (k_toTaker_100, .int), (k_giverBy_101, .int), (k_takerBy_102, .int), (k_105, .long)]) [0, 1, 2, 3, 4, 5, 6, 7, 8, 9, 10, 11, 12, 13, 14, 15, 16, 17, 18, 19, 20, 21, 22, 23, 24, 25, 26, 27, 28, 29, 30, 31, 32, 33, 34, 35, 36, 37, 38, 39, 40, 41, 42, 43, 44, 45, 46] rfl).app hK1
      generalize H1 = H at hP hS ⊢
      have hK : va_K (dC, dI) vwCl [(j_13, .int), (g_19, .array .int), (g_20, .array .int), (ky_21, .int), (kt_22, .int), (kz_23, .boolean), (kr_24, .int), (j_27, .int), (j_28, .object "YamRiders$Horse"), (j_29, .object "YamRiders$Tablet"), (j_30, .object "YamRiders$Rider"), (j_31, .object "YamRiders$Rider"), (j_33, .int), (k_tape_70, .byte), (k_law_71, .int), (k_fresh_72, .int), (k_isTold_73, .boolean), (k_hours_74, .int), (k_snow_75, .int), (k_least_76, .int), (k_fodder_77, .int), (k_strength_78, .int), (k_stands_79, .int), (k_rank_80, .int), (k_voidSince_81, .int), (k_newsSince_82, .int), (k_ways_83, .int), (k_wayMany_84, .int), (k_tabletOf_85, .int), (k_state_86, .int), (k_come_87, .int), (k_cameIn_88, .int), (k_horseOf_89, .int), (k_due_90, .int), (k_time_91, .int), (k_brings_92, .int), (k_loose_93, .boolean), (k_asked_94, .boolean), (k_led_95, .int), (k_cost_96, .int), (k_left_97, .int), (k_wants_98, .int), (k_toGiver_99, .int), (k_toTaker_100, .int), (k_giverBy_101, .int), (k_takerBy_102, .int), (k_105, .long)] s := hK
      have hP : va_P (dC, dI) vwCl [(q_35, .inr (9, [.int 1, .ref m_37, .int 0, .int 0, .int 0, .ref m_38, .ref m_39, .ref m_40, .int 0, .int 0, .int 0, .int 0, .int 0, .int 0, .long 0, .ref m_41, .ref m_42, .ref m_43, .ref m_44, .ref m_45, .ref m_46, .int 0, .ref m_47, .ref m_48, .ref m_49, .ref m_50, .ref m_51, .ref m_52, .ref m_53, .ref m_54, .ref m_55, .ref m_56, .ref m_57, .ref m_58, .ref m_59, .int 0, .int 0, .ref m_60, .ref m_61, .ref m_62, .ref m_63, .ref m_64, .ref m_65, .ref m_66, .ref m_67, .ref m_68, .ref m_69]))] H := hP
      have hD : va_D (fun q : Nat => s.heap.size ≤ q) [(q_35, .inr (9, [.int 1, .ref m_37, .int 0, .int 0, .int 0, .ref m_38, .ref m_39, .ref m_40, .int 0, .int 0, .int 0, .int 0, .int 0, .int 0, .long 0, .ref m_41, .ref m_42, .ref m_43, .ref m_44, .ref m_45, .ref m_46, .int 0, .ref m_47, .ref m_48, .ref m_49, .ref m_50, .ref m_51, .ref m_52, .ref m_53, .ref m_54, .ref m_55, .ref m_56, .ref m_57, .ref m_58, .ref m_59, .int 0, .int 0, .ref m_60, .ref m_61, .ref m_62, .ref m_63, .ref m_64, .ref m_65, .ref m_66, .ref m_67, .ref m_68, .ref m_69]))] := hD
      try dsimp only at hw
      subst hw
      refine W.widen (k := 103) (n := 4439) (Nat.le_of_ble_eq_true rfl) (Nat.le_of_ble_eq_true rfl) ?_
      refine lv_istore (lv' := [(6, .int 0), (5, .int 1), (4, .int 0), (3, .ref q_104), (2, .ref q_35), (1, .ref q_1), (0, .ref b)]) hx hb dL_law_729 hl (by decide) rfl (fun ls hl => ?_)
      refine lv_aload_n hx hb dL_law_731 rfl (lv_at hl 4 rfl) ?_
      have hPc := hP.sub (ws' := [(q_35, .inr (9, [.int 1, .ref m_37, .int 0, .int 0, .int 0, .ref m_38, .ref m_39, .ref m_40, .int 0, .int 0, .int 0, .int 0, .int 0, .int 0, .long 0, .ref m_41, .ref m_42, .ref m_43, .ref m_44, .ref m_45, .ref m_46, .int 0, .ref m_47, .ref m_48, .ref m_49, .ref m_50, .ref m_51, .ref m_52, .ref m_53, .ref m_54, .ref m_55, .ref m_56, .ref m_57, .ref m_58, .ref m_59, .int 0, .int 0, .ref m_60, .ref m_61, .ref m_62, .ref m_63, .ref m_64, .ref m_65, .ref m_66, .ref m_67, .ref m_68, .ref m_69]))]) [0] rfl
      have hDc := hD.sub (ws' := [(q_35, .inr (9, [.int 1, .ref m_37, .int 0, .int 0, .int 0, .ref m_38, .ref m_39, .ref m_40, .int 0, .int 0, .int 0, .int 0, .int 0, .int 0, .long 0, .ref m_41, .ref m_42, .ref m_43, .ref m_44, .ref m_45, .ref m_46, .int 0, .ref m_47, .ref m_48, .ref m_49, .ref m_50, .ref m_51, .ref m_52, .ref m_53, .ref m_54, .ref m_55, .ref m_56, .ref m_57, .ref m_58, .ref m_59, .int 0, .int 0, .ref m_60, .ref m_61, .ref m_62, .ref m_63, .ref m_64, .ref m_65, .ref m_66, .ref m_67, .ref m_68, .ref m_69]))]) [0] (by decide) rfl
      have hKc := hK.sub (tys' := []) [] rfl
      refine cs_i (va_runV (As := []) (rest := []) ⟨hx, hb, hml, hown, hts⟩ (c_X9_thrown l dC dI q_35 m_37 m_38 m_39 m_40 m_41 m_42 m_43 m_44 m_45 m_46 m_47 m_48 m_49 m_50 m_51 m_52 m_53 m_54 m_55 m_56 m_57 m_58 m_59 m_60 m_61 m_62 m_63 m_64 m_65 m_66 m_67 m_68 m_69 H.size) (cwV 0 hts gL_law_X9_thrown rfl rfl rfl (by decide +kernel) ⟨Nat.le_of_ble_eq_true rfl, Nat.le_of_ble_eq_true rfl⟩) ⟨c_blind, va_recv hKc hPc (ci := 9) (q0 := 0) rfl rfl, c_pre hPc hKc hDc hN⟩ rfl rfl hl.1 rfl (lv_room (Nat.le_of_ble_eq_true rfl)) dL_law_732 ⟨Nat.le_of_ble_eq_true rfl, Nat.le_of_ble_eq_true rfl⟩) (fun r_317 hr_317 => ?_)
      subst hr_317
      refine lv_iload hx hb dL_law_735 (lv_at hl 1 rfl) ?_
      refine lv_icmp_eq (tgt := 742) hx hb dL_law_737 (by decide) (fun _ => ?_) (fun c_318 => by first | exact absurd c_318 (by decide) | exact absurd (by decide) c_318)
      refine lv_iload hx hb dL_law_742 (lv_at hl 1 rfl) ?_
      refine lv_if_ne (tgt := 759) hx hb dL_law_744 (by decide) (fun _ => ?_) (fun c_319 => by first | exact absurd c_319 (by decide) | exact absurd (by decide) c_319)
      refine lv_goto (tgt := 948) hx hb dL_law_759 (by decide) ?_
      refine lv_iinc (v := 6) (lv' := [(4, .int 6), (6, .int 0), (5, .int 1), (3, .ref q_104), (2, .ref q_35), (1, .ref q_1), (0, .ref b)]) hx hb dL_law_948 hl (k := 2) rfl (by decide) (by decide) rfl (fun ls hl => ?_)
      refine lv_goto (tgt := 23) hx hb dL_law_951 (by decide) ?_
      refine lv_iload hx hb dL_law_23 (lv_at hl 0 rfl) ?_
      refine lv_aload_n hx hb dL_law_25 rfl (lv_at hl 6 rfl) ?_
      refine va_slen hx hb hX hbl hbA hS dL_law_26 ?_
      refine lv_bipush (v := 6) hx hb dL_law_27 (by decide) ?_
      refine lv_isub hx hb dL_law_29 ?_
      refine lv_topi (fun y_320 ey_320 => ?_)
      obtain rfl : y_320 = 0 := ey_320.trans (by decide)
      refine lv_icmp_gt (tgt := 954) hx hb dL_law_30 (by decide) (fun _ => ?_) (fun c_321 => by first | exact absurd c_321 (by decide) | exact absurd (by decide) c_321)
      refine lv_iconst (v := 1) hx hb dL_law_954 (by decide) ?_
      refine va_forget (fun q hq => hS.2.2 q hq) ?_
      refine W.widen (k := 600002) (n := 7302232) (Nat.le_of_ble_eq_true rfl) (Nat.le_of_ble_eq_true rfl) ?_
      exact lw_ret hx hb hr hlocks dL_law_955
    by_cases c_322 : (xs 0) &&& 31 = 16
    · refine lv_tableIn (tgt := 762) (off := 722) hx hb dL_law_40 (by rw [c_322]; decide) (by rw [c_322]; decide) (by rw [c_322]; decide) (by decide) ?_
      have hP := hP.sub (ws' := [(q_1, .inr (8, [.ref a_3, .ref a_4, .ref a_5, .ref a_6, .ref a_7, .ref a_8, .ref a_9, .ref a_10, .ref a_11, .int 0, .int 0, .int 0, .int 0, .int 0, .int 0])), (a_6, .inl (j_27, 12, .inl (fun _ => 0))), (a_7, .inl (j_28, 60, .inr (.inr (.inr (.inr (fun _ => none)))))), (a_9, .inl (j_30, 60, .inr (.inr (.inr (.inr (fun _ => none)))))), (q_35, .inr (9, [.int 0, .ref m_37, .int 0, .int 0, .int 0, .ref m_38, .ref m_39, .ref m_40, .int 0, .int 0, .int 0, .int 0, .int 0, .int 0, .long 0, .ref m_41, .ref m_42, .ref m_43, .ref m_44, .ref m_45, .ref m_46, .int 0, .ref m_47, .ref m_48, .ref m_49, .ref m_50, .ref m_51, .ref m_52, .ref m_53, .ref m_54, .ref m_55, .ref m_56, .ref m_57, .ref m_58, .ref m_59, .int 0, .int 0, .ref m_60, .ref m_61, .ref m_62, .ref m_63, .ref m_64, .ref m_65, .ref m_66, .ref m_67, .ref m_68, .ref m_69])), (m_44, .inl (k_fodder_77, 12, .inl (fun _ => 0)))]) [0, 33, 34, 36, 40, 48] rfl
      have hD := hD.sub (ws' := [(q_1, .inr (8, [.ref a_3, .ref a_4, .ref a_5, .ref a_6, .ref a_7, .ref a_8, .ref a_9, .ref a_10, .ref a_11, .int 0, .int 0, .int 0, .int 0, .int 0, .int 0])), (a_6, .inl (j_27, 12, .inl (fun _ => 0))), (a_7, .inl (j_28, 60, .inr (.inr (.inr (.inr (fun _ => none)))))), (a_9, .inl (j_30, 60, .inr (.inr (.inr (.inr (fun _ => none)))))), (q_35, .inr (9, [.int 0, .ref m_37, .int 0, .int 0, .int 0, .ref m_38, .ref m_39, .ref m_40, .int 0, .int 0, .int 0, .int 0, .int 0, .int 0, .long 0, .ref m_41, .ref m_42, .ref m_43, .ref m_44, .ref m_45, .ref m_46, .int 0, .ref m_47, .ref m_48, .ref m_49, .ref m_50, .ref m_51, .ref m_52, .ref m_53, .ref m_54, .ref m_55, .ref m_56, .ref m_57, .ref m_58, .ref m_59, .int 0, .int 0, .ref m_60, .ref m_61, .ref m_62, .ref m_63, .ref m_64, .ref m_65, .ref m_66, .ref m_67, .ref m_68, .ref m_69])), (m_44, .inl (k_fodder_77, 12, .inl (fun _ => 0)))]) [0, 33, 34, 36, 40, 48] (by decide) rfl
      refine lv_aload_n hx hb dL_law_762 rfl (lv_at hl 3 rfl) ?_
      refine lv_aload_n hx hb dL_law_763 rfl (lv_at hl 4 rfl) ?_
      refine lv_iload hx hb dL_law_764 (lv_at hl 0 rfl) ?_
      refine lv_iconst (v := 1) hx hb dL_law_766 (by decide) ?_
      refine lv_iadd hx hb dL_law_767 ?_
      refine lv_topi (fun y_323 ey_323 => ?_)
      obtain rfl : y_323 = 1 := ey_323.trans (by decide)
      refine va_sld hx hb hX hbl hbA hS (by unfold vp_in; decide) dL_law_768 ?_
      refine lv_topi (fun v_324 ev_324 => ?_)
      obtain rfl : v_324 = xs 1 := ev_324.trans rfl
      refine lv_aload_n hx hb dL_law_769 rfl (lv_at hl 4 rfl) ?_
      refine lv_iload hx hb dL_law_770 (lv_at hl 0 rfl) ?_
      refine lv_iconst (v := 2) hx hb dL_law_772 (by decide) ?_
      refine lv_iadd hx hb dL_law_773 ?_
      refine lv_topi (fun y_325 ey_325 => ?_)
      obtain rfl : y_325 = 2 := ey_325.trans (by decide)
      refine va_sld hx hb hX hbl hbA hS (by unfold vp_in; decide) dL_law_774 ?_
      refine lv_topi (fun v_326 ev_326 => ?_)
      obtain rfl : v_326 = xs 2 := ev_326.trans rfl
      have hPc := hP.sub (ws' := [(q_1, .inr (8, [.ref a_3, .ref a_4, .ref a_5, .ref a_6, .ref a_7, .ref a_8, .ref a_9, .ref a_10, .ref a_11, .int 0, .int 0, .int 0, .int 0, .int 0, .int 0])), (a_6, .inl (j_27, 12, .inl (fun _ => 0))), (a_7, .inl (j_28, 60, .inr (.inr (.inr (.inr (fun _ => none)))))), (a_9, .inl (j_30, 60, .inr (.inr (.inr (.inr (fun _ => none))))))]) [0, 1, 2, 3] rfl
      have hDc := hD.sub (ws' := [(q_1, .inr (8, [.ref a_3, .ref a_4, .ref a_5, .ref a_6, .ref a_7, .ref a_8, .ref a_9, .ref a_10, .ref a_11, .int 0, .int 0, .int 0, .int 0, .int 0, .int 0])), (a_6, .inl (j_27, 12, .inl (fun _ => 0))), (a_7, .inl (j_28, 60, .inr (.inr (.inr (.inr (fun _ => none)))))), (a_9, .inl (j_30, 60, .inr (.inr (.inr (.inr (fun _ => none))))))]) [0, 1, 2, 3] (by decide) rfl
      have hKc := hK.sub (tys' := [(j_27, .int), (j_28, .object "YamRiders$Horse"), (j_30, .object "YamRiders$Rider")]) [7, 8, 10] rfl
      refine cs_i (va_runV (As := [.int (xs 1), .int (xs 2)]) (rest := []) ⟨hx, hb, hml, hown, hts⟩ (c_X8_at l dC dI q_1 a_3 a_4 a_5 a_6 a_7 a_8 a_9 a_10 a_11 j_27 j_28 j_30 (xs 1) (xs 2) H.size) (cwV 2 hts gL_law_X8_at rfl rfl rfl (by decide +kernel) ⟨Nat.le_of_ble_eq_true rfl, Nat.le_of_ble_eq_true rfl⟩) ⟨c_blind, va_recv hKc hPc (ci := 8) (q0 := 0) rfl rfl, c_pre hPc hKc hDc hN⟩ rfl rfl hl.1 rfl (lv_room (Nat.le_of_ble_eq_true rfl)) dL_law_775 ⟨Nat.le_of_ble_eq_true rfl, Nat.le_of_ble_eq_true rfl⟩) (fun r_327 hr_327 => ?_)
      subst hr_327
      refine lv_aload_n hx hb dL_law_778 rfl (lv_at hl 2 rfl) ?_
      refine lv_aload_n hx hb dL_law_779 rfl (lv_at hl 4 rfl) ?_
      refine lv_iload hx hb dL_law_780 (lv_at hl 0 rfl) ?_
      refine lv_iconst (v := 1) hx hb dL_law_782 (by decide) ?_
      refine lv_iadd hx hb dL_law_783 ?_
      refine lv_topi (fun y_328 ey_328 => ?_)
      obtain rfl : y_328 = 1 := ey_328.trans (by decide)
      refine va_sld hx hb hX hbl hbA hS (by unfold vp_in; decide) dL_law_784 ?_
      refine lv_topi (fun v_329 ev_329 => ?_)
      obtain rfl : v_329 = xs 1 := ev_329.trans rfl
      refine lv_aload_n hx hb dL_law_785 rfl (lv_at hl 4 rfl) ?_
      refine lv_iload hx hb dL_law_786 (lv_at hl 0 rfl) ?_
      refine lv_iconst (v := 2) hx hb dL_law_788 (by decide) ?_
      refine lv_iadd hx hb dL_law_789 ?_
      refine lv_topi (fun y_330 ey_330 => ?_)
      obtain rfl : y_330 = 2 := ey_330.trans (by decide)
      refine va_sld hx hb hX hbl hbA hS (by unfold vp_in; decide) dL_law_790 ?_
      refine lv_topi (fun v_331 ev_331 => ?_)
      obtain rfl : v_331 = xs 2 := ev_331.trans rfl
      have hPc := hP.sub (ws' := [(q_35, .inr (9, [.int 0, .ref m_37, .int 0, .int 0, .int 0, .ref m_38, .ref m_39, .ref m_40, .int 0, .int 0, .int 0, .int 0, .int 0, .int 0, .long 0, .ref m_41, .ref m_42, .ref m_43, .ref m_44, .ref m_45, .ref m_46, .int 0, .ref m_47, .ref m_48, .ref m_49, .ref m_50, .ref m_51, .ref m_52, .ref m_53, .ref m_54, .ref m_55, .ref m_56, .ref m_57, .ref m_58, .ref m_59, .int 0, .int 0, .ref m_60, .ref m_61, .ref m_62, .ref m_63, .ref m_64, .ref m_65, .ref m_66, .ref m_67, .ref m_68, .ref m_69])), (m_44, .inl (k_fodder_77, 12, .inl (fun _ => 0)))]) [4, 5] rfl
      have hDc := hD.sub (ws' := [(q_35, .inr (9, [.int 0, .ref m_37, .int 0, .int 0, .int 0, .ref m_38, .ref m_39, .ref m_40, .int 0, .int 0, .int 0, .int 0, .int 0, .int 0, .long 0, .ref m_41, .ref m_42, .ref m_43, .ref m_44, .ref m_45, .ref m_46, .int 0, .ref m_47, .ref m_48, .ref m_49, .ref m_50, .ref m_51, .ref m_52, .ref m_53, .ref m_54, .ref m_55, .ref m_56, .ref m_57, .ref m_58, .ref m_59, .int 0, .int 0, .ref m_60, .ref m_61, .ref m_62, .ref m_63, .ref m_64, .ref m_65, .ref m_66, .ref m_67, .ref m_68, .ref m_69])), (m_44, .inl (k_fodder_77, 12, .inl (fun _ => 0)))]) [4, 5] (by decide) rfl
      have hKc := hK.sub (tys' := [(k_fodder_77, .int)]) [20] rfl
      have hFc := va_free (wc := [(q_35, .inr (9, [.int 0, .ref m_37, .int 0, .int 0, .int 0, .ref m_38, .ref m_39, .ref m_40, .int 0, .int 0, .int 0, .int 0, .int 0, .int 0, .long 0, .ref m_41, .ref m_42, .ref m_43, .ref m_44, .ref m_45, .ref m_46, .int 0, .ref m_47, .ref m_48, .ref m_49, .ref m_50, .ref m_51, .ref m_52, .ref m_53, .ref m_54, .ref m_55, .ref m_56, .ref m_57, .ref m_58, .ref m_59, .int 0, .int 0, .ref m_60, .ref m_61, .ref m_62, .ref m_63, .ref m_64, .ref m_65, .ref m_66, .ref m_67, .ref m_68, .ref m_69])), (m_44, .inl (k_fodder_77, 12, .inl (fun _ => 0)))]) hD hS hA [4, 5] rfl
      refine va_calli (va_runV (As := [.int (xs 1), .int (xs 2)]) (rest := [.int (if (sp_st (xs 1)) = 0 then (-1) else (if (xs 2) = 0 then 0 else (if (xs 2) = 1 then 0 else (if (xs 2) = 2 then 0 else (-1)))))]) ⟨hx, hb, hml, hown, hts⟩ (c_X9_at l dC dI q_35 m_37 m_38 m_39 m_40 m_41 m_42 m_43 m_44 m_45 m_46 m_47 m_48 m_49 m_50 m_51 m_52 m_53 m_54 m_55 m_56 m_57 m_58 m_59 m_60 m_61 m_62 m_63 m_64 m_65 m_66 m_67 m_68 m_69 k_fodder_77 (xs 1) (xs 2) H.size) (cwV 2 hts gL_law_X9_at rfl rfl rfl (by decide +kernel) ⟨Nat.le_of_ble_eq_true rfl, Nat.le_of_ble_eq_true rfl⟩) ⟨c_blind, va_recv hKc hPc (ci := 9) (q0 := 0) rfl rfl, c_pre hPc hKc hDc hN⟩ rfl rfl hl.1 rfl (lv_room (Nat.le_of_ble_eq_true rfl)) dL_law_791 ⟨Nat.le_of_ble_eq_true rfl, Nat.le_of_ble_eq_true rfl⟩) hS (fun q _ h => hFc q h) hFc (fun r_332 u9 t9 H1 locs ht hvm hw hB hz1 hk1 hS => ?_)
      obtain ⟨hP1, hK1, hD1⟩ := hB
      rw [ht] at hP1
      have hK1 := va_K.moved hvm.symm hK1
      obtain ⟨hP, hD⟩ := va_join (wr := [(q_1, .inr (8, [.ref a_3, .ref a_4, .ref a_5, .ref a_6, .ref a_7, .ref a_8, .ref a_9, .ref a_10, .ref a_11, .int 0, .int 0, .int 0, .int 0, .int 0, .int 0])), (a_6, .inl (j_27, 12, .inl (fun _ => 0))), (a_7, .inl (j_28, 60, .inr (.inr (.inr (.inr (fun _ => none)))))), (a_9, .inl (j_30, 60, .inr (.inr (.inr (.inr (fun _ => none))))))]) (w1 := []) hP hD [4, 5] [0, 1, 2, 3] rfl rfl (by decide) (by decide) hk1 hFc hP1 hD1
      have hK := (hK.sub (tys' := [(j_13, .int), (g_19, .array .int), (g_20, .array .int), (ky_21, .int), (kt_22, .int), (kz_23, .boolean), (kr_24, .int), (j_27, .int), (j_28, .object "YamRiders$Horse"), (j_29, .object "YamRiders$Tablet"), (j_30, .object "YamRiders$Rider"), (j_31, .object "YamRiders$Rider"), (j_33, .int), (k_tape_70, .byte), (k_law_71, .int), (k_fresh_72, .int), (k_isTold_73, .boolean), (k_hours_74, .int), (k_snow_75, .int), (k_least_76, .int), (k_fodder_77, .int), (k_strength_78, .int), (k_stands_79, .int), (k_rank_80, .int), (k_voidSince_81, .int), (k_newsSince_82, .int), (k_ways_83, .int), (k_wayMany_84, .int), (k_tabletOf_85, .int), (k_state_86, .int), (k_come_87, .int), (k_cameIn_88, .int), (k_horseOf_89, .int), (k_due_90, .int), (k_time_91, .int), (k_brings_92, .int), (k_loose_93, .boolean), (k_asked_94, .boolean), (k_led_95, .int), (k_cost_96, .int), (k_left_97, .int), (k_wants_98, .int), (k_toGiver_99, .int), (k_toTaker_100, .int), (k_giverBy_101, .int), (k_takerBy_102, .int), (k_105, .long)]) [0, 1, 2, 3, 4, 5, 6, 7, 8, 9, 10, 11, 12, 13, 14, 15, 16, 17, 18, 19, 20, 21, 22, 23, 24, 25, 26, 27, 28, 29, 30, 31, 32, 33, 34, 35, 36, 37, 38, 39, 40, 41, 42, 43, 44, 45, 46] rfl).app hK1
      generalize H1 = H at hP hS ⊢
      have hK : va_K (dC, dI) vwCl [(j_13, .int), (g_19, .array .int), (g_20, .array .int), (ky_21, .int), (kt_22, .int), (kz_23, .boolean), (kr_24, .int), (j_27, .int), (j_28, .object "YamRiders$Horse"), (j_29, .object "YamRiders$Tablet"), (j_30, .object "YamRiders$Rider"), (j_31, .object "YamRiders$Rider"), (j_33, .int), (k_tape_70, .byte), (k_law_71, .int), (k_fresh_72, .int), (k_isTold_73, .boolean), (k_hours_74, .int), (k_snow_75, .int), (k_least_76, .int), (k_fodder_77, .int), (k_strength_78, .int), (k_stands_79, .int), (k_rank_80, .int), (k_voidSince_81, .int), (k_newsSince_82, .int), (k_ways_83, .int), (k_wayMany_84, .int), (k_tabletOf_85, .int), (k_state_86, .int), (k_come_87, .int), (k_cameIn_88, .int), (k_horseOf_89, .int), (k_due_90, .int), (k_time_91, .int), (k_brings_92, .int), (k_loose_93, .boolean), (k_asked_94, .boolean), (k_led_95, .int), (k_cost_96, .int), (k_left_97, .int), (k_wants_98, .int), (k_toGiver_99, .int), (k_toTaker_100, .int), (k_giverBy_101, .int), (k_takerBy_102, .int), (k_105, .long)] s := hK
      have hP : va_P (dC, dI) vwCl [(q_1, .inr (8, [.ref a_3, .ref a_4, .ref a_5, .ref a_6, .ref a_7, .ref a_8, .ref a_9, .ref a_10, .ref a_11, .int 0, .int 0, .int 0, .int 0, .int 0, .int 0])), (a_6, .inl (j_27, 12, .inl (fun _ => 0))), (a_7, .inl (j_28, 60, .inr (.inr (.inr (.inr (fun _ => none)))))), (a_9, .inl (j_30, 60, .inr (.inr (.inr (.inr (fun _ => none))))))] H := hP
      have hD : va_D (fun q : Nat => s.heap.size ≤ q) [(q_1, .inr (8, [.ref a_3, .ref a_4, .ref a_5, .ref a_6, .ref a_7, .ref a_8, .ref a_9, .ref a_10, .ref a_11, .int 0, .int 0, .int 0, .int 0, .int 0, .int 0])), (a_6, .inl (j_27, 12, .inl (fun _ => 0))), (a_7, .inl (j_28, 60, .inr (.inr (.inr (.inr (fun _ => none)))))), (a_9, .inl (j_30, 60, .inr (.inr (.inr (.inr (fun _ => none))))))] := hD
      try dsimp only at hw
      subst hw
      refine W.widen (k := 102) (n := 4433) (Nat.le_of_ble_eq_true rfl) (Nat.le_of_ble_eq_true rfl) ?_
      refine lv_icmp_eq (tgt := 948) hx hb dL_law_794 (by decide) (fun _ => ?_) (fun c_333 => by first | exact absurd c_333 (at_eq (xs 1) (xs 2)) | exact absurd (at_eq (xs 1) (xs 2)) c_333)
      refine lv_iinc (v := 6) (lv' := [(4, .int 6), (3, .ref q_104), (2, .ref q_35), (1, .ref q_1), (0, .ref b)]) hx hb dL_law_948 hl (k := 0) rfl (by decide) (by decide) rfl (fun ls hl => ?_)
      refine lv_goto (tgt := 23) hx hb dL_law_951 (by decide) ?_
      refine lv_iload hx hb dL_law_23 (lv_at hl 0 rfl) ?_
      refine lv_aload_n hx hb dL_law_25 rfl (lv_at hl 4 rfl) ?_
      refine va_slen hx hb hX hbl hbA hS dL_law_26 ?_
      refine lv_bipush (v := 6) hx hb dL_law_27 (by decide) ?_
      refine lv_isub hx hb dL_law_29 ?_
      refine lv_topi (fun y_334 ey_334 => ?_)
      obtain rfl : y_334 = 0 := ey_334.trans (by decide)
      refine lv_icmp_gt (tgt := 954) hx hb dL_law_30 (by decide) (fun _ => ?_) (fun c_335 => by first | exact absurd c_335 (by decide) | exact absurd (by decide) c_335)
      refine lv_iconst (v := 1) hx hb dL_law_954 (by decide) ?_
      refine va_forget (fun q hq => hS.2.2 q hq) ?_
      refine W.widen (k := 600002) (n := 7302232) (Nat.le_of_ble_eq_true rfl) (Nat.le_of_ble_eq_true rfl) ?_
      exact lw_ret hx hb hr hlocks dL_law_955
    by_cases c_336 : (xs 0) &&& 31 = 17
    · refine lv_tableIn (tgt := 799) (off := 759) hx hb dL_law_40 (by rw [c_336]; decide) (by rw [c_336]; decide) (by rw [c_336]; decide) (by decide) ?_
      have hP := hP.sub (ws' := [(q_1, .inr (8, [.ref a_3, .ref a_4, .ref a_5, .ref a_6, .ref a_7, .ref a_8, .ref a_9, .ref a_10, .ref a_11, .int 0, .int 0, .int 0, .int 0, .int 0, .int 0])), (a_8, .inl (j_29, 20, .inr (.inr (.inr (.inr (fun _ => none)))))), (q_35, .inr (9, [.int 0, .ref m_37, .int 0, .int 0, .int 0, .ref m_38, .ref m_39, .ref m_40, .int 0, .int 0, .int 0, .int 0, .int 0, .int 0, .long 0, .ref m_41, .ref m_42, .ref m_43, .ref m_44, .ref m_45, .ref m_46, .int 0, .ref m_47, .ref m_48, .ref m_49, .ref m_50, .ref m_51, .ref m_52, .ref m_53, .ref m_54, .ref m_55, .ref m_56, .ref m_57, .ref m_58, .ref m_59, .int 0, .int 0, .ref m_60, .ref m_61, .ref m_62, .ref m_63, .ref m_64, .ref m_65, .ref m_66, .ref m_67, .ref m_68, .ref m_69]))]) [0, 35, 40] rfl
      have hD := hD.sub (ws' := [(q_1, .inr (8, [.ref a_3, .ref a_4, .ref a_5, .ref a_6, .ref a_7, .ref a_8, .ref a_9, .ref a_10, .ref a_11, .int 0, .int 0, .int 0, .int 0, .int 0, .int 0])), (a_8, .inl (j_29, 20, .inr (.inr (.inr (.inr (fun _ => none)))))), (q_35, .inr (9, [.int 0, .ref m_37, .int 0, .int 0, .int 0, .ref m_38, .ref m_39, .ref m_40, .int 0, .int 0, .int 0, .int 0, .int 0, .int 0, .long 0, .ref m_41, .ref m_42, .ref m_43, .ref m_44, .ref m_45, .ref m_46, .int 0, .ref m_47, .ref m_48, .ref m_49, .ref m_50, .ref m_51, .ref m_52, .ref m_53, .ref m_54, .ref m_55, .ref m_56, .ref m_57, .ref m_58, .ref m_59, .int 0, .int 0, .ref m_60, .ref m_61, .ref m_62, .ref m_63, .ref m_64, .ref m_65, .ref m_66, .ref m_67, .ref m_68, .ref m_69]))]) [0, 35, 40] (by decide) rfl
      refine lv_aload_n hx hb dL_law_799 rfl (lv_at hl 3 rfl) ?_
      refine lv_aload_n hx hb dL_law_800 rfl (lv_at hl 4 rfl) ?_
      refine lv_iload hx hb dL_law_801 (lv_at hl 0 rfl) ?_
      refine lv_iconst (v := 1) hx hb dL_law_803 (by decide) ?_
      refine lv_iadd hx hb dL_law_804 ?_
      refine lv_topi (fun y_337 ey_337 => ?_)
      obtain rfl : y_337 = 1 := ey_337.trans (by decide)
      refine va_sld hx hb hX hbl hbA hS (by unfold vp_in; decide) dL_law_805 ?_
      refine lv_topi (fun v_338 ev_338 => ?_)
      obtain rfl : v_338 = xs 1 := ev_338.trans rfl
      refine lv_aload_n hx hb dL_law_806 rfl (lv_at hl 4 rfl) ?_
      refine lv_iload hx hb dL_law_807 (lv_at hl 0 rfl) ?_
      refine lv_iconst (v := 2) hx hb dL_law_809 (by decide) ?_
      refine lv_iadd hx hb dL_law_810 ?_
      refine lv_topi (fun y_339 ey_339 => ?_)
      obtain rfl : y_339 = 2 := ey_339.trans (by decide)
      refine va_sld hx hb hX hbl hbA hS (by unfold vp_in; decide) dL_law_811 ?_
      refine lv_topi (fun v_340 ev_340 => ?_)
      obtain rfl : v_340 = xs 2 := ev_340.trans rfl
      have hPc := hP.sub (ws' := [(q_1, .inr (8, [.ref a_3, .ref a_4, .ref a_5, .ref a_6, .ref a_7, .ref a_8, .ref a_9, .ref a_10, .ref a_11, .int 0, .int 0, .int 0, .int 0, .int 0, .int 0])), (a_8, .inl (j_29, 20, .inr (.inr (.inr (.inr (fun _ => none))))))]) [0, 1] rfl
      have hDc := hD.sub (ws' := [(q_1, .inr (8, [.ref a_3, .ref a_4, .ref a_5, .ref a_6, .ref a_7, .ref a_8, .ref a_9, .ref a_10, .ref a_11, .int 0, .int 0, .int 0, .int 0, .int 0, .int 0])), (a_8, .inl (j_29, 20, .inr (.inr (.inr (.inr (fun _ => none))))))]) [0, 1] (by decide) rfl
      have hKc := hK.sub (tys' := [(j_29, .object "YamRiders$Tablet")]) [9] rfl
      refine cs_i (va_runV (As := [.int (xs 1), .int (xs 2)]) (rest := []) ⟨hx, hb, hml, hown, hts⟩ (c_X8_voided l dC dI q_1 a_3 a_4 a_5 a_6 a_7 a_8 a_9 a_10 a_11 j_29 (xs 1) (xs 2) H.size) (cwV 2 hts gL_law_X8_voided rfl rfl rfl (by decide +kernel) ⟨Nat.le_of_ble_eq_true rfl, Nat.le_of_ble_eq_true rfl⟩) ⟨c_blind, va_recv hKc hPc (ci := 8) (q0 := 0) rfl rfl, c_pre hPc hKc hDc hN⟩ rfl rfl hl.1 rfl (lv_room (Nat.le_of_ble_eq_true rfl)) dL_law_812 ⟨Nat.le_of_ble_eq_true rfl, Nat.le_of_ble_eq_true rfl⟩) (fun r_341 hr_341 => ?_)
      subst hr_341
      refine lv_aload_n hx hb dL_law_815 rfl (lv_at hl 2 rfl) ?_
      refine lv_aload_n hx hb dL_law_816 rfl (lv_at hl 4 rfl) ?_
      refine lv_iload hx hb dL_law_817 (lv_at hl 0 rfl) ?_
      refine lv_iconst (v := 1) hx hb dL_law_819 (by decide) ?_
      refine lv_iadd hx hb dL_law_820 ?_
      refine lv_topi (fun y_342 ey_342 => ?_)
      obtain rfl : y_342 = 1 := ey_342.trans (by decide)
      refine va_sld hx hb hX hbl hbA hS (by unfold vp_in; decide) dL_law_821 ?_
      refine lv_topi (fun v_343 ev_343 => ?_)
      obtain rfl : v_343 = xs 1 := ev_343.trans rfl
      refine lv_aload_n hx hb dL_law_822 rfl (lv_at hl 4 rfl) ?_
      refine lv_iload hx hb dL_law_823 (lv_at hl 0 rfl) ?_
      refine lv_iconst (v := 2) hx hb dL_law_825 (by decide) ?_
      refine lv_iadd hx hb dL_law_826 ?_
      refine lv_topi (fun y_344 ey_344 => ?_)
      obtain rfl : y_344 = 2 := ey_344.trans (by decide)
      refine va_sld hx hb hX hbl hbA hS (by unfold vp_in; decide) dL_law_827 ?_
      refine lv_topi (fun v_345 ev_345 => ?_)
      obtain rfl : v_345 = xs 2 := ev_345.trans rfl
      have hPc := hP.sub (ws' := [(q_35, .inr (9, [.int 0, .ref m_37, .int 0, .int 0, .int 0, .ref m_38, .ref m_39, .ref m_40, .int 0, .int 0, .int 0, .int 0, .int 0, .int 0, .long 0, .ref m_41, .ref m_42, .ref m_43, .ref m_44, .ref m_45, .ref m_46, .int 0, .ref m_47, .ref m_48, .ref m_49, .ref m_50, .ref m_51, .ref m_52, .ref m_53, .ref m_54, .ref m_55, .ref m_56, .ref m_57, .ref m_58, .ref m_59, .int 0, .int 0, .ref m_60, .ref m_61, .ref m_62, .ref m_63, .ref m_64, .ref m_65, .ref m_66, .ref m_67, .ref m_68, .ref m_69]))]) [2] rfl
      have hDc := hD.sub (ws' := [(q_35, .inr (9, [.int 0, .ref m_37, .int 0, .int 0, .int 0, .ref m_38, .ref m_39, .ref m_40, .int 0, .int 0, .int 0, .int 0, .int 0, .int 0, .long 0, .ref m_41, .ref m_42, .ref m_43, .ref m_44, .ref m_45, .ref m_46, .int 0, .ref m_47, .ref m_48, .ref m_49, .ref m_50, .ref m_51, .ref m_52, .ref m_53, .ref m_54, .ref m_55, .ref m_56, .ref m_57, .ref m_58, .ref m_59, .int 0, .int 0, .ref m_60, .ref m_61, .ref m_62, .ref m_63, .ref m_64, .ref m_65, .ref m_66, .ref m_67, .ref m_68, .ref m_69]))]) [2] (by decide) rfl
      have hKc := hK.sub (tys' := []) [] rfl
      have hFc := va_free (wc := [(q_35, .inr (9, [.int 0, .ref m_37, .int 0, .int 0, .int 0, .ref m_38, .ref m_39, .ref m_40, .int 0, .int 0, .int 0, .int 0, .int 0, .int 0, .long 0, .ref m_41, .ref m_42, .ref m_43, .ref m_44, .ref m_45, .ref m_46, .int 0, .ref m_47, .ref m_48, .ref m_49, .ref m_50, .ref m_51, .ref m_52, .ref m_53, .ref m_54, .ref m_55, .ref m_56, .ref m_57, .ref m_58, .ref m_59, .int 0, .int 0, .ref m_60, .ref m_61, .ref m_62, .ref m_63, .ref m_64, .ref m_65, .ref m_66, .ref m_67, .ref m_68, .ref m_69]))]) hD hS hA [2] rfl
      refine va_calli (va_runV (As := [.int (xs 1), .int (xs 2)]) (rest := [.int (-1)]) ⟨hx, hb, hml, hown, hts⟩ (c_X9_voided l dC dI q_35 m_37 m_38 m_39 m_40 m_41 m_42 m_43 m_44 m_45 m_46 m_47 m_48 m_49 m_50 m_51 m_52 m_53 m_54 m_55 m_56 m_57 m_58 m_59 m_60 m_61 m_62 m_63 m_64 m_65 m_66 m_67 m_68 m_69 (xs 1) (xs 2) H.size) (cwV 2 hts gL_law_X9_voided rfl rfl rfl (by decide +kernel) ⟨Nat.le_of_ble_eq_true rfl, Nat.le_of_ble_eq_true rfl⟩) ⟨c_blind, va_recv hKc hPc (ci := 9) (q0 := 0) rfl rfl, c_pre hPc hKc hDc hN⟩ rfl rfl hl.1 rfl (lv_room (Nat.le_of_ble_eq_true rfl)) dL_law_828 ⟨Nat.le_of_ble_eq_true rfl, Nat.le_of_ble_eq_true rfl⟩) hS (fun q _ h => hFc q h) hFc (fun r_346 u9 t9 H1 locs ht hvm hw hB hz1 hk1 hS => ?_)
      obtain ⟨hP1, hK1, hD1⟩ := hB
      rw [ht] at hP1
      have hK1 := va_K.moved hvm.symm hK1
      obtain ⟨hP, hD⟩ := va_join (wr := [(q_1, .inr (8, [.ref a_3, .ref a_4, .ref a_5, .ref a_6, .ref a_7, .ref a_8, .ref a_9, .ref a_10, .ref a_11, .int 0, .int 0, .int 0, .int 0, .int 0, .int 0])), (a_8, .inl (j_29, 20, .inr (.inr (.inr (.inr (fun _ => none))))))]) (w1 := []) hP hD [2] [0, 1] rfl rfl (by decide) (by decide) hk1 hFc hP1 hD1
      have hK := (hK.sub (tys' := [(j_13, .int), (g_19, .array .int), (g_20, .array .int), (ky_21, .int), (kt_22, .int), (kz_23, .boolean), (kr_24, .int), (j_27, .int), (j_28, .object "YamRiders$Horse"), (j_29, .object "YamRiders$Tablet"), (j_30, .object "YamRiders$Rider"), (j_31, .object "YamRiders$Rider"), (j_33, .int), (k_tape_70, .byte), (k_law_71, .int), (k_fresh_72, .int), (k_isTold_73, .boolean), (k_hours_74, .int), (k_snow_75, .int), (k_least_76, .int), (k_fodder_77, .int), (k_strength_78, .int), (k_stands_79, .int), (k_rank_80, .int), (k_voidSince_81, .int), (k_newsSince_82, .int), (k_ways_83, .int), (k_wayMany_84, .int), (k_tabletOf_85, .int), (k_state_86, .int), (k_come_87, .int), (k_cameIn_88, .int), (k_horseOf_89, .int), (k_due_90, .int), (k_time_91, .int), (k_brings_92, .int), (k_loose_93, .boolean), (k_asked_94, .boolean), (k_led_95, .int), (k_cost_96, .int), (k_left_97, .int), (k_wants_98, .int), (k_toGiver_99, .int), (k_toTaker_100, .int), (k_giverBy_101, .int), (k_takerBy_102, .int), (k_105, .long)]) [0, 1, 2, 3, 4, 5, 6, 7, 8, 9, 10, 11, 12, 13, 14, 15, 16, 17, 18, 19, 20, 21, 22, 23, 24, 25, 26, 27, 28, 29, 30, 31, 32, 33, 34, 35, 36, 37, 38, 39, 40, 41, 42, 43, 44, 45, 46] rfl).app hK1
      generalize H1 = H at hP hS ⊢
      have hK : va_K (dC, dI) vwCl [(j_13, .int), (g_19, .array .int), (g_20, .array .int), (ky_21, .int), (kt_22, .int), (kz_23, .boolean), (kr_24, .int), (j_27, .int), (j_28, .object "YamRiders$Horse"), (j_29, .object "YamRiders$Tablet"), (j_30, .object "YamRiders$Rider"), (j_31, .object "YamRiders$Rider"), (j_33, .int), (k_tape_70, .byte), (k_law_71, .int), (k_fresh_72, .int), (k_isTold_73, .boolean), (k_hours_74, .int), (k_snow_75, .int), (k_least_76, .int), (k_fodder_77, .int), (k_strength_78, .int), (k_stands_79, .int), (k_rank_80, .int), (k_voidSince_81, .int), (k_newsSince_82, .int), (k_ways_83, .int), (k_wayMany_84, .int), (k_tabletOf_85, .int), (k_state_86, .int), (k_come_87, .int), (k_cameIn_88, .int), (k_horseOf_89, .int), (k_due_90, .int), (k_time_91, .int), (k_brings_92, .int), (k_loose_93, .boolean), (k_asked_94, .boolean), (k_led_95, .int), (k_cost_96, .int), (k_left_97, .int), (k_wants_98, .int), (k_toGiver_99, .int), (k_toTaker_100, .int), (k_giverBy_101, .int), (k_takerBy_102, .int), (k_105, .long)] s := hK
      have hP : va_P (dC, dI) vwCl [(q_1, .inr (8, [.ref a_3, .ref a_4, .ref a_5, .ref a_6, .ref a_7, .ref a_8, .ref a_9, .ref a_10, .ref a_11, .int 0, .int 0, .int 0, .int 0, .int 0, .int 0])), (a_8, .inl (j_29, 20, .inr (.inr (.inr (.inr (fun _ => none))))))] H := hP
      have hD : va_D (fun q : Nat => s.heap.size ≤ q) [(q_1, .inr (8, [.ref a_3, .ref a_4, .ref a_5, .ref a_6, .ref a_7, .ref a_8, .ref a_9, .ref a_10, .ref a_11, .int 0, .int 0, .int 0, .int 0, .int 0, .int 0])), (a_8, .inl (j_29, 20, .inr (.inr (.inr (.inr (fun _ => none))))))] := hD
      try dsimp only at hw
      subst hw
      refine W.widen (k := 102) (n := 4433) (Nat.le_of_ble_eq_true rfl) (Nat.le_of_ble_eq_true rfl) ?_
      refine lv_icmp_eq (tgt := 948) hx hb dL_law_831 (by decide) (fun _ => ?_) (fun c_347 => by first | exact absurd c_347 (by decide) | exact absurd (by decide) c_347)
      refine lv_iinc (v := 6) (lv' := [(4, .int 6), (3, .ref q_104), (2, .ref q_35), (1, .ref q_1), (0, .ref b)]) hx hb dL_law_948 hl (k := 0) rfl (by decide) (by decide) rfl (fun ls hl => ?_)
      refine lv_goto (tgt := 23) hx hb dL_law_951 (by decide) ?_
      refine lv_iload hx hb dL_law_23 (lv_at hl 0 rfl) ?_
      refine lv_aload_n hx hb dL_law_25 rfl (lv_at hl 4 rfl) ?_
      refine va_slen hx hb hX hbl hbA hS dL_law_26 ?_
      refine lv_bipush (v := 6) hx hb dL_law_27 (by decide) ?_
      refine lv_isub hx hb dL_law_29 ?_
      refine lv_topi (fun y_348 ey_348 => ?_)
      obtain rfl : y_348 = 0 := ey_348.trans (by decide)
      refine lv_icmp_gt (tgt := 954) hx hb dL_law_30 (by decide) (fun _ => ?_) (fun c_349 => by first | exact absurd c_349 (by decide) | exact absurd (by decide) c_349)
      refine lv_iconst (v := 1) hx hb dL_law_954 (by decide) ?_
      refine va_forget (fun q hq => hS.2.2 q hq) ?_
      refine W.widen (k := 600002) (n := 7302232) (Nat.le_of_ble_eq_true rfl) (Nat.le_of_ble_eq_true rfl) ?_
      exact lw_ret hx hb hr hlocks dL_law_955
    by_cases c_350 : (xs 0) &&& 31 = 18
    · refine lv_tableIn (tgt := 836) (off := 796) hx hb dL_law_40 (by rw [c_350]; decide) (by rw [c_350]; decide) (by rw [c_350]; decide) (by decide) ?_
      have hP := hP.sub (ws' := [(q_1, .inr (8, [.ref a_3, .ref a_4, .ref a_5, .ref a_6, .ref a_7, .ref a_8, .ref a_9, .ref a_10, .ref a_11, .int 0, .int 0, .int 0, .int 0, .int 0, .int 0])), (a_9, .inl (j_30, 60, .inr (.inr (.inr (.inr (fun _ => none)))))), (q_35, .inr (9, [.int 0, .ref m_37, .int 0, .int 0, .int 0, .ref m_38, .ref m_39, .ref m_40, .int 0, .int 0, .int 0, .int 0, .int 0, .int 0, .long 0, .ref m_41, .ref m_42, .ref m_43, .ref m_44, .ref m_45, .ref m_46, .int 0, .ref m_47, .ref m_48, .ref m_49, .ref m_50, .ref m_51, .ref m_52, .ref m_53, .ref m_54, .ref m_55, .ref m_56, .ref m_57, .ref m_58, .ref m_59, .int 0, .int 0, .ref m_60, .ref m_61, .ref m_62, .ref m_63, .ref m_64, .ref m_65, .ref m_66, .ref m_67, .ref m_68, .ref m_69]))]) [0, 36, 40] rfl
      have hD := hD.sub (ws' := [(q_1, .inr (8, [.ref a_3, .ref a_4, .ref a_5, .ref a_6, .ref a_7, .ref a_8, .ref a_9, .ref a_10, .ref a_11, .int 0, .int 0, .int 0, .int 0, .int 0, .int 0])), (a_9, .inl (j_30, 60, .inr (.inr (.inr (.inr (fun _ => none)))))), (q_35, .inr (9, [.int 0, .ref m_37, .int 0, .int 0, .int 0, .ref m_38, .ref m_39, .ref m_40, .int 0, .int 0, .int 0, .int 0, .int 0, .int 0, .long 0, .ref m_41, .ref m_42, .ref m_43, .ref m_44, .ref m_45, .ref m_46, .int 0, .ref m_47, .ref m_48, .ref m_49, .ref m_50, .ref m_51, .ref m_52, .ref m_53, .ref m_54, .ref m_55, .ref m_56, .ref m_57, .ref m_58, .ref m_59, .int 0, .int 0, .ref m_60, .ref m_61, .ref m_62, .ref m_63, .ref m_64, .ref m_65, .ref m_66, .ref m_67, .ref m_68, .ref m_69]))]) [0, 36, 40] (by decide) rfl
      refine lv_aload_n hx hb dL_law_836 rfl (lv_at hl 3 rfl) ?_
      refine lv_aload_n hx hb dL_law_837 rfl (lv_at hl 4 rfl) ?_
      refine lv_iload hx hb dL_law_838 (lv_at hl 0 rfl) ?_
      refine lv_iconst (v := 1) hx hb dL_law_840 (by decide) ?_
      refine lv_iadd hx hb dL_law_841 ?_
      refine lv_topi (fun y_351 ey_351 => ?_)
      obtain rfl : y_351 = 1 := ey_351.trans (by decide)
      refine va_sld hx hb hX hbl hbA hS (by unfold vp_in; decide) dL_law_842 ?_
      refine lv_topi (fun v_352 ev_352 => ?_)
      obtain rfl : v_352 = xs 1 := ev_352.trans rfl
      refine lv_aload_n hx hb dL_law_843 rfl (lv_at hl 4 rfl) ?_
      refine lv_iload hx hb dL_law_844 (lv_at hl 0 rfl) ?_
      refine lv_iconst (v := 2) hx hb dL_law_846 (by decide) ?_
      refine lv_iadd hx hb dL_law_847 ?_
      refine lv_topi (fun y_353 ey_353 => ?_)
      obtain rfl : y_353 = 2 := ey_353.trans (by decide)
      refine va_sld hx hb hX hbl hbA hS (by unfold vp_in; decide) dL_law_848 ?_
      refine lv_topi (fun v_354 ev_354 => ?_)
      obtain rfl : v_354 = xs 2 := ev_354.trans rfl
      have hPc := hP.sub (ws' := [(q_1, .inr (8, [.ref a_3, .ref a_4, .ref a_5, .ref a_6, .ref a_7, .ref a_8, .ref a_9, .ref a_10, .ref a_11, .int 0, .int 0, .int 0, .int 0, .int 0, .int 0])), (a_9, .inl (j_30, 60, .inr (.inr (.inr (.inr (fun _ => none))))))]) [0, 1] rfl
      have hDc := hD.sub (ws' := [(q_1, .inr (8, [.ref a_3, .ref a_4, .ref a_5, .ref a_6, .ref a_7, .ref a_8, .ref a_9, .ref a_10, .ref a_11, .int 0, .int 0, .int 0, .int 0, .int 0, .int 0])), (a_9, .inl (j_30, 60, .inr (.inr (.inr (.inr (fun _ => none))))))]) [0, 1] (by decide) rfl
      have hKc := hK.sub (tys' := [(j_30, .object "YamRiders$Rider")]) [10] rfl
      refine cs_i (va_runV (As := [.int (xs 1), .int (xs 2)]) (rest := []) ⟨hx, hb, hml, hown, hts⟩ (c_X8_known l dC dI q_1 a_3 a_4 a_5 a_6 a_7 a_8 a_9 a_10 a_11 j_30 (xs 1) (xs 2) H.size) (cwV 2 hts gL_law_X8_known rfl rfl rfl (by decide +kernel) ⟨Nat.le_of_ble_eq_true rfl, Nat.le_of_ble_eq_true rfl⟩) ⟨c_blind, va_recv hKc hPc (ci := 8) (q0 := 0) rfl rfl, c_pre hPc hKc hDc hN⟩ rfl rfl hl.1 rfl (lv_room (Nat.le_of_ble_eq_true rfl)) dL_law_849 ⟨Nat.le_of_ble_eq_true rfl, Nat.le_of_ble_eq_true rfl⟩) (fun r_355 hr_355 => ?_)
      subst hr_355
      refine lv_aload_n hx hb dL_law_852 rfl (lv_at hl 2 rfl) ?_
      refine lv_aload_n hx hb dL_law_853 rfl (lv_at hl 4 rfl) ?_
      refine lv_iload hx hb dL_law_854 (lv_at hl 0 rfl) ?_
      refine lv_iconst (v := 1) hx hb dL_law_856 (by decide) ?_
      refine lv_iadd hx hb dL_law_857 ?_
      refine lv_topi (fun y_356 ey_356 => ?_)
      obtain rfl : y_356 = 1 := ey_356.trans (by decide)
      refine va_sld hx hb hX hbl hbA hS (by unfold vp_in; decide) dL_law_858 ?_
      refine lv_topi (fun v_357 ev_357 => ?_)
      obtain rfl : v_357 = xs 1 := ev_357.trans rfl
      refine lv_aload_n hx hb dL_law_859 rfl (lv_at hl 4 rfl) ?_
      refine lv_iload hx hb dL_law_860 (lv_at hl 0 rfl) ?_
      refine lv_iconst (v := 2) hx hb dL_law_862 (by decide) ?_
      refine lv_iadd hx hb dL_law_863 ?_
      refine lv_topi (fun y_358 ey_358 => ?_)
      obtain rfl : y_358 = 2 := ey_358.trans (by decide)
      refine va_sld hx hb hX hbl hbA hS (by unfold vp_in; decide) dL_law_864 ?_
      refine lv_topi (fun v_359 ev_359 => ?_)
      obtain rfl : v_359 = xs 2 := ev_359.trans rfl
      have hPc := hP.sub (ws' := [(q_35, .inr (9, [.int 0, .ref m_37, .int 0, .int 0, .int 0, .ref m_38, .ref m_39, .ref m_40, .int 0, .int 0, .int 0, .int 0, .int 0, .int 0, .long 0, .ref m_41, .ref m_42, .ref m_43, .ref m_44, .ref m_45, .ref m_46, .int 0, .ref m_47, .ref m_48, .ref m_49, .ref m_50, .ref m_51, .ref m_52, .ref m_53, .ref m_54, .ref m_55, .ref m_56, .ref m_57, .ref m_58, .ref m_59, .int 0, .int 0, .ref m_60, .ref m_61, .ref m_62, .ref m_63, .ref m_64, .ref m_65, .ref m_66, .ref m_67, .ref m_68, .ref m_69]))]) [2] rfl
      have hDc := hD.sub (ws' := [(q_35, .inr (9, [.int 0, .ref m_37, .int 0, .int 0, .int 0, .ref m_38, .ref m_39, .ref m_40, .int 0, .int 0, .int 0, .int 0, .int 0, .int 0, .long 0, .ref m_41, .ref m_42, .ref m_43, .ref m_44, .ref m_45, .ref m_46, .int 0, .ref m_47, .ref m_48, .ref m_49, .ref m_50, .ref m_51, .ref m_52, .ref m_53, .ref m_54, .ref m_55, .ref m_56, .ref m_57, .ref m_58, .ref m_59, .int 0, .int 0, .ref m_60, .ref m_61, .ref m_62, .ref m_63, .ref m_64, .ref m_65, .ref m_66, .ref m_67, .ref m_68, .ref m_69]))]) [2] (by decide) rfl
      have hKc := hK.sub (tys' := []) [] rfl
      have hFc := va_free (wc := [(q_35, .inr (9, [.int 0, .ref m_37, .int 0, .int 0, .int 0, .ref m_38, .ref m_39, .ref m_40, .int 0, .int 0, .int 0, .int 0, .int 0, .int 0, .long 0, .ref m_41, .ref m_42, .ref m_43, .ref m_44, .ref m_45, .ref m_46, .int 0, .ref m_47, .ref m_48, .ref m_49, .ref m_50, .ref m_51, .ref m_52, .ref m_53, .ref m_54, .ref m_55, .ref m_56, .ref m_57, .ref m_58, .ref m_59, .int 0, .int 0, .ref m_60, .ref m_61, .ref m_62, .ref m_63, .ref m_64, .ref m_65, .ref m_66, .ref m_67, .ref m_68, .ref m_69]))]) hD hS hA [2] rfl
      refine va_calli (va_runV (As := [.int (xs 1), .int (xs 2)]) (rest := [.int (-1)]) ⟨hx, hb, hml, hown, hts⟩ (c_X9_known l dC dI q_35 m_37 m_38 m_39 m_40 m_41 m_42 m_43 m_44 m_45 m_46 m_47 m_48 m_49 m_50 m_51 m_52 m_53 m_54 m_55 m_56 m_57 m_58 m_59 m_60 m_61 m_62 m_63 m_64 m_65 m_66 m_67 m_68 m_69 (xs 1) (xs 2) H.size) (cwV 2 hts gL_law_X9_known rfl rfl rfl (by decide +kernel) ⟨Nat.le_of_ble_eq_true rfl, Nat.le_of_ble_eq_true rfl⟩) ⟨c_blind, va_recv hKc hPc (ci := 9) (q0 := 0) rfl rfl, c_pre hPc hKc hDc hN⟩ rfl rfl hl.1 rfl (lv_room (Nat.le_of_ble_eq_true rfl)) dL_law_865 ⟨Nat.le_of_ble_eq_true rfl, Nat.le_of_ble_eq_true rfl⟩) hS (fun q _ h => hFc q h) hFc (fun r_360 u9 t9 H1 locs ht hvm hw hB hz1 hk1 hS => ?_)
      obtain ⟨hP1, hK1, hD1⟩ := hB
      rw [ht] at hP1
      have hK1 := va_K.moved hvm.symm hK1
      obtain ⟨hP, hD⟩ := va_join (wr := [(q_1, .inr (8, [.ref a_3, .ref a_4, .ref a_5, .ref a_6, .ref a_7, .ref a_8, .ref a_9, .ref a_10, .ref a_11, .int 0, .int 0, .int 0, .int 0, .int 0, .int 0])), (a_9, .inl (j_30, 60, .inr (.inr (.inr (.inr (fun _ => none))))))]) (w1 := []) hP hD [2] [0, 1] rfl rfl (by decide) (by decide) hk1 hFc hP1 hD1
      have hK := (hK.sub (tys' := [(j_13, .int), (g_19, .array .int), (g_20, .array .int), (ky_21, .int), (kt_22, .int), (kz_23, .boolean), (kr_24, .int), (j_27, .int), (j_28, .object "YamRiders$Horse"), (j_29, .object "YamRiders$Tablet"), (j_30, .object "YamRiders$Rider"), (j_31, .object "YamRiders$Rider"), (j_33, .int), (k_tape_70, .byte), (k_law_71, .int), (k_fresh_72, .int), (k_isTold_73, .boolean), (k_hours_74, .int), (k_snow_75, .int), (k_least_76, .int), (k_fodder_77, .int), (k_strength_78, .int), (k_stands_79, .int), (k_rank_80, .int), (k_voidSince_81, .int), (k_newsSince_82, .int), (k_ways_83, .int), (k_wayMany_84, .int), (k_tabletOf_85, .int), (k_state_86, .int), (k_come_87, .int), (k_cameIn_88, .int), (k_horseOf_89, .int), (k_due_90, .int), (k_time_91, .int), (k_brings_92, .int), (k_loose_93, .boolean), (k_asked_94, .boolean), (k_led_95, .int), (k_cost_96, .int), (k_left_97, .int), (k_wants_98, .int), (k_toGiver_99, .int), (k_toTaker_100, .int), (k_giverBy_101, .int), (k_takerBy_102, .int), (k_105, .long)]) [0, 1, 2, 3, 4, 5, 6, 7, 8, 9, 10, 11, 12, 13, 14, 15, 16, 17, 18, 19, 20, 21, 22, 23, 24, 25, 26, 27, 28, 29, 30, 31, 32, 33, 34, 35, 36, 37, 38, 39, 40, 41, 42, 43, 44, 45, 46] rfl).app hK1
      generalize H1 = H at hP hS ⊢
      have hK : va_K (dC, dI) vwCl [(j_13, .int), (g_19, .array .int), (g_20, .array .int), (ky_21, .int), (kt_22, .int), (kz_23, .boolean), (kr_24, .int), (j_27, .int), (j_28, .object "YamRiders$Horse"), (j_29, .object "YamRiders$Tablet"), (j_30, .object "YamRiders$Rider"), (j_31, .object "YamRiders$Rider"), (j_33, .int), (k_tape_70, .byte), (k_law_71, .int), (k_fresh_72, .int), (k_isTold_73, .boolean), (k_hours_74, .int), (k_snow_75, .int), (k_least_76, .int), (k_fodder_77, .int), (k_strength_78, .int), (k_stands_79, .int), (k_rank_80, .int), (k_voidSince_81, .int), (k_newsSince_82, .int), (k_ways_83, .int), (k_wayMany_84, .int), (k_tabletOf_85, .int), (k_state_86, .int), (k_come_87, .int), (k_cameIn_88, .int), (k_horseOf_89, .int), (k_due_90, .int), (k_time_91, .int), (k_brings_92, .int), (k_loose_93, .boolean), (k_asked_94, .boolean), (k_led_95, .int), (k_cost_96, .int), (k_left_97, .int), (k_wants_98, .int), (k_toGiver_99, .int), (k_toTaker_100, .int), (k_giverBy_101, .int), (k_takerBy_102, .int), (k_105, .long)] s := hK
      have hP : va_P (dC, dI) vwCl [(q_1, .inr (8, [.ref a_3, .ref a_4, .ref a_5, .ref a_6, .ref a_7, .ref a_8, .ref a_9, .ref a_10, .ref a_11, .int 0, .int 0, .int 0, .int 0, .int 0, .int 0])), (a_9, .inl (j_30, 60, .inr (.inr (.inr (.inr (fun _ => none))))))] H := hP
      have hD : va_D (fun q : Nat => s.heap.size ≤ q) [(q_1, .inr (8, [.ref a_3, .ref a_4, .ref a_5, .ref a_6, .ref a_7, .ref a_8, .ref a_9, .ref a_10, .ref a_11, .int 0, .int 0, .int 0, .int 0, .int 0, .int 0])), (a_9, .inl (j_30, 60, .inr (.inr (.inr (.inr (fun _ => none))))))] := hD
      try dsimp only at hw
      subst hw
      refine W.widen (k := 102) (n := 4433) (Nat.le_of_ble_eq_true rfl) (Nat.le_of_ble_eq_true rfl) ?_
      refine lv_icmp_eq (tgt := 948) hx hb dL_law_868 (by decide) (fun _ => ?_) (fun c_361 => by first | exact absurd c_361 (by decide) | exact absurd (by decide) c_361)
      refine lv_iinc (v := 6) (lv' := [(4, .int 6), (3, .ref q_104), (2, .ref q_35), (1, .ref q_1), (0, .ref b)]) hx hb dL_law_948 hl (k := 0) rfl (by decide) (by decide) rfl (fun ls hl => ?_)
      refine lv_goto (tgt := 23) hx hb dL_law_951 (by decide) ?_
      refine lv_iload hx hb dL_law_23 (lv_at hl 0 rfl) ?_
      refine lv_aload_n hx hb dL_law_25 rfl (lv_at hl 4 rfl) ?_
      refine va_slen hx hb hX hbl hbA hS dL_law_26 ?_
      refine lv_bipush (v := 6) hx hb dL_law_27 (by decide) ?_
      refine lv_isub hx hb dL_law_29 ?_
      refine lv_topi (fun y_362 ey_362 => ?_)
      obtain rfl : y_362 = 0 := ey_362.trans (by decide)
      refine lv_icmp_gt (tgt := 954) hx hb dL_law_30 (by decide) (fun _ => ?_) (fun c_363 => by first | exact absurd c_363 (by decide) | exact absurd (by decide) c_363)
      refine lv_iconst (v := 1) hx hb dL_law_954 (by decide) ?_
      refine va_forget (fun q hq => hS.2.2 q hq) ?_
      refine W.widen (k := 600002) (n := 7302232) (Nat.le_of_ble_eq_true rfl) (Nat.le_of_ble_eq_true rfl) ?_
      exact lw_ret hx hb hr hlocks dL_law_955
    by_cases c_364 : (xs 0) &&& 31 = 19
    · refine lv_tableIn (tgt := 873) (off := 833) hx hb dL_law_40 (by rw [c_364]; decide) (by rw [c_364]; decide) (by rw [c_364]; decide) (by decide) ?_
      obtain ⟨j, hj, hje⟩ := st_ex (xs 2)
      have hP : va_P (dC, dI) vwCl [(q_1, .inr (8, [.ref a_3, .ref a_4, .ref a_5, .ref a_6, .ref a_7, .ref a_8, .ref a_9, .ref a_10, .ref a_11, .int 0, .int 0, .int 0, .int 0, .int 0, .int 0])), (a_4, .inr (3, [.ref b_14, .ref b_15, .ref b_16, .ref b_17, .ref b_18])), (b_14, .inl (g_19, 12, .inr (.inr (.inr (.inr (fun i => if i < 12 then some (r_25 i) else none)))))), (b_17, .inl (kz_23, 12, .inl (fun _ => 0))), (b_16, .inl (kt_22, 12, .inl (fun _ => 0))), (q_35, .inr (9, [.int 0, .ref m_37, .int 0, .int 0, .int 0, .ref m_38, .ref m_39, .ref m_40, .int 0, .int 0, .int 0, .int 0, .int 0, .int 0, .long 0, .ref m_41, .ref m_42, .ref m_43, .ref m_44, .ref m_45, .ref m_46, .int 0, .ref m_47, .ref m_48, .ref m_49, .ref m_50, .ref m_51, .ref m_52, .ref m_53, .ref m_54, .ref m_55, .ref m_56, .ref m_57, .ref m_58, .ref m_59, .int 0, .int 0, .ref m_60, .ref m_61, .ref m_62, .ref m_63, .ref m_64, .ref m_65, .ref m_66, .ref m_67, .ref m_68, .ref m_69])), (m_41, .inl (k_hours_74, 144, .inl (fun _ => 0))), (m_43, .inl (k_least_76, 12, .inl (fun _ => 0))), ((r_25 j), .inl (ky_21, 12, .inl (fun _ => 0)))] H := by
        rcases j12 hj with rfl | rfl | rfl | rfl | rfl | rfl | rfl | rfl | rfl | rfl | rfl | rfl
        · exact hP.sub [0, 3, 4, 7, 6, 40, 45, 47, 9] rfl
        · exact hP.sub [0, 3, 4, 7, 6, 40, 45, 47, 10] rfl
        · exact hP.sub [0, 3, 4, 7, 6, 40, 45, 47, 11] rfl
        · exact hP.sub [0, 3, 4, 7, 6, 40, 45, 47, 12] rfl
        · exact hP.sub [0, 3, 4, 7, 6, 40, 45, 47, 13] rfl
        · exact hP.sub [0, 3, 4, 7, 6, 40, 45, 47, 14] rfl
        · exact hP.sub [0, 3, 4, 7, 6, 40, 45, 47, 15] rfl
        · exact hP.sub [0, 3, 4, 7, 6, 40, 45, 47, 16] rfl
        · exact hP.sub [0, 3, 4, 7, 6, 40, 45, 47, 17] rfl
        · exact hP.sub [0, 3, 4, 7, 6, 40, 45, 47, 18] rfl
        · exact hP.sub [0, 3, 4, 7, 6, 40, 45, 47, 19] rfl
        · exact hP.sub [0, 3, 4, 7, 6, 40, 45, 47, 20] rfl
      have hD : va_D (fun q : Nat => s.heap.size ≤ q) [(q_1, .inr (8, [.ref a_3, .ref a_4, .ref a_5, .ref a_6, .ref a_7, .ref a_8, .ref a_9, .ref a_10, .ref a_11, .int 0, .int 0, .int 0, .int 0, .int 0, .int 0])), (a_4, .inr (3, [.ref b_14, .ref b_15, .ref b_16, .ref b_17, .ref b_18])), (b_14, .inl (g_19, 12, .inr (.inr (.inr (.inr (fun i => if i < 12 then some (r_25 i) else none)))))), (b_17, .inl (kz_23, 12, .inl (fun _ => 0))), (b_16, .inl (kt_22, 12, .inl (fun _ => 0))), (q_35, .inr (9, [.int 0, .ref m_37, .int 0, .int 0, .int 0, .ref m_38, .ref m_39, .ref m_40, .int 0, .int 0, .int 0, .int 0, .int 0, .int 0, .long 0, .ref m_41, .ref m_42, .ref m_43, .ref m_44, .ref m_45, .ref m_46, .int 0, .ref m_47, .ref m_48, .ref m_49, .ref m_50, .ref m_51, .ref m_52, .ref m_53, .ref m_54, .ref m_55, .ref m_56, .ref m_57, .ref m_58, .ref m_59, .int 0, .int 0, .ref m_60, .ref m_61, .ref m_62, .ref m_63, .ref m_64, .ref m_65, .ref m_66, .ref m_67, .ref m_68, .ref m_69])), (m_41, .inl (k_hours_74, 144, .inl (fun _ => 0))), (m_43, .inl (k_least_76, 12, .inl (fun _ => 0))), ((r_25 j), .inl (ky_21, 12, .inl (fun _ => 0)))] := by
        rcases j12 hj with rfl | rfl | rfl | rfl | rfl | rfl | rfl | rfl | rfl | rfl | rfl | rfl
        · exact hD.sub [0, 3, 4, 7, 6, 40, 45, 47, 9] (by decide) rfl
        · exact hD.sub [0, 3, 4, 7, 6, 40, 45, 47, 10] (by decide) rfl
        · exact hD.sub [0, 3, 4, 7, 6, 40, 45, 47, 11] (by decide) rfl
        · exact hD.sub [0, 3, 4, 7, 6, 40, 45, 47, 12] (by decide) rfl
        · exact hD.sub [0, 3, 4, 7, 6, 40, 45, 47, 13] (by decide) rfl
        · exact hD.sub [0, 3, 4, 7, 6, 40, 45, 47, 14] (by decide) rfl
        · exact hD.sub [0, 3, 4, 7, 6, 40, 45, 47, 15] (by decide) rfl
        · exact hD.sub [0, 3, 4, 7, 6, 40, 45, 47, 16] (by decide) rfl
        · exact hD.sub [0, 3, 4, 7, 6, 40, 45, 47, 17] (by decide) rfl
        · exact hD.sub [0, 3, 4, 7, 6, 40, 45, 47, 18] (by decide) rfl
        · exact hD.sub [0, 3, 4, 7, 6, 40, 45, 47, 19] (by decide) rfl
        · exact hD.sub [0, 3, 4, 7, 6, 40, 45, 47, 20] (by decide) rfl
      refine lv_aload_n hx hb dL_law_873 rfl (lv_at hl 3 rfl) ?_
      refine lv_aload_n hx hb dL_law_874 rfl (lv_at hl 4 rfl) ?_
      refine lv_iload hx hb dL_law_875 (lv_at hl 0 rfl) ?_
      refine lv_iconst (v := 1) hx hb dL_law_877 (by decide) ?_
      refine lv_iadd hx hb dL_law_878 ?_
      refine lv_topi (fun y_365 ey_365 => ?_)
      obtain rfl : y_365 = 1 := ey_365.trans (by decide)
      refine va_sld hx hb hX hbl hbA hS (by unfold vp_in; decide) dL_law_879 ?_
      refine lv_topi (fun v_366 ev_366 => ?_)
      obtain rfl : v_366 = xs 1 := ev_366.trans rfl
      refine lv_aload_n hx hb dL_law_880 rfl (lv_at hl 4 rfl) ?_
      refine lv_iload hx hb dL_law_881 (lv_at hl 0 rfl) ?_
      refine lv_iconst (v := 2) hx hb dL_law_883 (by decide) ?_
      refine lv_iadd hx hb dL_law_884 ?_
      refine lv_topi (fun y_367 ey_367 => ?_)
      obtain rfl : y_367 = 2 := ey_367.trans (by decide)
      refine va_sld hx hb hX hbl hbA hS (by unfold vp_in; decide) dL_law_885 ?_
      refine lv_topi (fun v_368 ev_368 => ?_)
      obtain rfl : v_368 = xs 2 := ev_368.trans rfl
      have hPc := hP.sub (ws' := [(q_1, .inr (8, [.ref a_3, .ref a_4, .ref a_5, .ref a_6, .ref a_7, .ref a_8, .ref a_9, .ref a_10, .ref a_11, .int 0, .int 0, .int 0, .int 0, .int 0, .int 0])), (a_4, .inr (3, [.ref b_14, .ref b_15, .ref b_16, .ref b_17, .ref b_18])), (b_14, .inl (g_19, 12, .inr (.inr (.inr (.inr (fun i => if i < 12 then some (r_25 i) else none)))))), ((r_25 j), .inl (ky_21, 12, .inl (fun _ => 0))), (b_17, .inl (kz_23, 12, .inl (fun _ => 0))), (b_16, .inl (kt_22, 12, .inl (fun _ => 0)))]) [0, 1, 2, 8, 3, 4] rfl
      have hDc := hD.sub (ws' := [(q_1, .inr (8, [.ref a_3, .ref a_4, .ref a_5, .ref a_6, .ref a_7, .ref a_8, .ref a_9, .ref a_10, .ref a_11, .int 0, .int 0, .int 0, .int 0, .int 0, .int 0])), (a_4, .inr (3, [.ref b_14, .ref b_15, .ref b_16, .ref b_17, .ref b_18])), (b_14, .inl (g_19, 12, .inr (.inr (.inr (.inr (fun i => if i < 12 then some (r_25 i) else none)))))), ((r_25 j), .inl (ky_21, 12, .inl (fun _ => 0))), (b_17, .inl (kz_23, 12, .inl (fun _ => 0))), (b_16, .inl (kt_22, 12, .inl (fun _ => 0)))]) [0, 1, 2, 8, 3, 4] (by decide) rfl
      have hKc := hK.sub (tys' := [(g_19, .array .int), (ky_21, .int), (kz_23, .boolean), (kt_22, .int)]) [1, 3, 5, 4] rfl
      have hFc := va_free (wc := [(q_1, .inr (8, [.ref a_3, .ref a_4, .ref a_5, .ref a_6, .ref a_7, .ref a_8, .ref a_9, .ref a_10, .ref a_11, .int 0, .int 0, .int 0, .int 0, .int 0, .int 0])), (a_4, .inr (3, [.ref b_14, .ref b_15, .ref b_16, .ref b_17, .ref b_18])), (b_14, .inl (g_19, 12, .inr (.inr (.inr (.inr (fun i => if i < 12 then some (r_25 i) else none)))))), ((r_25 j), .inl (ky_21, 12, .inl (fun _ => 0))), (b_17, .inl (kz_23, 12, .inl (fun _ => 0))), (b_16, .inl (kt_22, 12, .inl (fun _ => 0)))]) hD hS hA [0, 1, 2, 8, 3, 4] rfl
      refine va_calli (va_runV (As := [.int (xs 1), .int (xs 2)]) (rest := []) ⟨hx, hb, hml, hown, hts⟩ (c_X8_hours l dC dI q_1 a_3 a_4 a_5 a_6 a_7 a_8 a_9 a_10 a_11 b_14 b_15 b_16 b_17 b_18 (r_25 j) g_19 ky_21 (fun i => if i < 12 then some (r_25 i) else none) kz_23 kt_22 (fun _ => 0) (fun _ => 0) (xs 1) (xs 2) H.size (gr_hy hj hje)) (cwV 2 hts gL_law_X8_hours rfl rfl rfl (by decide +kernel) ⟨Nat.le_of_ble_eq_true rfl, Nat.le_of_ble_eq_true rfl⟩) ⟨c_blind, va_recv hKc hPc (ci := 8) (q0 := 0) rfl rfl, c_pre hPc hKc hDc hN⟩ rfl rfl hl.1 rfl (lv_room (Nat.le_of_ble_eq_true rfl)) dL_law_886 ⟨Nat.le_of_ble_eq_true rfl, Nat.le_of_ble_eq_true rfl⟩) hS (fun q _ h => hFc q h) hFc (fun r_369 u9 t9 H1 locs ht hvm hw hB hz1 hk1 hS => ?_)
      obtain ⟨hP1, hK1, hD1⟩ := hB
      rw [ht] at hP1
      have hK1 := va_K.moved hvm.symm hK1
      obtain ⟨hP, hD⟩ := va_join (wr := [(q_35, .inr (9, [.int 0, .ref m_37, .int 0, .int 0, .int 0, .ref m_38, .ref m_39, .ref m_40, .int 0, .int 0, .int 0, .int 0, .int 0, .int 0, .long 0, .ref m_41, .ref m_42, .ref m_43, .ref m_44, .ref m_45, .ref m_46, .int 0, .ref m_47, .ref m_48, .ref m_49, .ref m_50, .ref m_51, .ref m_52, .ref m_53, .ref m_54, .ref m_55, .ref m_56, .ref m_57, .ref m_58, .ref m_59, .int 0, .int 0, .ref m_60, .ref m_61, .ref m_62, .ref m_63, .ref m_64, .ref m_65, .ref m_66, .ref m_67, .ref m_68, .ref m_69])), (m_41, .inl (k_hours_74, 144, .inl (fun _ => 0))), (m_43, .inl (k_least_76, 12, .inl (fun _ => 0)))]) (w1 := []) hP hD [0, 1, 2, 8, 3, 4] [5, 6, 7] rfl rfl (by decide) (by decide) hk1 hFc hP1 hD1
      have hK := (hK.sub (tys' := [(j_13, .int), (g_19, .array .int), (g_20, .array .int), (ky_21, .int), (kt_22, .int), (kz_23, .boolean), (kr_24, .int), (j_27, .int), (j_28, .object "YamRiders$Horse"), (j_29, .object "YamRiders$Tablet"), (j_30, .object "YamRiders$Rider"), (j_31, .object "YamRiders$Rider"), (j_33, .int), (k_tape_70, .byte), (k_law_71, .int), (k_fresh_72, .int), (k_isTold_73, .boolean), (k_hours_74, .int), (k_snow_75, .int), (k_least_76, .int), (k_fodder_77, .int), (k_strength_78, .int), (k_stands_79, .int), (k_rank_80, .int), (k_voidSince_81, .int), (k_newsSince_82, .int), (k_ways_83, .int), (k_wayMany_84, .int), (k_tabletOf_85, .int), (k_state_86, .int), (k_come_87, .int), (k_cameIn_88, .int), (k_horseOf_89, .int), (k_due_90, .int), (k_time_91, .int), (k_brings_92, .int), (k_loose_93, .boolean), (k_asked_94, .boolean), (k_led_95, .int), (k_cost_96, .int), (k_left_97, .int), (k_wants_98, .int), (k_toGiver_99, .int), (k_toTaker_100, .int), (k_giverBy_101, .int), (k_takerBy_102, .int), (k_105, .long)]) [0, 1, 2, 3, 4, 5, 6, 7, 8, 9, 10, 11, 12, 13, 14, 15, 16, 17, 18, 19, 20, 21, 22, 23, 24, 25, 26, 27, 28, 29, 30, 31, 32, 33, 34, 35, 36, 37, 38, 39, 40, 41, 42, 43, 44, 45, 46] rfl).app hK1
      generalize H1 = H at hP hS ⊢
      have hK : va_K (dC, dI) vwCl [(j_13, .int), (g_19, .array .int), (g_20, .array .int), (ky_21, .int), (kt_22, .int), (kz_23, .boolean), (kr_24, .int), (j_27, .int), (j_28, .object "YamRiders$Horse"), (j_29, .object "YamRiders$Tablet"), (j_30, .object "YamRiders$Rider"), (j_31, .object "YamRiders$Rider"), (j_33, .int), (k_tape_70, .byte), (k_law_71, .int), (k_fresh_72, .int), (k_isTold_73, .boolean), (k_hours_74, .int), (k_snow_75, .int), (k_least_76, .int), (k_fodder_77, .int), (k_strength_78, .int), (k_stands_79, .int), (k_rank_80, .int), (k_voidSince_81, .int), (k_newsSince_82, .int), (k_ways_83, .int), (k_wayMany_84, .int), (k_tabletOf_85, .int), (k_state_86, .int), (k_come_87, .int), (k_cameIn_88, .int), (k_horseOf_89, .int), (k_due_90, .int), (k_time_91, .int), (k_brings_92, .int), (k_loose_93, .boolean), (k_asked_94, .boolean), (k_led_95, .int), (k_cost_96, .int), (k_left_97, .int), (k_wants_98, .int), (k_toGiver_99, .int), (k_toTaker_100, .int), (k_giverBy_101, .int), (k_takerBy_102, .int), (k_105, .long)] s := hK
      have hP : va_P (dC, dI) vwCl [(q_35, .inr (9, [.int 0, .ref m_37, .int 0, .int 0, .int 0, .ref m_38, .ref m_39, .ref m_40, .int 0, .int 0, .int 0, .int 0, .int 0, .int 0, .long 0, .ref m_41, .ref m_42, .ref m_43, .ref m_44, .ref m_45, .ref m_46, .int 0, .ref m_47, .ref m_48, .ref m_49, .ref m_50, .ref m_51, .ref m_52, .ref m_53, .ref m_54, .ref m_55, .ref m_56, .ref m_57, .ref m_58, .ref m_59, .int 0, .int 0, .ref m_60, .ref m_61, .ref m_62, .ref m_63, .ref m_64, .ref m_65, .ref m_66, .ref m_67, .ref m_68, .ref m_69])), (m_41, .inl (k_hours_74, 144, .inl (fun _ => 0))), (m_43, .inl (k_least_76, 12, .inl (fun _ => 0)))] H := hP
      have hD : va_D (fun q : Nat => s.heap.size ≤ q) [(q_35, .inr (9, [.int 0, .ref m_37, .int 0, .int 0, .int 0, .ref m_38, .ref m_39, .ref m_40, .int 0, .int 0, .int 0, .int 0, .int 0, .int 0, .long 0, .ref m_41, .ref m_42, .ref m_43, .ref m_44, .ref m_45, .ref m_46, .int 0, .ref m_47, .ref m_48, .ref m_49, .ref m_50, .ref m_51, .ref m_52, .ref m_53, .ref m_54, .ref m_55, .ref m_56, .ref m_57, .ref m_58, .ref m_59, .int 0, .int 0, .ref m_60, .ref m_61, .ref m_62, .ref m_63, .ref m_64, .ref m_65, .ref m_66, .ref m_67, .ref m_68, .ref m_69])), (m_41, .inl (k_hours_74, 144, .inl (fun _ => 0))), (m_43, .inl (k_least_76, 12, .inl (fun _ => 0)))] := hD
      try dsimp only at hw
      subst hw
      refine W.widen (k := 102) (n := 4433) (Nat.le_of_ble_eq_true rfl) (Nat.le_of_ble_eq_true rfl) ?_
      refine lv_aload_n hx hb dL_law_889 rfl (lv_at hl 2 rfl) ?_
      refine lv_aload_n hx hb dL_law_890 rfl (lv_at hl 4 rfl) ?_
      refine lv_iload hx hb dL_law_891 (lv_at hl 0 rfl) ?_
      refine lv_iconst (v := 1) hx hb dL_law_893 (by decide) ?_
      refine lv_iadd hx hb dL_law_894 ?_
      refine lv_topi (fun y_370 ey_370 => ?_)
      obtain rfl : y_370 = 1 := ey_370.trans (by decide)
      refine va_sld hx hb hX hbl hbA hS (by unfold vp_in; decide) dL_law_895 ?_
      refine lv_topi (fun v_371 ev_371 => ?_)
      obtain rfl : v_371 = xs 1 := ev_371.trans rfl
      refine lv_aload_n hx hb dL_law_896 rfl (lv_at hl 4 rfl) ?_
      refine lv_iload hx hb dL_law_897 (lv_at hl 0 rfl) ?_
      refine lv_iconst (v := 2) hx hb dL_law_899 (by decide) ?_
      refine lv_iadd hx hb dL_law_900 ?_
      refine lv_topi (fun y_372 ey_372 => ?_)
      obtain rfl : y_372 = 2 := ey_372.trans (by decide)
      refine va_sld hx hb hX hbl hbA hS (by unfold vp_in; decide) dL_law_901 ?_
      refine lv_topi (fun v_373 ev_373 => ?_)
      obtain rfl : v_373 = xs 2 := ev_373.trans rfl
      have hPc := hP.sub (ws' := [(q_35, .inr (9, [.int 0, .ref m_37, .int 0, .int 0, .int 0, .ref m_38, .ref m_39, .ref m_40, .int 0, .int 0, .int 0, .int 0, .int 0, .int 0, .long 0, .ref m_41, .ref m_42, .ref m_43, .ref m_44, .ref m_45, .ref m_46, .int 0, .ref m_47, .ref m_48, .ref m_49, .ref m_50, .ref m_51, .ref m_52, .ref m_53, .ref m_54, .ref m_55, .ref m_56, .ref m_57, .ref m_58, .ref m_59, .int 0, .int 0, .ref m_60, .ref m_61, .ref m_62, .ref m_63, .ref m_64, .ref m_65, .ref m_66, .ref m_67, .ref m_68, .ref m_69])), (m_41, .inl (k_hours_74, 144, .inl (fun _ => 0))), (m_43, .inl (k_least_76, 12, .inl (fun _ => 0)))]) [0, 1, 2] rfl
      have hDc := hD.sub (ws' := [(q_35, .inr (9, [.int 0, .ref m_37, .int 0, .int 0, .int 0, .ref m_38, .ref m_39, .ref m_40, .int 0, .int 0, .int 0, .int 0, .int 0, .int 0, .long 0, .ref m_41, .ref m_42, .ref m_43, .ref m_44, .ref m_45, .ref m_46, .int 0, .ref m_47, .ref m_48, .ref m_49, .ref m_50, .ref m_51, .ref m_52, .ref m_53, .ref m_54, .ref m_55, .ref m_56, .ref m_57, .ref m_58, .ref m_59, .int 0, .int 0, .ref m_60, .ref m_61, .ref m_62, .ref m_63, .ref m_64, .ref m_65, .ref m_66, .ref m_67, .ref m_68, .ref m_69])), (m_41, .inl (k_hours_74, 144, .inl (fun _ => 0))), (m_43, .inl (k_least_76, 12, .inl (fun _ => 0)))]) [0, 1, 2] (by decide) rfl
      have hKc := hK.sub (tys' := [(k_hours_74, .int), (k_least_76, .int)]) [17, 19] rfl
      have hFc := va_free (wc := [(q_35, .inr (9, [.int 0, .ref m_37, .int 0, .int 0, .int 0, .ref m_38, .ref m_39, .ref m_40, .int 0, .int 0, .int 0, .int 0, .int 0, .int 0, .long 0, .ref m_41, .ref m_42, .ref m_43, .ref m_44, .ref m_45, .ref m_46, .int 0, .ref m_47, .ref m_48, .ref m_49, .ref m_50, .ref m_51, .ref m_52, .ref m_53, .ref m_54, .ref m_55, .ref m_56, .ref m_57, .ref m_58, .ref m_59, .int 0, .int 0, .ref m_60, .ref m_61, .ref m_62, .ref m_63, .ref m_64, .ref m_65, .ref m_66, .ref m_67, .ref m_68, .ref m_69])), (m_41, .inl (k_hours_74, 144, .inl (fun _ => 0))), (m_43, .inl (k_least_76, 12, .inl (fun _ => 0)))]) hD hS hA [0, 1, 2] rfl
      refine va_calli (va_runV (As := [.int (xs 1), .int (xs 2)]) (rest := [.int (sp_hr (xs 1) (xs 2))]) ⟨hx, hb, hml, hown, hts⟩ (c_X9_hours l dC dI q_35 m_37 m_38 m_39 m_40 m_41 m_42 m_43 m_44 m_45 m_46 m_47 m_48 m_49 m_50 m_51 m_52 m_53 m_54 m_55 m_56 m_57 m_58 m_59 m_60 m_61 m_62 m_63 m_64 m_65 m_66 m_67 m_68 m_69 k_hours_74 k_least_76 (fun _ => 0) (xs 1) (xs 2) H.size) (cwV 2 hts gL_law_X9_hours rfl rfl rfl (by decide +kernel) ⟨Nat.le_of_ble_eq_true rfl, Nat.le_of_ble_eq_true rfl⟩) ⟨c_blind, va_recv hKc hPc (ci := 9) (q0 := 0) rfl rfl, c_pre hPc hKc hDc hN⟩ rfl rfl hl.1 rfl (lv_room (Nat.le_of_ble_eq_true rfl)) dL_law_902 ⟨Nat.le_of_ble_eq_true rfl, Nat.le_of_ble_eq_true rfl⟩) hS (fun q _ h => hFc q h) hFc (fun r_374 u9 t9 H1 locs ht hvm hw hB hz1 hk1 hS => ?_)
      obtain ⟨hP1, hK1, hD1⟩ := hB
      rw [ht] at hP1
      have hK1 := va_K.moved hvm.symm hK1
      obtain ⟨hP, hD⟩ := va_join (wr := []) (w1 := []) hP hD [0, 1, 2] [] rfl rfl (by decide) (by decide) hk1 hFc hP1 hD1
      have hK := (hK.sub (tys' := [(j_13, .int), (g_19, .array .int), (g_20, .array .int), (ky_21, .int), (kt_22, .int), (kz_23, .boolean), (kr_24, .int), (j_27, .int), (j_28, .object "YamRiders$Horse"), (j_29, .object "YamRiders$Tablet"), (j_30, .object "YamRiders$Rider"), (j_31, .object "YamRiders$Rider"), (j_33, .int), (k_tape_70, .byte), (k_law_71, .int), (k_fresh_72, .int), (k_isTold_73, .boolean), (k_hours_74, .int), (k_snow_75, .int), (k_least_76, .int), (k_fodder_77, .int), (k_strength_78, .int), (k_stands_79, .int), (k_rank_80, .int), (k_voidSince_81, .int), (k_newsSince_82, .int), (k_ways_83, .int), (k_wayMany_84, .int), (k_tabletOf_85, .int), (k_state_86, .int), (k_come_87, .int), (k_cameIn_88, .int), (k_horseOf_89, .int), (k_due_90, .int), (k_time_91, .int), (k_brings_92, .int), (k_loose_93, .boolean), (k_asked_94, .boolean), (k_led_95, .int), (k_cost_96, .int), (k_left_97, .int), (k_wants_98, .int), (k_toGiver_99, .int), (k_toTaker_100, .int), (k_giverBy_101, .int), (k_takerBy_102, .int), (k_105, .long)]) [0, 1, 2, 3, 4, 5, 6, 7, 8, 9, 10, 11, 12, 13, 14, 15, 16, 17, 18, 19, 20, 21, 22, 23, 24, 25, 26, 27, 28, 29, 30, 31, 32, 33, 34, 35, 36, 37, 38, 39, 40, 41, 42, 43, 44, 45, 46] rfl).app hK1
      generalize H1 = H at hP hS ⊢
      have hK : va_K (dC, dI) vwCl [(j_13, .int), (g_19, .array .int), (g_20, .array .int), (ky_21, .int), (kt_22, .int), (kz_23, .boolean), (kr_24, .int), (j_27, .int), (j_28, .object "YamRiders$Horse"), (j_29, .object "YamRiders$Tablet"), (j_30, .object "YamRiders$Rider"), (j_31, .object "YamRiders$Rider"), (j_33, .int), (k_tape_70, .byte), (k_law_71, .int), (k_fresh_72, .int), (k_isTold_73, .boolean), (k_hours_74, .int), (k_snow_75, .int), (k_least_76, .int), (k_fodder_77, .int), (k_strength_78, .int), (k_stands_79, .int), (k_rank_80, .int), (k_voidSince_81, .int), (k_newsSince_82, .int), (k_ways_83, .int), (k_wayMany_84, .int), (k_tabletOf_85, .int), (k_state_86, .int), (k_come_87, .int), (k_cameIn_88, .int), (k_horseOf_89, .int), (k_due_90, .int), (k_time_91, .int), (k_brings_92, .int), (k_loose_93, .boolean), (k_asked_94, .boolean), (k_led_95, .int), (k_cost_96, .int), (k_left_97, .int), (k_wants_98, .int), (k_toGiver_99, .int), (k_toTaker_100, .int), (k_giverBy_101, .int), (k_takerBy_102, .int), (k_105, .long)] s := hK
      have hP : va_P (dC, dI) vwCl [] H := hP
      have hD : va_D (fun q : Nat => s.heap.size ≤ q) [] := hD
      try dsimp only at hw
      subst hw
      refine W.widen (k := 102) (n := 4433) (Nat.le_of_ble_eq_true rfl) (Nat.le_of_ble_eq_true rfl) ?_
      refine lv_icmp_eq (tgt := 948) hx hb dL_law_905 (by decide) (fun _ => ?_) (fun c_375 => by first | exact absurd c_375 rfl | exact absurd rfl c_375)
      refine lv_iinc (v := 6) (lv' := [(4, .int 6), (3, .ref q_104), (2, .ref q_35), (1, .ref q_1), (0, .ref b)]) hx hb dL_law_948 hl (k := 0) rfl (by decide) (by decide) rfl (fun ls hl => ?_)
      refine lv_goto (tgt := 23) hx hb dL_law_951 (by decide) ?_
      refine lv_iload hx hb dL_law_23 (lv_at hl 0 rfl) ?_
      refine lv_aload_n hx hb dL_law_25 rfl (lv_at hl 4 rfl) ?_
      refine va_slen hx hb hX hbl hbA hS dL_law_26 ?_
      refine lv_bipush (v := 6) hx hb dL_law_27 (by decide) ?_
      refine lv_isub hx hb dL_law_29 ?_
      refine lv_topi (fun y_376 ey_376 => ?_)
      obtain rfl : y_376 = 0 := ey_376.trans (by decide)
      refine lv_icmp_gt (tgt := 954) hx hb dL_law_30 (by decide) (fun _ => ?_) (fun c_377 => by first | exact absurd c_377 (by decide) | exact absurd (by decide) c_377)
      refine lv_iconst (v := 1) hx hb dL_law_954 (by decide) ?_
      refine va_forget (fun q hq => hS.2.2 q hq) ?_
      refine W.widen (k := 600002) (n := 7302232) (Nat.le_of_ble_eq_true rfl) (Nat.le_of_ble_eq_true rfl) ?_
      exact lw_ret hx hb hr hlocks dL_law_955
    by_cases c_378 : (xs 0) &&& 31 = 20
    · refine lv_tableIn (tgt := 910) (off := 870) hx hb dL_law_40 (by rw [c_378]; decide) (by rw [c_378]; decide) (by rw [c_378]; decide) (by decide) ?_
      have hP := hP.sub (ws' := [(q_1, .inr (8, [.ref a_3, .ref a_4, .ref a_5, .ref a_6, .ref a_7, .ref a_8, .ref a_9, .ref a_10, .ref a_11, .int 0, .int 0, .int 0, .int 0, .int 0, .int 0])), (a_3, .inr (7, [.ref e_12, .int 0])), (q_35, .inr (9, [.int 0, .ref m_37, .int 0, .int 0, .int 0, .ref m_38, .ref m_39, .ref m_40, .int 0, .int 0, .int 0, .int 0, .int 0, .int 0, .long 0, .ref m_41, .ref m_42, .ref m_43, .ref m_44, .ref m_45, .ref m_46, .int 0, .ref m_47, .ref m_48, .ref m_49, .ref m_50, .ref m_51, .ref m_52, .ref m_53, .ref m_54, .ref m_55, .ref m_56, .ref m_57, .ref m_58, .ref m_59, .int 0, .int 0, .ref m_60, .ref m_61, .ref m_62, .ref m_63, .ref m_64, .ref m_65, .ref m_66, .ref m_67, .ref m_68, .ref m_69]))]) [0, 1, 40] rfl
      have hD := hD.sub (ws' := [(q_1, .inr (8, [.ref a_3, .ref a_4, .ref a_5, .ref a_6, .ref a_7, .ref a_8, .ref a_9, .ref a_10, .ref a_11, .int 0, .int 0, .int 0, .int 0, .int 0, .int 0])), (a_3, .inr (7, [.ref e_12, .int 0])), (q_35, .inr (9, [.int 0, .ref m_37, .int 0, .int 0, .int 0, .ref m_38, .ref m_39, .ref m_40, .int 0, .int 0, .int 0, .int 0, .int 0, .int 0, .long 0, .ref m_41, .ref m_42, .ref m_43, .ref m_44, .ref m_45, .ref m_46, .int 0, .ref m_47, .ref m_48, .ref m_49, .ref m_50, .ref m_51, .ref m_52, .ref m_53, .ref m_54, .ref m_55, .ref m_56, .ref m_57, .ref m_58, .ref m_59, .int 0, .int 0, .ref m_60, .ref m_61, .ref m_62, .ref m_63, .ref m_64, .ref m_65, .ref m_66, .ref m_67, .ref m_68, .ref m_69]))]) [0, 1, 40] (by decide) rfl
      refine lv_aload_n hx hb dL_law_910 rfl (lv_at hl 3 rfl) ?_
      have hPc := hP.sub (ws' := [(q_1, .inr (8, [.ref a_3, .ref a_4, .ref a_5, .ref a_6, .ref a_7, .ref a_8, .ref a_9, .ref a_10, .ref a_11, .int 0, .int 0, .int 0, .int 0, .int 0, .int 0])), (a_3, .inr (7, [.ref e_12, .int 0]))]) [0, 1] rfl
      have hDc := hD.sub (ws' := [(q_1, .inr (8, [.ref a_3, .ref a_4, .ref a_5, .ref a_6, .ref a_7, .ref a_8, .ref a_9, .ref a_10, .ref a_11, .int 0, .int 0, .int 0, .int 0, .int 0, .int 0])), (a_3, .inr (7, [.ref e_12, .int 0]))]) [0, 1] (by decide) rfl
      have hKc := hK.sub (tys' := []) [] rfl
      have hFc := va_free (wc := [(q_1, .inr (8, [.ref a_3, .ref a_4, .ref a_5, .ref a_6, .ref a_7, .ref a_8, .ref a_9, .ref a_10, .ref a_11, .int 0, .int 0, .int 0, .int 0, .int 0, .int 0])), (a_3, .inr (7, [.ref e_12, .int 0]))]) hD hS hA [0, 1] rfl
      refine va_calli (va_runV (As := []) (rest := []) ⟨hx, hb, hml, hown, hts⟩ (c_X8_leading l dC dI q_1 a_3 a_4 a_5 a_6 a_7 a_8 a_9 a_10 a_11 e_12 H.size) (cwV 0 hts gL_law_X8_leading rfl rfl rfl (by decide +kernel) ⟨Nat.le_of_ble_eq_true rfl, Nat.le_of_ble_eq_true rfl⟩) ⟨c_blind, va_recv hKc hPc (ci := 8) (q0 := 0) rfl rfl, c_pre hPc hKc hDc hN⟩ rfl rfl hl.1 rfl (lv_room (Nat.le_of_ble_eq_true rfl)) dL_law_911 ⟨Nat.le_of_ble_eq_true rfl, Nat.le_of_ble_eq_true rfl⟩) hS (fun q _ h => hFc q h) hFc (fun r_379 u9 t9 H1 locs ht hvm hw hB hz1 hk1 hS => ?_)
      obtain ⟨hP1, hK1, hD1⟩ := hB
      rw [ht] at hP1
      have hK1 := va_K.moved hvm.symm hK1
      obtain ⟨hP, hD⟩ := va_join (wr := [(q_35, .inr (9, [.int 0, .ref m_37, .int 0, .int 0, .int 0, .ref m_38, .ref m_39, .ref m_40, .int 0, .int 0, .int 0, .int 0, .int 0, .int 0, .long 0, .ref m_41, .ref m_42, .ref m_43, .ref m_44, .ref m_45, .ref m_46, .int 0, .ref m_47, .ref m_48, .ref m_49, .ref m_50, .ref m_51, .ref m_52, .ref m_53, .ref m_54, .ref m_55, .ref m_56, .ref m_57, .ref m_58, .ref m_59, .int 0, .int 0, .ref m_60, .ref m_61, .ref m_62, .ref m_63, .ref m_64, .ref m_65, .ref m_66, .ref m_67, .ref m_68, .ref m_69]))]) (w1 := []) hP hD [0, 1] [2] rfl rfl (by decide) (by decide) hk1 hFc hP1 hD1
      have hK := (hK.sub (tys' := [(j_13, .int), (g_19, .array .int), (g_20, .array .int), (ky_21, .int), (kt_22, .int), (kz_23, .boolean), (kr_24, .int), (j_27, .int), (j_28, .object "YamRiders$Horse"), (j_29, .object "YamRiders$Tablet"), (j_30, .object "YamRiders$Rider"), (j_31, .object "YamRiders$Rider"), (j_33, .int), (k_tape_70, .byte), (k_law_71, .int), (k_fresh_72, .int), (k_isTold_73, .boolean), (k_hours_74, .int), (k_snow_75, .int), (k_least_76, .int), (k_fodder_77, .int), (k_strength_78, .int), (k_stands_79, .int), (k_rank_80, .int), (k_voidSince_81, .int), (k_newsSince_82, .int), (k_ways_83, .int), (k_wayMany_84, .int), (k_tabletOf_85, .int), (k_state_86, .int), (k_come_87, .int), (k_cameIn_88, .int), (k_horseOf_89, .int), (k_due_90, .int), (k_time_91, .int), (k_brings_92, .int), (k_loose_93, .boolean), (k_asked_94, .boolean), (k_led_95, .int), (k_cost_96, .int), (k_left_97, .int), (k_wants_98, .int), (k_toGiver_99, .int), (k_toTaker_100, .int), (k_giverBy_101, .int), (k_takerBy_102, .int), (k_105, .long)]) [0, 1, 2, 3, 4, 5, 6, 7, 8, 9, 10, 11, 12, 13, 14, 15, 16, 17, 18, 19, 20, 21, 22, 23, 24, 25, 26, 27, 28, 29, 30, 31, 32, 33, 34, 35, 36, 37, 38, 39, 40, 41, 42, 43, 44, 45, 46] rfl).app hK1
      generalize H1 = H at hP hS ⊢
      have hK : va_K (dC, dI) vwCl [(j_13, .int), (g_19, .array .int), (g_20, .array .int), (ky_21, .int), (kt_22, .int), (kz_23, .boolean), (kr_24, .int), (j_27, .int), (j_28, .object "YamRiders$Horse"), (j_29, .object "YamRiders$Tablet"), (j_30, .object "YamRiders$Rider"), (j_31, .object "YamRiders$Rider"), (j_33, .int), (k_tape_70, .byte), (k_law_71, .int), (k_fresh_72, .int), (k_isTold_73, .boolean), (k_hours_74, .int), (k_snow_75, .int), (k_least_76, .int), (k_fodder_77, .int), (k_strength_78, .int), (k_stands_79, .int), (k_rank_80, .int), (k_voidSince_81, .int), (k_newsSince_82, .int), (k_ways_83, .int), (k_wayMany_84, .int), (k_tabletOf_85, .int), (k_state_86, .int), (k_come_87, .int), (k_cameIn_88, .int), (k_horseOf_89, .int), (k_due_90, .int), (k_time_91, .int), (k_brings_92, .int), (k_loose_93, .boolean), (k_asked_94, .boolean), (k_led_95, .int), (k_cost_96, .int), (k_left_97, .int), (k_wants_98, .int), (k_toGiver_99, .int), (k_toTaker_100, .int), (k_giverBy_101, .int), (k_takerBy_102, .int), (k_105, .long)] s := hK
      have hP : va_P (dC, dI) vwCl [(q_35, .inr (9, [.int 0, .ref m_37, .int 0, .int 0, .int 0, .ref m_38, .ref m_39, .ref m_40, .int 0, .int 0, .int 0, .int 0, .int 0, .int 0, .long 0, .ref m_41, .ref m_42, .ref m_43, .ref m_44, .ref m_45, .ref m_46, .int 0, .ref m_47, .ref m_48, .ref m_49, .ref m_50, .ref m_51, .ref m_52, .ref m_53, .ref m_54, .ref m_55, .ref m_56, .ref m_57, .ref m_58, .ref m_59, .int 0, .int 0, .ref m_60, .ref m_61, .ref m_62, .ref m_63, .ref m_64, .ref m_65, .ref m_66, .ref m_67, .ref m_68, .ref m_69]))] H := hP
      have hD : va_D (fun q : Nat => s.heap.size ≤ q) [(q_35, .inr (9, [.int 0, .ref m_37, .int 0, .int 0, .int 0, .ref m_38, .ref m_39, .ref m_40, .int 0, .int 0, .int 0, .int 0, .int 0, .int 0, .long 0, .ref m_41, .ref m_42, .ref m_43, .ref m_44, .ref m_45, .ref m_46, .int 0, .ref m_47, .ref m_48, .ref m_49, .ref m_50, .ref m_51, .ref m_52, .ref m_53, .ref m_54, .ref m_55, .ref m_56, .ref m_57, .ref m_58, .ref m_59, .int 0, .int 0, .ref m_60, .ref m_61, .ref m_62, .ref m_63, .ref m_64, .ref m_65, .ref m_66, .ref m_67, .ref m_68, .ref m_69]))] := hD
      try dsimp only at hw
      subst hw
      refine W.widen (k := 102) (n := 4433) (Nat.le_of_ble_eq_true rfl) (Nat.le_of_ble_eq_true rfl) ?_
      refine lv_aload_n hx hb dL_law_914 rfl (lv_at hl 2 rfl) ?_
      have hPc := hP.sub (ws' := [(q_35, .inr (9, [.int 0, .ref m_37, .int 0, .int 0, .int 0, .ref m_38, .ref m_39, .ref m_40, .int 0, .int 0, .int 0, .int 0, .int 0, .int 0, .long 0, .ref m_41, .ref m_42, .ref m_43, .ref m_44, .ref m_45, .ref m_46, .int 0, .ref m_47, .ref m_48, .ref m_49, .ref m_50, .ref m_51, .ref m_52, .ref m_53, .ref m_54, .ref m_55, .ref m_56, .ref m_57, .ref m_58, .ref m_59, .int 0, .int 0, .ref m_60, .ref m_61, .ref m_62, .ref m_63, .ref m_64, .ref m_65, .ref m_66, .ref m_67, .ref m_68, .ref m_69]))]) [0] rfl
      have hDc := hD.sub (ws' := [(q_35, .inr (9, [.int 0, .ref m_37, .int 0, .int 0, .int 0, .ref m_38, .ref m_39, .ref m_40, .int 0, .int 0, .int 0, .int 0, .int 0, .int 0, .long 0, .ref m_41, .ref m_42, .ref m_43, .ref m_44, .ref m_45, .ref m_46, .int 0, .ref m_47, .ref m_48, .ref m_49, .ref m_50, .ref m_51, .ref m_52, .ref m_53, .ref m_54, .ref m_55, .ref m_56, .ref m_57, .ref m_58, .ref m_59, .int 0, .int 0, .ref m_60, .ref m_61, .ref m_62, .ref m_63, .ref m_64, .ref m_65, .ref m_66, .ref m_67, .ref m_68, .ref m_69]))]) [0] (by decide) rfl
      have hKc := hK.sub (tys' := []) [] rfl
      have hFc := va_free (wc := [(q_35, .inr (9, [.int 0, .ref m_37, .int 0, .int 0, .int 0, .ref m_38, .ref m_39, .ref m_40, .int 0, .int 0, .int 0, .int 0, .int 0, .int 0, .long 0, .ref m_41, .ref m_42, .ref m_43, .ref m_44, .ref m_45, .ref m_46, .int 0, .ref m_47, .ref m_48, .ref m_49, .ref m_50, .ref m_51, .ref m_52, .ref m_53, .ref m_54, .ref m_55, .ref m_56, .ref m_57, .ref m_58, .ref m_59, .int 0, .int 0, .ref m_60, .ref m_61, .ref m_62, .ref m_63, .ref m_64, .ref m_65, .ref m_66, .ref m_67, .ref m_68, .ref m_69]))]) hD hS hA [0] rfl
      refine va_calli (va_runV (As := []) (rest := [.int (-1)]) ⟨hx, hb, hml, hown, hts⟩ (c_X9_leading l dC dI q_35 m_37 m_38 m_39 m_40 m_41 m_42 m_43 m_44 m_45 m_46 m_47 m_48 m_49 m_50 m_51 m_52 m_53 m_54 m_55 m_56 m_57 m_58 m_59 m_60 m_61 m_62 m_63 m_64 m_65 m_66 m_67 m_68 m_69 H.size) (cwV 0 hts gL_law_X9_leading rfl rfl rfl (by decide +kernel) ⟨Nat.le_of_ble_eq_true rfl, Nat.le_of_ble_eq_true rfl⟩) ⟨c_blind, va_recv hKc hPc (ci := 9) (q0 := 0) rfl rfl, c_pre hPc hKc hDc hN⟩ rfl rfl hl.1 rfl (lv_room (Nat.le_of_ble_eq_true rfl)) dL_law_915 ⟨Nat.le_of_ble_eq_true rfl, Nat.le_of_ble_eq_true rfl⟩) hS (fun q _ h => hFc q h) hFc (fun r_380 u9 t9 H1 locs ht hvm hw hB hz1 hk1 hS => ?_)
      obtain ⟨hP1, hK1, hD1⟩ := hB
      rw [ht] at hP1
      have hK1 := va_K.moved hvm.symm hK1
      obtain ⟨hP, hD⟩ := va_join (wr := []) (w1 := []) hP hD [0] [] rfl rfl (by decide) (by decide) hk1 hFc hP1 hD1
      have hK := (hK.sub (tys' := [(j_13, .int), (g_19, .array .int), (g_20, .array .int), (ky_21, .int), (kt_22, .int), (kz_23, .boolean), (kr_24, .int), (j_27, .int), (j_28, .object "YamRiders$Horse"), (j_29, .object "YamRiders$Tablet"), (j_30, .object "YamRiders$Rider"), (j_31, .object "YamRiders$Rider"), (j_33, .int), (k_tape_70, .byte), (k_law_71, .int), (k_fresh_72, .int), (k_isTold_73, .boolean), (k_hours_74, .int), (k_snow_75, .int), (k_least_76, .int), (k_fodder_77, .int), (k_strength_78, .int), (k_stands_79, .int), (k_rank_80, .int), (k_voidSince_81, .int), (k_newsSince_82, .int), (k_ways_83, .int), (k_wayMany_84, .int), (k_tabletOf_85, .int), (k_state_86, .int), (k_come_87, .int), (k_cameIn_88, .int), (k_horseOf_89, .int), (k_due_90, .int), (k_time_91, .int), (k_brings_92, .int), (k_loose_93, .boolean), (k_asked_94, .boolean), (k_led_95, .int), (k_cost_96, .int), (k_left_97, .int), (k_wants_98, .int), (k_toGiver_99, .int), (k_toTaker_100, .int), (k_giverBy_101, .int), (k_takerBy_102, .int), (k_105, .long)]) [0, 1, 2, 3, 4, 5, 6, 7, 8, 9, 10, 11, 12, 13, 14, 15, 16, 17, 18, 19, 20, 21, 22, 23, 24, 25, 26, 27, 28, 29, 30, 31, 32, 33, 34, 35, 36, 37, 38, 39, 40, 41, 42, 43, 44, 45, 46] rfl).app hK1
      generalize H1 = H at hP hS ⊢
      have hK : va_K (dC, dI) vwCl [(j_13, .int), (g_19, .array .int), (g_20, .array .int), (ky_21, .int), (kt_22, .int), (kz_23, .boolean), (kr_24, .int), (j_27, .int), (j_28, .object "YamRiders$Horse"), (j_29, .object "YamRiders$Tablet"), (j_30, .object "YamRiders$Rider"), (j_31, .object "YamRiders$Rider"), (j_33, .int), (k_tape_70, .byte), (k_law_71, .int), (k_fresh_72, .int), (k_isTold_73, .boolean), (k_hours_74, .int), (k_snow_75, .int), (k_least_76, .int), (k_fodder_77, .int), (k_strength_78, .int), (k_stands_79, .int), (k_rank_80, .int), (k_voidSince_81, .int), (k_newsSince_82, .int), (k_ways_83, .int), (k_wayMany_84, .int), (k_tabletOf_85, .int), (k_state_86, .int), (k_come_87, .int), (k_cameIn_88, .int), (k_horseOf_89, .int), (k_due_90, .int), (k_time_91, .int), (k_brings_92, .int), (k_loose_93, .boolean), (k_asked_94, .boolean), (k_led_95, .int), (k_cost_96, .int), (k_left_97, .int), (k_wants_98, .int), (k_toGiver_99, .int), (k_toTaker_100, .int), (k_giverBy_101, .int), (k_takerBy_102, .int), (k_105, .long)] s := hK
      have hP : va_P (dC, dI) vwCl [] H := hP
      have hD : va_D (fun q : Nat => s.heap.size ≤ q) [] := hD
      try dsimp only at hw
      subst hw
      refine W.widen (k := 102) (n := 4433) (Nat.le_of_ble_eq_true rfl) (Nat.le_of_ble_eq_true rfl) ?_
      refine lv_icmp_eq (tgt := 948) hx hb dL_law_918 (by decide) (fun _ => ?_) (fun c_381 => by first | exact absurd c_381 (by decide) | exact absurd (by decide) c_381)
      refine lv_iinc (v := 6) (lv' := [(4, .int 6), (3, .ref q_104), (2, .ref q_35), (1, .ref q_1), (0, .ref b)]) hx hb dL_law_948 hl (k := 0) rfl (by decide) (by decide) rfl (fun ls hl => ?_)
      refine lv_goto (tgt := 23) hx hb dL_law_951 (by decide) ?_
      refine lv_iload hx hb dL_law_23 (lv_at hl 0 rfl) ?_
      refine lv_aload_n hx hb dL_law_25 rfl (lv_at hl 4 rfl) ?_
      refine va_slen hx hb hX hbl hbA hS dL_law_26 ?_
      refine lv_bipush (v := 6) hx hb dL_law_27 (by decide) ?_
      refine lv_isub hx hb dL_law_29 ?_
      refine lv_topi (fun y_382 ey_382 => ?_)
      obtain rfl : y_382 = 0 := ey_382.trans (by decide)
      refine lv_icmp_gt (tgt := 954) hx hb dL_law_30 (by decide) (fun _ => ?_) (fun c_383 => by first | exact absurd c_383 (by decide) | exact absurd (by decide) c_383)
      refine lv_iconst (v := 1) hx hb dL_law_954 (by decide) ?_
      refine va_forget (fun q hq => hS.2.2 q hq) ?_
      refine W.widen (k := 600002) (n := 7302232) (Nat.le_of_ble_eq_true rfl) (Nat.le_of_ble_eq_true rfl) ?_
      exact lw_ret hx hb hr hlocks dL_law_955
    by_cases c_384 : (xs 0) &&& 31 = 21
    · refine lv_tableIn (tgt := 923) (off := 883) hx hb dL_law_40 (by rw [c_384]; decide) (by rw [c_384]; decide) (by rw [c_384]; decide) (by decide) ?_
      have hP := hP.sub (ws' := [(q_1, .inr (8, [.ref a_3, .ref a_4, .ref a_5, .ref a_6, .ref a_7, .ref a_8, .ref a_9, .ref a_10, .ref a_11, .int 0, .int 0, .int 0, .int 0, .int 0, .int 0])), (a_3, .inr (7, [.ref e_12, .int 0])), (a_9, .inl (j_30, 60, .inr (.inr (.inr (.inr (fun _ => none)))))), (q_35, .inr (9, [.int 0, .ref m_37, .int 0, .int 0, .int 0, .ref m_38, .ref m_39, .ref m_40, .int 0, .int 0, .int 0, .int 0, .int 0, .int 0, .long 0, .ref m_41, .ref m_42, .ref m_43, .ref m_44, .ref m_45, .ref m_46, .int 0, .ref m_47, .ref m_48, .ref m_49, .ref m_50, .ref m_51, .ref m_52, .ref m_53, .ref m_54, .ref m_55, .ref m_56, .ref m_57, .ref m_58, .ref m_59, .int 0, .int 0, .ref m_60, .ref m_61, .ref m_62, .ref m_63, .ref m_64, .ref m_65, .ref m_66, .ref m_67, .ref m_68, .ref m_69]))]) [0, 1, 36, 40] rfl
      have hD := hD.sub (ws' := [(q_1, .inr (8, [.ref a_3, .ref a_4, .ref a_5, .ref a_6, .ref a_7, .ref a_8, .ref a_9, .ref a_10, .ref a_11, .int 0, .int 0, .int 0, .int 0, .int 0, .int 0])), (a_3, .inr (7, [.ref e_12, .int 0])), (a_9, .inl (j_30, 60, .inr (.inr (.inr (.inr (fun _ => none)))))), (q_35, .inr (9, [.int 0, .ref m_37, .int 0, .int 0, .int 0, .ref m_38, .ref m_39, .ref m_40, .int 0, .int 0, .int 0, .int 0, .int 0, .int 0, .long 0, .ref m_41, .ref m_42, .ref m_43, .ref m_44, .ref m_45, .ref m_46, .int 0, .ref m_47, .ref m_48, .ref m_49, .ref m_50, .ref m_51, .ref m_52, .ref m_53, .ref m_54, .ref m_55, .ref m_56, .ref m_57, .ref m_58, .ref m_59, .int 0, .int 0, .ref m_60, .ref m_61, .ref m_62, .ref m_63, .ref m_64, .ref m_65, .ref m_66, .ref m_67, .ref m_68, .ref m_69]))]) [0, 1, 36, 40] (by decide) rfl
      refine lv_aload_n hx hb dL_law_923 rfl (lv_at hl 3 rfl) ?_
      refine lv_aload_n hx hb dL_law_924 rfl (lv_at hl 4 rfl) ?_
      refine lv_iload hx hb dL_law_925 (lv_at hl 0 rfl) ?_
      refine lv_iconst (v := 1) hx hb dL_law_927 (by decide) ?_
      refine lv_iadd hx hb dL_law_928 ?_
      refine lv_topi (fun y_385 ey_385 => ?_)
      obtain rfl : y_385 = 1 := ey_385.trans (by decide)
      refine va_sld hx hb hX hbl hbA hS (by unfold vp_in; decide) dL_law_929 ?_
      refine lv_topi (fun v_386 ev_386 => ?_)
      obtain rfl : v_386 = xs 1 := ev_386.trans rfl
      have hPc := hP.sub (ws' := [(q_1, .inr (8, [.ref a_3, .ref a_4, .ref a_5, .ref a_6, .ref a_7, .ref a_8, .ref a_9, .ref a_10, .ref a_11, .int 0, .int 0, .int 0, .int 0, .int 0, .int 0])), (a_3, .inr (7, [.ref e_12, .int 0])), (a_9, .inl (j_30, 60, .inr (.inr (.inr (.inr (fun _ => none))))))]) [0, 1, 2] rfl
      have hDc := hD.sub (ws' := [(q_1, .inr (8, [.ref a_3, .ref a_4, .ref a_5, .ref a_6, .ref a_7, .ref a_8, .ref a_9, .ref a_10, .ref a_11, .int 0, .int 0, .int 0, .int 0, .int 0, .int 0])), (a_3, .inr (7, [.ref e_12, .int 0])), (a_9, .inl (j_30, 60, .inr (.inr (.inr (.inr (fun _ => none))))))]) [0, 1, 2] (by decide) rfl
      have hKc := hK.sub (tys' := [(j_30, .object "YamRiders$Rider")]) [10] rfl
      refine cs_i (va_runV (As := [.int (xs 1)]) (rest := []) ⟨hx, hb, hml, hown, hts⟩ (c_X8_count l dC dI q_1 a_3 a_4 a_5 a_6 a_7 a_8 a_9 a_10 a_11 e_12 j_30 (xs 1) H.size) (cwV 1 hts gL_law_X8_count rfl rfl rfl (by decide +kernel) ⟨Nat.le_of_ble_eq_true rfl, Nat.le_of_ble_eq_true rfl⟩) ⟨c_blind, va_recv hKc hPc (ci := 8) (q0 := 0) rfl rfl, c_pre hPc hKc hDc hN⟩ rfl rfl hl.1 rfl (lv_room (Nat.le_of_ble_eq_true rfl)) dL_law_930 ⟨Nat.le_of_ble_eq_true rfl, Nat.le_of_ble_eq_true rfl⟩) (fun r_387 hr_387 => ?_)
      subst hr_387
      refine lv_aload_n hx hb dL_law_933 rfl (lv_at hl 2 rfl) ?_
      refine lv_aload_n hx hb dL_law_934 rfl (lv_at hl 4 rfl) ?_
      refine lv_iload hx hb dL_law_935 (lv_at hl 0 rfl) ?_
      refine lv_iconst (v := 1) hx hb dL_law_937 (by decide) ?_
      refine lv_iadd hx hb dL_law_938 ?_
      refine lv_topi (fun y_388 ey_388 => ?_)
      obtain rfl : y_388 = 1 := ey_388.trans (by decide)
      refine va_sld hx hb hX hbl hbA hS (by unfold vp_in; decide) dL_law_939 ?_
      refine lv_topi (fun v_389 ev_389 => ?_)
      obtain rfl : v_389 = xs 1 := ev_389.trans rfl
      have hPc := hP.sub (ws' := [(q_35, .inr (9, [.int 0, .ref m_37, .int 0, .int 0, .int 0, .ref m_38, .ref m_39, .ref m_40, .int 0, .int 0, .int 0, .int 0, .int 0, .int 0, .long 0, .ref m_41, .ref m_42, .ref m_43, .ref m_44, .ref m_45, .ref m_46, .int 0, .ref m_47, .ref m_48, .ref m_49, .ref m_50, .ref m_51, .ref m_52, .ref m_53, .ref m_54, .ref m_55, .ref m_56, .ref m_57, .ref m_58, .ref m_59, .int 0, .int 0, .ref m_60, .ref m_61, .ref m_62, .ref m_63, .ref m_64, .ref m_65, .ref m_66, .ref m_67, .ref m_68, .ref m_69]))]) [3] rfl
      have hDc := hD.sub (ws' := [(q_35, .inr (9, [.int 0, .ref m_37, .int 0, .int 0, .int 0, .ref m_38, .ref m_39, .ref m_40, .int 0, .int 0, .int 0, .int 0, .int 0, .int 0, .long 0, .ref m_41, .ref m_42, .ref m_43, .ref m_44, .ref m_45, .ref m_46, .int 0, .ref m_47, .ref m_48, .ref m_49, .ref m_50, .ref m_51, .ref m_52, .ref m_53, .ref m_54, .ref m_55, .ref m_56, .ref m_57, .ref m_58, .ref m_59, .int 0, .int 0, .ref m_60, .ref m_61, .ref m_62, .ref m_63, .ref m_64, .ref m_65, .ref m_66, .ref m_67, .ref m_68, .ref m_69]))]) [3] (by decide) rfl
      have hKc := hK.sub (tys' := []) [] rfl
      have hFc := va_free (wc := [(q_35, .inr (9, [.int 0, .ref m_37, .int 0, .int 0, .int 0, .ref m_38, .ref m_39, .ref m_40, .int 0, .int 0, .int 0, .int 0, .int 0, .int 0, .long 0, .ref m_41, .ref m_42, .ref m_43, .ref m_44, .ref m_45, .ref m_46, .int 0, .ref m_47, .ref m_48, .ref m_49, .ref m_50, .ref m_51, .ref m_52, .ref m_53, .ref m_54, .ref m_55, .ref m_56, .ref m_57, .ref m_58, .ref m_59, .int 0, .int 0, .ref m_60, .ref m_61, .ref m_62, .ref m_63, .ref m_64, .ref m_65, .ref m_66, .ref m_67, .ref m_68, .ref m_69]))]) hD hS hA [3] rfl
      refine va_calli (va_runV (As := [.int (xs 1)]) (rest := [.int (if (xs 1) = 0 then 0 else (if (xs 1) = 1 then 0 else (if (xs 1) = 2 then 0 else (if (xs 1) = 3 then 0 else (if (xs 1) = 4 then 0 else (if (xs 1) = 5 then 0 else (-1)))))))]) ⟨hx, hb, hml, hown, hts⟩ (c_X9_count l dC dI q_35 m_37 m_38 m_39 m_40 m_41 m_42 m_43 m_44 m_45 m_46 m_47 m_48 m_49 m_50 m_51 m_52 m_53 m_54 m_55 m_56 m_57 m_58 m_59 m_60 m_61 m_62 m_63 m_64 m_65 m_66 m_67 m_68 m_69 (xs 1) H.size) (cwV 1 hts gL_law_X9_count rfl rfl rfl (by decide +kernel) ⟨Nat.le_of_ble_eq_true rfl, Nat.le_of_ble_eq_true rfl⟩) ⟨c_blind, va_recv hKc hPc (ci := 9) (q0 := 0) rfl rfl, c_pre hPc hKc hDc hN⟩ rfl rfl hl.1 rfl (lv_room (Nat.le_of_ble_eq_true rfl)) dL_law_940 ⟨Nat.le_of_ble_eq_true rfl, Nat.le_of_ble_eq_true rfl⟩) hS (fun q _ h => hFc q h) hFc (fun r_390 u9 t9 H1 locs ht hvm hw hB hz1 hk1 hS => ?_)
      obtain ⟨hP1, hK1, hD1⟩ := hB
      rw [ht] at hP1
      have hK1 := va_K.moved hvm.symm hK1
      obtain ⟨hP, hD⟩ := va_join (wr := [(q_1, .inr (8, [.ref a_3, .ref a_4, .ref a_5, .ref a_6, .ref a_7, .ref a_8, .ref a_9, .ref a_10, .ref a_11, .int 0, .int 0, .int 0, .int 0, .int 0, .int 0])), (a_3, .inr (7, [.ref e_12, .int 0])), (a_9, .inl (j_30, 60, .inr (.inr (.inr (.inr (fun _ => none))))))]) (w1 := []) hP hD [3] [0, 1, 2] rfl rfl (by decide) (by decide) hk1 hFc hP1 hD1
      have hK := (hK.sub (tys' := [(j_13, .int), (g_19, .array .int), (g_20, .array .int), (ky_21, .int), (kt_22, .int), (kz_23, .boolean), (kr_24, .int), (j_27, .int), (j_28, .object "YamRiders$Horse"), (j_29, .object "YamRiders$Tablet"), (j_30, .object "YamRiders$Rider"), (j_31, .object "YamRiders$Rider"), (j_33, .int), (k_tape_70, .byte), (k_law_71, .int), (k_fresh_72, .int), (k_isTold_73, .boolean), (k_hours_74, .int), (k_snow_75, .int), (k_least_76, .int), (k_fodder_77, .int), (k_strength_78, .int), (k_stands_79, .int), (k_rank_80, .int), (k_voidSince_81, .int), (k_newsSince_82, .int), (k_ways_83, .int), (k_wayMany_84, .int), (k_tabletOf_85, .int), (k_state_86, .int), (k_come_87, .int), (k_cameIn_88, .int), (k_horseOf_89, .int), (k_due_90, .int), (k_time_91, .int), (k_brings_92, .int), (k_loose_93, .boolean), (k_asked_94, .boolean), (k_led_95, .int), (k_cost_96, .int), (k_left_97, .int), (k_wants_98, .int), (k_toGiver_99, .int), (k_toTaker_100, .int), (k_giverBy_101, .int), (k_takerBy_102, .int), (k_105, .long)]) [0, 1, 2, 3, 4, 5, 6, 7, 8, 9, 10, 11, 12, 13, 14, 15, 16, 17, 18, 19, 20, 21, 22, 23, 24, 25, 26, 27, 28, 29, 30, 31, 32, 33, 34, 35, 36, 37, 38, 39, 40, 41, 42, 43, 44, 45, 46] rfl).app hK1
      generalize H1 = H at hP hS ⊢
      have hK : va_K (dC, dI) vwCl [(j_13, .int), (g_19, .array .int), (g_20, .array .int), (ky_21, .int), (kt_22, .int), (kz_23, .boolean), (kr_24, .int), (j_27, .int), (j_28, .object "YamRiders$Horse"), (j_29, .object "YamRiders$Tablet"), (j_30, .object "YamRiders$Rider"), (j_31, .object "YamRiders$Rider"), (j_33, .int), (k_tape_70, .byte), (k_law_71, .int), (k_fresh_72, .int), (k_isTold_73, .boolean), (k_hours_74, .int), (k_snow_75, .int), (k_least_76, .int), (k_fodder_77, .int), (k_strength_78, .int), (k_stands_79, .int), (k_rank_80, .int), (k_voidSince_81, .int), (k_newsSince_82, .int), (k_ways_83, .int), (k_wayMany_84, .int), (k_tabletOf_85, .int), (k_state_86, .int), (k_come_87, .int), (k_cameIn_88, .int), (k_horseOf_89, .int), (k_due_90, .int), (k_time_91, .int), (k_brings_92, .int), (k_loose_93, .boolean), (k_asked_94, .boolean), (k_led_95, .int), (k_cost_96, .int), (k_left_97, .int), (k_wants_98, .int), (k_toGiver_99, .int), (k_toTaker_100, .int), (k_giverBy_101, .int), (k_takerBy_102, .int), (k_105, .long)] s := hK
      have hP : va_P (dC, dI) vwCl [(q_1, .inr (8, [.ref a_3, .ref a_4, .ref a_5, .ref a_6, .ref a_7, .ref a_8, .ref a_9, .ref a_10, .ref a_11, .int 0, .int 0, .int 0, .int 0, .int 0, .int 0])), (a_3, .inr (7, [.ref e_12, .int 0])), (a_9, .inl (j_30, 60, .inr (.inr (.inr (.inr (fun _ => none))))))] H := hP
      have hD : va_D (fun q : Nat => s.heap.size ≤ q) [(q_1, .inr (8, [.ref a_3, .ref a_4, .ref a_5, .ref a_6, .ref a_7, .ref a_8, .ref a_9, .ref a_10, .ref a_11, .int 0, .int 0, .int 0, .int 0, .int 0, .int 0])), (a_3, .inr (7, [.ref e_12, .int 0])), (a_9, .inl (j_30, 60, .inr (.inr (.inr (.inr (fun _ => none))))))] := hD
      try dsimp only at hw
      subst hw
      refine W.widen (k := 102) (n := 4433) (Nat.le_of_ble_eq_true rfl) (Nat.le_of_ble_eq_true rfl) ?_
      refine lv_icmp_eq (tgt := 948) hx hb dL_law_943 (by decide) (fun _ => ?_) (fun c_391 => by first | exact absurd c_391 rfl | exact absurd rfl c_391)
      refine lv_iinc (v := 6) (lv' := [(4, .int 6), (3, .ref q_104), (2, .ref q_35), (1, .ref q_1), (0, .ref b)]) hx hb dL_law_948 hl (k := 0) rfl (by decide) (by decide) rfl (fun ls hl => ?_)
      refine lv_goto (tgt := 23) hx hb dL_law_951 (by decide) ?_
      refine lv_iload hx hb dL_law_23 (lv_at hl 0 rfl) ?_
      refine lv_aload_n hx hb dL_law_25 rfl (lv_at hl 4 rfl) ?_
      refine va_slen hx hb hX hbl hbA hS dL_law_26 ?_
      refine lv_bipush (v := 6) hx hb dL_law_27 (by decide) ?_
      refine lv_isub hx hb dL_law_29 ?_
      refine lv_topi (fun y_392 ey_392 => ?_)
      obtain rfl : y_392 = 0 := ey_392.trans (by decide)
      refine lv_icmp_gt (tgt := 954) hx hb dL_law_30 (by decide) (fun _ => ?_) (fun c_393 => by first | exact absurd c_393 (by decide) | exact absurd (by decide) c_393)
      refine lv_iconst (v := 1) hx hb dL_law_954 (by decide) ?_
      refine va_forget (fun q hq => hS.2.2 q hq) ?_
      refine W.widen (k := 600002) (n := 7302232) (Nat.le_of_ble_eq_true rfl) (Nat.le_of_ble_eq_true rfl) ?_
      exact lw_ret hx hb hr hlocks dL_law_955
    refine lv_tableOut (tgt := 948) hx hb dL_law_40 (sw_out0_21 c_108 c_134 c_144 c_150 c_156 c_174 c_192 c_206 c_220 c_230 c_248 c_262 c_272 c_278 c_293 c_307 c_322 c_336 c_350 c_364 c_378 c_384) (by decide) ?_
    refine lv_iinc (v := 6) (lv' := [(4, .int 6), (3, .ref q_104), (2, .ref q_35), (1, .ref q_1), (0, .ref b)]) hx hb dL_law_948 hl (k := 0) rfl (by decide) (by decide) rfl (fun ls hl => ?_)
    refine lv_goto (tgt := 23) hx hb dL_law_951 (by decide) ?_
    refine lv_iload hx hb dL_law_23 (lv_at hl 0 rfl) ?_
    refine lv_aload_n hx hb dL_law_25 rfl (lv_at hl 4 rfl) ?_
    refine va_slen hx hb hX hbl hbA hS dL_law_26 ?_
    refine lv_bipush (v := 6) hx hb dL_law_27 (by decide) ?_
    refine lv_isub hx hb dL_law_29 ?_
    refine lv_topi (fun y_394 ey_394 => ?_)
    obtain rfl : y_394 = 0 := ey_394.trans (by decide)
    refine lv_icmp_gt (tgt := 954) hx hb dL_law_30 (by decide) (fun _ => ?_) (fun c_395 => by first | exact absurd c_395 (by decide) | exact absurd (by decide) c_395)
    refine lv_iconst (v := 1) hx hb dL_law_954 (by decide) ?_
    refine va_forget (fun q hq => hS.2.2 q hq) ?_
    refine W.widen (k := 600002) (n := 7302232) (Nat.le_of_ble_eq_true rfl) (Nat.le_of_ble_eq_true rfl) ?_
    exact lw_ret hx hb hr hlocks dL_law_955
