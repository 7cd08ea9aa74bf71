def sp_hr (u v : Int32) : Int32 := if sp_st u = 0 then -1 else if sp_st v = 0 then -1 else if u = v then 0 else -1
def gl (g : Nat) (j : Nat) : Int32 := if j = g then 0 else 1000000
theorem up_lt {t t' P : Nat → Int32} {k : Nat} {x : Int32} (e : t' = upd t (nI k).toNatClampNeg x) (hk : k < 12) (h : ∀ j, j < k → t j = P j) (hx : x = P k) : ∀ j, j < k + 1 → t' j = P j := by
  intro j hj
  rw [e, nI_clamp (by omega)]
  rcases Nat.lt_or_ge j k with q | q
  · rw [pk_un (by omega)]; exact h j q
  · have : j = k := by omega
    subst this
    rw [pk_us]; exact hx
theorem gl_eq {g k : Nat} (hk : k < 12) (hg : g < 12) (c : nI k = nI g) : (0 : Int32) = gl g k := by
  unfold gl
  rw [if_pos ((nI_eq (by omega) (by omega)).mp c)]
theorem gl_ne {g k : Nat} (c : ¬ nI k = nI g) : (1000000 : Int32) = gl g k := by
  unfold gl
  rw [if_neg (fun q => c (by rw [q]))]
theorem rd_k {t : Nat → Int32} {k n : Nat} {x : Int32} (h : ∀ j, j < n → t j = x) (hk : k < n) (hn : n ≤ 1000) : t (nI k).toNatClampNeg = x := by
  rw [nI_clamp (by omega)]; exact h k hk
theorem rd_g {t P : Nat → Int32} {k : Nat} (h : ∀ j, j < 12 → t j = P j) (hk : k < 12) : t (nI k).toNatClampNeg = P k := by
  rw [nI_clamp (by omega)]; exact h k hk
theorem st_nI {j : Nat} (h : j < 12) : ¬ sp_st (nI j) = 0 := by
  unfold sp_st
  have h2 : ¬ (12 : Int32) ≤ nI j := show ¬ nI 12 ≤ nI j from nI_ge h (by decide)
  rw [if_neg (nI_pos (by omega)), if_neg h2]
  decide
theorem nu_skip {g k : Nat} {near least v : Int32} (hv : v = gl g k) (hi : (k ≤ g → near = -1 ∧ least = 1000000) ∧ (g < k → near = nI g ∧ least = 0)) (c : least ≤ v) : (k + 1 ≤ g → near = -1 ∧ least = 1000000) ∧ (g < k + 1 → near = nI g ∧ least = 0) := by
  refine ⟨fun h => hi.1 (by omega), fun h => ?_⟩
  rcases Nat.lt_or_ge g k with q | q
  · exact hi.2 q
  · have : g = k := by omega
    subst this
    rw [(hi.1 (Nat.le_refl _)).2, hv] at c
    unfold gl at c
    rw [if_pos rfl] at c
    exact absurd c (by decide)
theorem nu_take {g k : Nat} {near least v : Int32} (hv : v = gl g k) (hi : (k ≤ g → near = -1 ∧ least = 1000000) ∧ (g < k → near = nI g ∧ least = 0)) (c : ¬ least ≤ v) : (k + 1 ≤ g → nI k = -1 ∧ v = 1000000) ∧ (g < k + 1 → nI k = nI g ∧ v = 0) := by
  have hkg : k = g := by
    rcases Nat.lt_trichotomy k g with q | q | q
    · rw [(hi.1 (by omega)).2, hv] at c
      unfold gl at c
      rw [if_neg (by omega)] at c
      exact absurd (by decide) c
    · exact q
    · rw [(hi.2 q).2, hv] at c
      unfold gl at c
      rw [if_neg (by omega)] at c
      exact absurd (by decide) c
  subst hkg
  refine ⟨fun h => absurd h (by omega), fun h => ⟨rfl, ?_⟩⟩
  rw [hv]; unfold gl; rw [if_pos rfl]

set_option maxHeartbeats 4000000 in
set_option maxRecDepth 100000 in
theorem c_X3_timeBetween (l : Launch) (dC : Nat → ClassId) (dI : Nat → Nat → Nat) (h0 : Nat) (b1 : Nat) (b2 : Nat) (b3 : Nat) (b4 : Nat) (b5 : Nat) (y1 : Nat) (g1 : ClassId) (ky : ClassId) (gf : Nat → Option Nat) (p0 : Int32) (p1 : Int32) (sz : Nat) (hy : ¬ sp_st p0 = 0 → gf p0.toNatClampNeg = some y1) : Met l yX3_timeBetween wsX3_timeBetween ({ frames := 1, cells := 0, slots := 0, locals := 20 }) (va_Pc [.ref h0, .int p0, .int p1] (cP dC dI [(h0, .inr (3, [.ref b1, .ref b2, .ref b3, .ref b4, .ref b5])), (b1, .inl (g1, 12, .inr (.inr (.inr (.inr gf))))), (y1, .inl (ky, 12, .inl (fun _ => 0)))] [(g1, .array .int), (ky, .int)] sz)) (vp_Si (fun r => r = (-1))) 0 0 (fun _ => False) := by
  refine Met.ofW (cc := cX3_timeBetween) (maxL := 3) (ret := (some .int)) (by decide) rfl ?_
  intro p e s m args below meth c s₁ B hml hv
  obtain ⟨rfl, hsz, hP, hK, hD0, hN⟩ := hv
  have hx := B.exec
  have hb := B.bytes
  have hr := B.returns
  have hts := atoms_spec (ws := wsX3_timeBetween) B.pre
  have hown : s.vm.findClass RX3 = some m.cls := findClass_of_methodNamed B.named
  have hlocks := B.notSynchronized
  subst hsz
  have hin3 : ∀ w ∈ u_ws RX3 TX3 5, w ∈ wsX3_timeBetween := by decide +kernel
  have hD := hD0
  have hP : va_P (dC, dI) vwCl [(h0, .inr (3, [.ref b1, .ref b2, .ref b3, .ref b4, .ref b5])), (b1, .inl (g1, 12, .inr (.inr (.inr (.inr gf))))), (y1, .inl (ky, 12, .inl (fun _ => 0)))] s.heap := hP
  have hl := lv_entry ([.ref h0, .int p0, .int p1]) (n := 3) (Nat.le_of_ble_eq_true rfl)
  rw [lg_entry_eq]
  generalize (lg_sl ([.ref h0, .int p0, .int p1]) ++ List.replicate (3 - (lg_sl ([.ref h0, .int p0, .int p1])).length) Slot.unset).toArray = ls at hl ⊢
  have hl : lv_has ls 3 [(0, .ref h0), (1, .int p0), (2, .int p1)] := hl
  refine lv_iload_n hx hb dX3_timeBetween_0 rfl (lv_at hl 1 rfl) ?_
  have hPc := hP.sub (ws' := []) [] rfl
  have hDc := hD.sub (ws' := []) [] (by decide) rfl
  have hKc := hK.sub (tys' := []) [] rfl
  refine cs_i (va_runSN (As := [.int p0]) (rest := []) ⟨hx, hb, hml, hown, hts⟩ (c_X8_isStation l dC dI p0 s.heap.size) ⟨va_cnB 1 hts ggX3_timeBetween_X8_isStation rfl rfl rfl (hN.1 (.methodLinkNest RX3 30 yX8_isStation "YamRiders") (by decide +kernel)) (hts (.initialized RX8) (by decide +kernel)) (by decide +kernel) ⟨Nat.le_of_ble_eq_true rfl, Nat.le_of_ble_eq_true rfl⟩, hts (.static yX8_isStation) (by decide +kernel), trivial⟩ ⟨c_blind, c_pre hPc hKc hDc hN⟩ rfl rfl hl.1 rfl (lv_room (Nat.le_of_ble_eq_true rfl)) dX3_timeBetween_1 ⟨Nat.le_of_ble_eq_true rfl, Nat.le_of_ble_eq_true rfl⟩) (fun r_1 hr_1 => ?_)
  subst hr_1
  refine lv_if_eq (tgt := 25) hx hb dX3_timeBetween_4 (by decide) (fun c_2 => ?_) (fun c_2 => ?_)
  · refine lv_iconst (v := (-1)) hx hb dX3_timeBetween_25 (by decide) ?_
    exact W.iret (v := (-1)) hx hb hr (fun t9 ht hW => ⟨_, rfl, rfl, ht⟩) (fun q h => nomatch h) dX3_timeBetween_26
  · refine lv_iload_n hx hb dX3_timeBetween_7 rfl (lv_at hl 2 rfl) ?_
    have hPc := hP.sub (ws' := []) [] rfl
    have hDc := hD.sub (ws' := []) [] (by decide) rfl
    have hKc := hK.sub (tys' := []) [] rfl
    refine cs_i (va_runSN (As := [.int p1]) (rest := []) ⟨hx, hb, hml, hown, hts⟩ (c_X8_isStation l dC dI p1 s.heap.size) ⟨va_cnB 1 hts ggX3_timeBetween_X8_isStation rfl rfl rfl (hN.1 (.methodLinkNest RX3 30 yX8_isStation "YamRiders") (by decide +kernel)) (hts (.initialized RX8) (by decide +kernel)) (by decide +kernel) ⟨Nat.le_of_ble_eq_true rfl, Nat.le_of_ble_eq_true rfl⟩, hts (.static yX8_isStation) (by decide +kernel), trivial⟩ ⟨c_blind, c_pre hPc hKc hDc hN⟩ rfl rfl hl.1 rfl (lv_room (Nat.le_of_ble_eq_true rfl)) dX3_timeBetween_8 ⟨Nat.le_of_ble_eq_true rfl, Nat.le_of_ble_eq_true rfl⟩) (fun r_3 hr_3 => ?_)
    subst hr_3
    refine lv_if_eq (tgt := 25) hx hb dX3_timeBetween_11 (by decide) (fun c_4 => ?_) (fun c_4 => ?_)
    · refine lv_iconst (v := (-1)) hx hb dX3_timeBetween_25 (by decide) ?_
      exact W.iret (v := (-1)) hx hb hr (fun t9 ht hW => ⟨_, rfl, rfl, ht⟩) (fun q h => nomatch h) dX3_timeBetween_26
    · refine lv_aload_n hx hb dX3_timeBetween_14 rfl (lv_at hl 0 rfl) ?_
      refine va_get (D := (dC, dI)) (ci := 3) (v := .ref b1) (C := RX3) (T := TX3) (N := 5) hx hb hts hin3 hown hK hP 0 rfl rfl 0 (by decide) (hts (.fieldLink RX3 11 "YamRiders$Roads" "hoursOf" "[[I") (by decide +kernel)) (fun _ h9 => h9) rfl dX3_timeBetween_15 ?_
      refine lv_iload_n hx hb dX3_timeBetween_18 rfl (lv_at hl 1 rfl) ?_
      refine va_aldg hx hb hK hP 1 0 rfl rfl (st_in c_2) (hy c_2) dX3_timeBetween_19 ?_
      refine lv_iload_n hx hb dX3_timeBetween_20 rfl (lv_at hl 2 rfl) ?_
      refine va_iald hx hb hK hP 2 1 rfl rfl (st_in c_4) dX3_timeBetween_21 ?_
      refine lv_topi (fun v_5 ev_5 => ?_)
      obtain rfl : v_5 = 0 := ev_5.trans rfl
      refine lv_if_ne (tgt := 27) hx hb dX3_timeBetween_22 (by decide) (fun c_6 => by first | exact absurd c_6 (by decide) | exact absurd (by decide) c_6) (fun _ => ?_)
      refine lv_iconst (v := (-1)) hx hb dX3_timeBetween_25 (by decide) ?_
      exact W.iret (v := (-1)) hx hb hr (fun t9 ht hW => ⟨_, rfl, rfl, ht⟩) (fun q h => nomatch h) dX3_timeBetween_26

set_option maxHeartbeats 4000000 in
set_option maxRecDepth 100000 in
theorem c_X3_settle (l : Launch) (dC : Nat → ClassId) (dI : Nat → Nat → Nat) (h0 : Nat) (b1 : Nat) (b2 : Nat) (b3 : Nat) (b4 : Nat) (b5 : Nat) (y1 : Nat) (g1 : ClassId) (ky : ClassId) (gf : Nat → Option Nat) (kz : ClassId) (z : Nat → Int32) (g : Nat) (sz : Nat) (hg : g < 12) (hy : gf (nI g).toNatClampNeg = some y1) : Met l yX3_settle wsX3_settle ({ frames := 2, cells := 0, slots := 0, locals := 42 }) (va_Pc [.ref h0, .int (nI g)] (cP dC dI [(h0, .inr (3, [.ref b1, .ref b2, .ref b3, .ref b4, .ref b5])), (b1, .inl (g1, 12, .inr (.inr (.inr (.inr gf))))), (y1, .inl (ky, 12, .inl (fun _ => 0))), (b4, .inl (kz, 12, .inl z))] [(g1, .array .int), (ky, .int), (kz, .boolean)] sz)) (va_Qv (fun (_ : Unit) => True) (fun (_ : Unit) t9 => ∃ (z2 : Nat → Int32), (z2 = upd z (nI g).toNatClampNeg (vp_nar .boolean 1)) ∧ cQ dC dI [(h0, .inr (3, [.ref b1, .ref b2, .ref b3, .ref b4, .ref b5])), (b1, .inl (g1, 12, .inr (.inr (.inr (.inr gf))))), (y1, .inl (ky, 12, .inl (fun _ => 0))), (b4, .inl (kz, 12, .inl z2))] [] (va_A [(h0, .inr (3, [.ref b1, .ref b2, .ref b3, .ref b4, .ref b5])), (b1, .inl (g1, 12, .inr (.inr (.inr (.inr gf))))), (y1, .inl (ky, 12, .inl (fun _ => 0))), (b4, .inl (kz, 12, .inl z))] sz) t9) (va_A [(h0, .inr (3, [.ref b1, .ref b2, .ref b3, .ref b4, .ref b5])), (b1, .inl (g1, 12, .inr (.inr (.inr (.inr gf))))), (y1, .inl (ky, 12, .inl (fun _ => 0))), (b4, .inl (kz, 12, .inl z))] sz)) 0 0 (va_A [(h0, .inr (3, [.ref b1, .ref b2, .ref b3, .ref b4, .ref b5])), (b1, .inl (g1, 12, .inr (.inr (.inr (.inr gf))))), (y1, .inl (ky, 12, .inl (fun _ => 0))), (b4, .inl (kz, 12, .inl z))] sz) := by
  refine Met.ofW (cc := cX3_settle) (maxL := 4) (ret := none) (by decide) rfl ?_
  intro p e s m args below meth c s₁ B hml hv
  obtain ⟨rfl, hsz, hP, hK, hD0, hN⟩ := hv
  have hx := B.exec
  have hb := B.bytes
  have hr := B.returns
  have hts := atoms_spec (ws := wsX3_settle) B.pre
  have hown : s.vm.findClass RX3 = some m.cls := findClass_of_methodNamed B.named
  have hlocks := B.notSynchronized
  subst hsz
  have hin3 : ∀ w ∈ u_ws RX3 TX3 5, w ∈ wsX3_settle := by decide +kernel
  have hD := hD0.self (sz := s.heap.size)
  generalize hAe : va_A [(h0, .inr (3, [.ref b1, .ref b2, .ref b3, .ref b4, .ref b5])), (b1, .inl (g1, 12, .inr (.inr (.inr (.inr gf))))), (y1, .inl (ky, 12, .inl (fun _ => 0))), (b4, .inl (kz, 12, .inl z))] s.heap.size = A at hD ⊢
  have hA : ∀ q : Nat, s.heap.size ≤ q → A q := fun q h => by rw [← hAe]; exact Or.inr h
  have hS : va_S A s.heap s.heap [] := va_S.rf
  have hP : va_P (dC, dI) vwCl [(h0, .inr (3, [.ref b1, .ref b2, .ref b3, .ref b4, .ref b5])), (b1, .inl (g1, 12, .inr (.inr (.inr (.inr gf))))), (y1, .inl (ky, 12, .inl (fun _ => 0))), (b4, .inl (kz, 12, .inl z))] s.heap := hP
  have hl := lv_entry ([.ref h0, .int (nI g)]) (n := 4) (Nat.le_of_ble_eq_true rfl)
  rw [lg_entry_eq]
  generalize (lg_sl ([.ref h0, .int (nI g)]) ++ List.replicate (4 - (lg_sl ([.ref h0, .int (nI g)])).length) Slot.unset).toArray = ls at hl ⊢
  have hl : lv_has ls 4 [(0, .ref h0), (1, .int (nI g))] := hl
  refine lv_iload_n hx hb dX3_settle_0 rfl (lv_at hl 1 rfl) ?_
  have hPc := hP.sub (ws' := []) [] rfl
  have hDc := hD.sub (ws' := []) [] (by decide) rfl
  have hKc := hK.sub (tys' := []) [] rfl
  refine cs_i (va_runSN (As := [.int (nI g)]) (rest := []) ⟨hx, hb, hml, hown, hts⟩ (c_X8_isStation l dC dI (nI g) s.heap.size) ⟨va_cnB 1 hts ggX3_settle_X8_isStation rfl rfl rfl (hN.1 (.methodLinkNest RX3 30 yX8_isStation "YamRiders") (by decide +kernel)) (hts (.initialized RX8) (by decide +kernel)) (by decide +kernel) ⟨Nat.le_of_ble_eq_true rfl, Nat.le_of_ble_eq_true rfl⟩, hts (.static yX8_isStation) (by decide +kernel), trivial⟩ ⟨c_blind, c_pre hPc hKc hDc hN⟩ rfl rfl hl.1 rfl (lv_room (Nat.le_of_ble_eq_true rfl)) dX3_settle_1 ⟨Nat.le_of_ble_eq_true rfl, Nat.le_of_ble_eq_true rfl⟩) (fun r_1 hr_1 => ?_)
  subst hr_1
  refine lv_if_ne (tgt := 8) hx hb dX3_settle_4 (by decide) (fun _ => ?_) (fun c_2 => by first | exact absurd c_2 (st_nI hg) | exact absurd (st_nI hg) c_2)
  refine lv_aload_n hx hb dX3_settle_8 rfl (lv_at hl 0 rfl) ?_
  refine va_get (D := (dC, dI)) (ci := 3) (v := .ref b4) (C := RX3) (T := TX3) (N := 5) hx hb hts hin3 hown hK hP 0 rfl rfl 3 (by decide) (hts (.fieldLink RX3 23 "YamRiders$Roads" "settled" "[Z") (by decide +kernel)) (fun _ h9 => h9) rfl dX3_settle_9 ?_
  refine lv_iload_n hx hb dX3_settle_12 rfl (lv_at hl 1 rfl) ?_
  refine lv_iconst (v := 1) hx hb dX3_settle_13 (by decide) ?_
  refine va_zast hx hb hK hP hD hS 3 2 rfl rfl (vp_in_nI hg (by decide)) dX3_settle_14 (fun H locs hP hD hS => ?_)
  have hP : va_P (dC, dI) vwCl [(h0, .inr (3, [.ref b1, .ref b2, .ref b3, .ref b4, .ref b5])), (b1, .inl (g1, 12, .inr (.inr (.inr (.inr gf))))), (y1, .inl (ky, 12, .inl (fun _ => 0))), (b4, .inl (kz, 12, .inl (upd z (nI g).toNatClampNeg (vp_nar .boolean 1))))] H := hP
  have hD : va_D A [(h0, .inr (3, [.ref b1, .ref b2, .ref b3, .ref b4, .ref b5])), (b1, .inl (g1, 12, .inr (.inr (.inr (.inr gf))))), (y1, .inl (ky, 12, .inl (fun _ => 0))), (b4, .inl (kz, 12, .inl (upd z (nI g).toNatClampNeg (vp_nar .boolean 1))))] := hD
  obtain ⟨f_3, ef_3⟩ : ∃ w9 : Nat → Int32, w9 = upd z (nI g).toNatClampNeg (vp_nar .boolean 1) := ⟨_, rfl⟩
  rw [← ef_3] at hP hD
  refine lv_iconst (v := 0) hx hb dX3_settle_15 (by decide) ?_
  refine lv_istore_n (lv' := [(2, .int 0), (0, .ref h0), (1, .int (nI g))]) hx hb dX3_settle_16 rfl hl (by decide) rfl (fun ls hl => ?_)
  have HL : ∀ (n k : Nat), k ≤ 12 → 12 + 1 ≤ k + n → ∀ (H : Heap) (locs : List Loc), va_P (dC, dI) vwCl [(h0, .inr (3, [.ref b1, .ref b2, .ref b3, .ref b4, .ref b5])), (b1, .inl (g1, 12, .inr (.inr (.inr (.inr gf))))), (y1, .inl (ky, 12, .inl (fun _ => 0))), (b4, .inl (kz, 12, .inl f_3))] H → va_D A [(h0, .inr (3, [.ref b1, .ref b2, .ref b3, .ref b4, .ref b5])), (b1, .inl (g1, 12, .inr (.inr (.inr (.inr gf))))), (y1, .inl (ky, 12, .inl (fun _ => 0))), (b4, .inl (kz, 12, .inl f_3))] → va_S A s.heap H locs → ∀ ls : Array Slot, lv_has ls 4 [(0, .ref h0), (1, .int (nI g)), (2, .int (nI k))] → W p l e (headSpec wsX3_settle ({ frames := 2, cells := 0, slots := 0, locals := 42 })).room s m ([.ref h0, .int (nI g)]).toArray below meth c H locs 0 0 (MQ below (va_Qv (fun (_ : Unit) => True) (fun (_ : Unit) t9 => ∃ (z2 : Nat → Int32), (z2 = upd z (nI g).toNatClampNeg (vp_nar .boolean 1)) ∧ cQ dC dI [(h0, .inr (3, [.ref b1, .ref b2, .ref b3, .ref b4, .ref b5])), (b1, .inl (g1, 12, .inr (.inr (.inr (.inr gf))))), (y1, .inl (ky, 12, .inl (fun _ => 0))), (b4, .inl (kz, 12, .inl z2))] [] A t9) A) ([.ref h0, .int (nI g)]).toArray s 0 0 A) (F0 m 17 ls []) := by
    intro n
    induction n with
    | zero => intro k h1 h2; exact absurd h2 (by omega)
    | succ n ih =>
      intro k hk hn H locs hP hD hS ls hl
      refine lv_iload_n hx hb dX3_settle_17 rfl (lv_at hl 2 rfl) ?_
      refine lv_bipush (v := 12) hx hb dX3_settle_18 (by decide) ?_
      refine lv_icmp_ge (tgt := 72) hx hb dX3_settle_20 (by decide) (fun c_4 => ?_) (fun c_4 => ?_)
      · have hke : k = 12 := by
          rcases Nat.lt_or_ge k 12 with q | q
          · exact absurd c_4 (nI_ge q (by decide))
          · omega
        have hP9 := hP.sub (ws' := [(h0, .inr (3, [.ref b1, .ref b2, .ref b3, .ref b4, .ref b5])), (b1, .inl (g1, 12, .inr (.inr (.inr (.inr gf))))), (y1, .inl (ky, 12, .inl (fun _ => 0))), (b4, .inl (kz, 12, .inl f_3))]) [0, 1, 2, 3] rfl
        have hD9 := hD.sub (ws' := [(h0, .inr (3, [.ref b1, .ref b2, .ref b3, .ref b4, .ref b5])), (b1, .inl (g1, 12, .inr (.inr (.inr (.inr gf))))), (y1, .inl (ky, 12, .inl (fun _ => 0))), (b4, .inl (kz, 12, .inl f_3))]) [0, 1, 2, 3] (by decide) rfl
        have hK9 := hK.sub (tys' := []) [] rfl
        refine W.widen (k := 0) (n := 0) (Nat.le_of_ble_eq_true rfl) (Nat.le_of_ble_eq_true rfl) ?_
        exact W.vret hx hb hr (fun t9 ht hW => ⟨⟨(), rfl, trivial, f_3, ef_3, by rw [ht]; exact hP9, va_K.moved hW.alike hK9, hD9⟩, hS.F ht⟩) hS.2.2 dX3_settle_72
      · have hlt : k < 12 := by
          rcases Nat.lt_or_ge k 12 with q | q
          · exact q
          · exact absurd (show nI 12 ≤ nI k from nI_le q (by omega)) c_4
        refine lv_aload_n hx hb dX3_settle_23 rfl (lv_at hl 0 rfl) ?_
        refine lv_iload_n hx hb dX3_settle_24 rfl (lv_at hl 1 rfl) ?_
        refine lv_iload_n hx hb dX3_settle_25 rfl (lv_at hl 2 rfl) ?_
        have hPc := hP.sub (ws' := [(h0, .inr (3, [.ref b1, .ref b2, .ref b3, .ref b4, .ref b5])), (b1, .inl (g1, 12, .inr (.inr (.inr (.inr gf))))), (y1, .inl (ky, 12, .inl (fun _ => 0)))]) [0, 1, 2] rfl
        have hDc := hD.sub (ws' := [(h0, .inr (3, [.ref b1, .ref b2, .ref b3, .ref b4, .ref b5])), (b1, .inl (g1, 12, .inr (.inr (.inr (.inr gf))))), (y1, .inl (ky, 12, .inl (fun _ => 0)))]) [0, 1, 2] (by decide) rfl
        have hKc := hK.sub (tys' := [(g1, .array .int), (ky, .int)]) [0, 1] rfl
        refine cs_i (va_runV (As := [.int (nI g), .int (nI k)]) (rest := []) ⟨hx, hb, hml, hown, hts⟩ (c_X3_timeBetween l dC dI h0 b1 b2 b3 b4 b5 y1 g1 ky gf (nI g) (nI k) H.size (fun _ => hy)) (cwV 2 hts gX3_settle_X3_timeBetween rfl rfl rfl (by decide +kernel) ⟨Nat.le_of_ble_eq_true rfl, Nat.le_of_ble_eq_true rfl⟩) ⟨c_blind, va_recv hKc hPc (ci := 3) (q0 := 0) rfl rfl, c_pre hPc hKc hDc hN⟩ rfl rfl hl.1 rfl (lv_room (Nat.le_of_ble_eq_true rfl)) dX3_settle_26 ⟨Nat.le_of_ble_eq_true rfl, Nat.le_of_ble_eq_true rfl⟩) (fun r_5 hr_5 => ?_)
        subst hr_5
        refine lv_istore_n (lv' := [(3, .int (-1)), (0, .ref h0), (1, .int (nI g)), (2, .int (nI k))]) hx hb dX3_settle_29 rfl hl (by decide) rfl (fun ls hl => ?_)
        refine lv_iload_n hx hb dX3_settle_30 rfl (lv_at hl 0 rfl) ?_
        refine lv_iconst (v := (-1)) hx hb dX3_settle_31 (by decide) ?_
        refine lv_icmp_eq (tgt := 66) hx hb dX3_settle_32 (by decide) (fun _ => ?_) (fun c_6 => by first | exact absurd c_6 (by decide) | exact absurd (by decide) c_6)
        refine lv_iinc (v := nI (k + 1)) (lv' := [(2, .int (nI (k + 1))), (3, .int (-1)), (0, .ref h0), (1, .int (nI g))]) hx hb dX3_settle_66 hl (k := 3) rfl (by exact (nI_1 k)) (by decide) rfl (fun ls hl => ?_)
        refine lv_goto (tgt := 17) hx hb dX3_settle_69 (by decide) ?_
        exact ih (k + 1) (by omega) (by omega) _ _ (hP.sub [0, 1, 2, 3] rfl) (hD.sub [0, 1, 2, 3] (by decide) rfl) hS ls (lv_sub hl [2, 3, 0] rfl)
  exact HL 13 0 (by omega) (by omega) _ _ (hP.sub [0, 1, 2, 3] rfl) (hD.sub [0, 1, 2, 3] (by decide) rfl) hS ls (lv_sub hl [1, 2, 0] rfl)

set_option maxHeartbeats 4000000 in
set_option maxRecDepth 100000 in
theorem c_X3_nearest_a (l : Launch) (dC : Nat → ClassId) (dI : Nat → Nat → Nat) (h0 : Nat) (b1 : Nat) (b2 : Nat) (b3 : Nat) (b4 : Nat) (b5 : Nat) (kt : ClassId) (kz : ClassId) (t : Nat → Int32) (z : Nat → Int32) (g : Nat) (sz : Nat) (hg : g < 12) (htg : ∀ j, j < 12 → t j = gl g j) (hz : ∀ j, j < 12 → z j = 0) : Met l yX3_nearestUnsettled wsX3_nearestUnsettled ({ frames := 0, cells := 0, slots := 0, locals := 0 }) (va_Pc [.ref h0] (cP dC dI [(h0, .inr (3, [.ref b1, .ref b2, .ref b3, .ref b4, .ref b5])), (b3, .inl (kt, 12, .inl t)), (b4, .inl (kz, 12, .inl z))] [(kt, .int), (kz, .boolean)] sz)) (vp_Si (fun r => r = nI g)) 0 0 (fun _ => False) := by
  refine Met.ofW (cc := cX3_nearestUnsettled) (maxL := 4) (ret := (some .int)) (by decide) rfl ?_
  intro p e s m args below meth c s₁ B hml hv
  obtain ⟨rfl, hsz, hP, hK, hD0, hN⟩ := hv
  have hx := B.exec
  have hb := B.bytes
  have hr := B.returns
  have hts := atoms_spec (ws := wsX3_nearestUnsettled) B.pre
  have hown : s.vm.findClass RX3 = some m.cls := findClass_of_methodNamed B.named
  have hlocks := B.notSynchronized
  subst hsz
  have hin3 : ∀ w ∈ u_ws RX3 TX3 5, w ∈ wsX3_nearestUnsettled := by decide +kernel
  have hD := hD0
  have hP : va_P (dC, dI) vwCl [(h0, .inr (3, [.ref b1, .ref b2, .ref b3, .ref b4, .ref b5])), (b3, .inl (kt, 12, .inl t)), (b4, .inl (kz, 12, .inl z))] s.heap := hP
  have hl := lv_entry ([.ref h0]) (n := 4) (Nat.le_of_ble_eq_true rfl)
  rw [lg_entry_eq]
  generalize (lg_sl ([.ref h0]) ++ List.replicate (4 - (lg_sl ([.ref h0])).length) Slot.unset).toArray = ls at hl ⊢
  have hl : lv_has ls 4 [(0, .ref h0)] := hl
  refine lv_iconst (v := (-1)) hx hb dX3_nearestUnsettled_0 (by decide) ?_
  refine lv_istore_n (lv' := [(1, .int (-1)), (0, .ref h0)]) hx hb dX3_nearestUnsettled_1 rfl hl (by decide) rfl (fun ls hl => ?_)
  refine lv_ldc (v := 1000000) hx hb hown (hts (.constant RX3 42 (1000000)) (by decide +kernel)) dX3_nearestUnsettled_2 ?_
  refine lv_istore_n (lv' := [(2, .int 1000000), (1, .int (-1)), (0, .ref h0)]) hx hb dX3_nearestUnsettled_4 rfl hl (by decide) rfl (fun ls hl => ?_)
  refine lv_iconst (v := 0) hx hb dX3_nearestUnsettled_5 (by decide) ?_
  refine lv_istore_n (lv' := [(3, .int 0), (2, .int 1000000), (1, .int (-1)), (0, .ref h0)]) hx hb dX3_nearestUnsettled_6 rfl hl (by decide) rfl (fun ls hl => ?_)
  have HL : ∀ (n k : Nat) (near : Int32) (least : Int32), k ≤ 12 → 12 + 1 ≤ k + n → ((k ≤ g → near = -1 ∧ least = 1000000) ∧ (g < k → near = nI g ∧ least = 0)) → ∀ ls : Array Slot, lv_has ls 4 [(0, .ref h0), (1, .int near), (2, .int least), (3, .int (nI k))] → W p l e (headSpec wsX3_nearestUnsettled ({ frames := 0, cells := 0, slots := 0, locals := 0 })).room s m ([.ref h0]).toArray below meth c s.heap [] 0 0 (MQ below (vp_Si (fun r => r = nI g)) ([.ref h0]).toArray s 0 0 (fun _ => False)) (F0 m 7 ls []) := by
    intro n
    induction n with
    | zero => intro k near least h1 h2; exact absurd h2 (by omega)
    | succ n ih =>
      intro k near least hk hn hi ls hl
      refine lv_iload_n hx hb dX3_nearestUnsettled_7 rfl (lv_at hl 3 rfl) ?_
      refine lv_bipush (v := 12) hx hb dX3_nearestUnsettled_8 (by decide) ?_
      refine lv_icmp_ge (tgt := 47) hx hb dX3_nearestUnsettled_10 (by decide) (fun c_1 => ?_) (fun c_1 => ?_)
      · have hke : k = 12 := by
          rcases Nat.lt_or_ge k 12 with q | q
          · exact absurd c_1 (nI_ge q (by decide))
          · omega
        refine lv_iload_n hx hb dX3_nearestUnsettled_47 rfl (lv_at hl 1 rfl) ?_
        exact W.iret (v := near) hx hb hr (fun t9 ht hW => ⟨_, rfl, (hi.2 (by omega)).1, ht⟩) (fun q h => nomatch h) dX3_nearestUnsettled_48
      · have hlt : k < 12 := by
          rcases Nat.lt_or_ge k 12 with q | q
          · exact q
          · exact absurd (show nI 12 ≤ nI k from nI_le q (by omega)) c_1
        refine lv_aload_n hx hb dX3_nearestUnsettled_13 rfl (lv_at hl 0 rfl) ?_
        refine va_get (D := (dC, dI)) (ci := 3) (v := .ref b4) (C := RX3) (T := TX3) (N := 5) hx hb hts hin3 hown hK hP 0 rfl rfl 3 (by decide) (hts (.fieldLink RX3 23 "YamRiders$Roads" "settled" "[Z") (by decide +kernel)) (fun _ h9 => h9) rfl dX3_nearestUnsettled_14 ?_
        refine lv_iload_n hx hb dX3_nearestUnsettled_17 rfl (lv_at hl 3 rfl) ?_
        refine va_zald hx hb hK hP 2 1 rfl rfl (vp_in_nI hlt (by decide)) dX3_nearestUnsettled_18 ?_
        refine lv_topi (fun v_2 ev_2 => ?_)
        obtain rfl : v_2 = 0 := ev_2.trans (rd_k hz hlt (by decide))
        refine lv_if_ne (tgt := 41) hx hb dX3_nearestUnsettled_19 (by decide) (fun c_3 => by first | exact absurd c_3 (by decide) | exact absurd (by decide) c_3) (fun _ => ?_)
        refine lv_aload_n hx hb dX3_nearestUnsettled_22 rfl (lv_at hl 0 rfl) ?_
        refine va_get (D := (dC, dI)) (ci := 3) (v := .ref b3) (C := RX3) (T := TX3) (N := 5) hx hb hts hin3 hown hK hP 0 rfl rfl 2 (by decide) (hts (.fieldLink RX3 19 "YamRiders$Roads" "toGoal" "[I") (by decide +kernel)) (fun _ h9 => h9) rfl dX3_nearestUnsettled_23 ?_
        refine lv_iload_n hx hb dX3_nearestUnsettled_26 rfl (lv_at hl 3 rfl) ?_
        refine va_iald hx hb hK hP 1 0 rfl rfl (vp_in_nI hlt (by decide)) dX3_nearestUnsettled_27 ?_
        refine lv_topi (fun v_4 ev_4 => ?_)
        refine lv_iload_n hx hb dX3_nearestUnsettled_28 rfl (lv_at hl 2 rfl) ?_
        refine lv_icmp_ge (tgt := 41) hx hb dX3_nearestUnsettled_29 (by decide) (fun c_5 => ?_) (fun c_5 => ?_)
        · refine lv_iinc (v := nI (k + 1)) (lv' := [(3, .int (nI (k + 1))), (0, .ref h0), (1, .int near), (2, .int least)]) hx hb dX3_nearestUnsettled_41 hl (k := 3) rfl (by exact (nI_1 k)) (by decide) rfl (fun ls hl => ?_)
          refine lv_goto (tgt := 7) hx hb dX3_nearestUnsettled_44 (by decide) ?_
          exact ih (k + 1) near least (by omega) (by omega) (nu_skip (ev_4.trans (rd_g htg hlt)) hi c_5) ls (lv_sub hl [1, 2, 3, 0] rfl)
        · refine lv_iload_n hx hb dX3_nearestUnsettled_32 rfl (lv_at hl 3 rfl) ?_
          refine lv_istore_n (lv' := [(1, .int (nI k)), (0, .ref h0), (2, .int least), (3, .int (nI k))]) hx hb dX3_nearestUnsettled_33 rfl hl (by decide) rfl (fun ls hl => ?_)
          refine lv_aload_n hx hb dX3_nearestUnsettled_34 rfl (lv_at hl 1 rfl) ?_
          refine va_get (D := (dC, dI)) (ci := 3) (v := .ref b3) (C := RX3) (T := TX3) (N := 5) hx hb hts hin3 hown hK hP 0 rfl rfl 2 (by decide) (hts (.fieldLink RX3 19 "YamRiders$Roads" "toGoal" "[I") (by decide +kernel)) (fun _ h9 => h9) rfl dX3_nearestUnsettled_35 ?_
          refine lv_iload_n hx hb dX3_nearestUnsettled_38 rfl (lv_at hl 3 rfl) ?_
          refine va_iald hx hb hK hP 1 0 rfl rfl (vp_in_nI hlt (by decide)) dX3_nearestUnsettled_39 ?_
          refine lv_topi (fun v_6 ev_6 => ?_)
          refine lv_istore_n (lv' := [(2, .int v_6), (1, .int (nI k)), (0, .ref h0), (3, .int (nI k))]) hx hb dX3_nearestUnsettled_40 rfl hl (by decide) rfl (fun ls hl => ?_)
          refine lv_iinc (v := nI (k + 1)) (lv' := [(3, .int (nI (k + 1))), (2, .int v_6), (1, .int (nI k)), (0, .ref h0)]) hx hb dX3_nearestUnsettled_41 hl (k := 3) rfl (by exact (nI_1 k)) (by decide) rfl (fun ls hl => ?_)
          refine lv_goto (tgt := 7) hx hb dX3_nearestUnsettled_44 (by decide) ?_
          exact ih (k + 1) (nI k) v_6 (by omega) (by omega) (by have h9 := nu_take (ev_4.trans (rd_g htg hlt)) hi c_5; rw [show v_6 = v_4 from ev_6.trans ev_4.symm]; exact h9) ls (lv_sub hl [3, 2, 1, 0] rfl)
  exact HL 13 0 (-1) 1000000 (by omega) (by omega) ⟨fun _ => ⟨rfl, rfl⟩, fun h => absurd h (by omega)⟩ ls (lv_sub hl [3, 2, 1, 0] rfl)

def zl (g : Nat) (j : Nat) : Int32 := if j = g then 1 else 0
theorem nb_far {g k : Nat} {v x : Int32} (hv : v = zl g k) (c : v = 0) (hx : x = gl g k) : x = 1000000 := by
  have hkg : ¬ k = g := fun q => by
    rw [hv] at c; unfold zl at c; rw [if_pos q] at c; exact absurd c (by decide)
  rw [hx]; unfold gl; rw [if_neg hkg]
theorem zl_of {g : Nat} {z z2 : Nat → Int32} (e : z2 = upd z (nI g).toNatClampNeg (vp_nar .boolean 1)) (hz : ∀ j, j < 12 → z j = 0) (hg : g < 12) : ∀ j, j < 12 → z2 j = zl g j := by
  intro j hj
  rw [e, nI_clamp (by omega)]
  unfold zl
  by_cases q : j = g
  · subst q; rw [pk_us, if_pos rfl]; rfl
  · rw [pk_un q, if_neg q]; exact hz j hj
theorem nI_nm1 {g : Nat} (hg : g < 12) : ¬ nI g = -1 := fun q => absurd (show nI g < 0 by rw [q]; decide) (nI_pos (by omega))
theorem up_z {z z' : Nat → Int32} {k : Nat} (e : z' = upd z (nI k).toNatClampNeg (vp_nar .boolean 0)) (hk : k < 12) (h : ∀ j, j < k → z j = 0) : ∀ j, j < k + 1 → z' j = 0 := up_lt (P := fun _ => 0) e hk h rfl
theorem hr_far {a g : Nat} {v : Int32} (ha : a < 12) (hg : g < 12) (hv : v = gl g a) (c : 1000000 ≤ v) : -1 = sp_hr (nI a) (nI g) := by
  unfold sp_hr
  rw [if_neg (st_nI ha), if_neg (st_nI hg)]
  by_cases q : nI a = nI g
  · have q2 := (nI_eq (by omega) (by omega)).mp q
    rw [hv] at c; unfold gl at c; rw [if_pos q2] at c; exact absurd c (by decide)
  · rw [if_neg q]
theorem hr_near {a g : Nat} {v w : Int32} (ha : a < 12) (hg : g < 12) (hv : v = gl g a) (hw : w = gl g a) (c : ¬ 1000000 ≤ v) : w = sp_hr (nI a) (nI g) := by
  unfold sp_hr
  rw [if_neg (st_nI ha), if_neg (st_nI hg)]
  by_cases q : a = g
  · rw [if_pos (by rw [q]), hw]; unfold gl; rw [if_pos q]
  · rw [hv] at c; unfold gl at c; rw [if_neg q] at c; exact absurd (by decide) c

set_option maxHeartbeats 4000000 in
set_option maxRecDepth 100000 in
theorem c_X3_nearest_b (l : Launch) (dC : Nat → ClassId) (dI : Nat → Nat → Nat) (h0 : Nat) (b1 : Nat) (b2 : Nat) (b3 : Nat) (b4 : Nat) (b5 : Nat) (kt : ClassId) (kz : ClassId) (t : Nat → Int32) (z : Nat → Int32) (g : Nat) (sz : Nat) (hg : g < 12) (htg : ∀ j, j < 12 → t j = gl g j) (hz : ∀ j, j < 12 → z j = zl g j) : Met l yX3_nearestUnsettled wsX3_nearestUnsettled ({ frames := 0, cells := 0, slots := 0, locals := 0 }) (va_Pc [.ref h0] (cP dC dI [(h0, .inr (3, [.ref b1, .ref b2, .ref b3, .ref b4, .ref b5])), (b3, .inl (kt, 12, .inl t)), (b4, .inl (kz, 12, .inl z))] [(kt, .int), (kz, .boolean)] sz)) (vp_Si (fun r => r = (-1))) 0 0 (fun _ => False) := by
  refine Met.ofW (cc := cX3_nearestUnsettled) (maxL := 4) (ret := (some .int)) (by decide) rfl ?_
  intro p e s m args below meth c s₁ B hml hv
  obtain ⟨rfl, hsz, hP, hK, hD0, hN⟩ := hv
  have hx := B.exec
  have hb := B.bytes
  have hr := B.returns
  have hts := atoms_spec (ws := wsX3_nearestUnsettled) B.pre
  have hown : s.vm.findClass RX3 = some m.cls := findClass_of_methodNamed B.named
  have hlocks := B.notSynchronized
  subst hsz
  have hin3 : ∀ w ∈ u_ws RX3 TX3 5, w ∈ wsX3_nearestUnsettled := by decide +kernel
  have hD := hD0
  have hP : va_P (dC, dI) vwCl [(h0, .inr (3, [.ref b1, .ref b2, .ref b3, .ref b4, .ref b5])), (b3, .inl (kt, 12, .inl t)), (b4, .inl (kz, 12, .inl z))] s.heap := hP
  have hl := lv_entry ([.ref h0]) (n := 4) (Nat.le_of_ble_eq_true rfl)
  rw [lg_entry_eq]
  generalize (lg_sl ([.ref h0]) ++ List.replicate (4 - (lg_sl ([.ref h0])).length) Slot.unset).toArray = ls at hl ⊢
  have hl : lv_has ls 4 [(0, .ref h0)] := hl
  refine lv_iconst (v := (-1)) hx hb dX3_nearestUnsettled_0 (by decide) ?_
  refine lv_istore_n (lv' := [(1, .int (-1)), (0, .ref h0)]) hx hb dX3_nearestUnsettled_1 rfl hl (by decide) rfl (fun ls hl => ?_)
  refine lv_ldc (v := 1000000) hx hb hown (hts (.constant RX3 42 (1000000)) (by decide +kernel)) dX3_nearestUnsettled_2 ?_
  refine lv_istore_n (lv' := [(2, .int 1000000), (1, .int (-1)), (0, .ref h0)]) hx hb dX3_nearestUnsettled_4 rfl hl (by decide) rfl (fun ls hl => ?_)
  refine lv_iconst (v := 0) hx hb dX3_nearestUnsettled_5 (by decide) ?_
  refine lv_istore_n (lv' := [(3, .int 0), (2, .int 1000000), (1, .int (-1)), (0, .ref h0)]) hx hb dX3_nearestUnsettled_6 rfl hl (by decide) rfl (fun ls hl => ?_)
  have HL : ∀ (n k : Nat), k ≤ 12 → 12 + 1 ≤ k + n → ∀ ls : Array Slot, lv_has ls 4 [(0, .ref h0), (1, .int (-1)), (2, .int 1000000), (3, .int (nI k))] → W p l e (headSpec wsX3_nearestUnsettled ({ frames := 0, cells := 0, slots := 0, locals := 0 })).room s m ([.ref h0]).toArray below meth c s.heap [] 0 0 (MQ below (vp_Si (fun r => r = (-1))) ([.ref h0]).toArray s 0 0 (fun _ => False)) (F0 m 7 ls []) := by
    intro n
    induction n with
    | zero => intro k h1 h2; exact absurd h2 (by omega)
    | succ n ih =>
      intro k hk hn ls hl
      refine lv_iload_n hx hb dX3_nearestUnsettled_7 rfl (lv_at hl 3 rfl) ?_
      refine lv_bipush (v := 12) hx hb dX3_nearestUnsettled_8 (by decide) ?_
      refine lv_icmp_ge (tgt := 47) hx hb dX3_nearestUnsettled_10 (by decide) (fun c_1 => ?_) (fun c_1 => ?_)
      · have hke : k = 12 := by
          rcases Nat.lt_or_ge k 12 with q | q
          · exact absurd c_1 (nI_ge q (by decide))
          · omega
        refine lv_iload_n hx hb dX3_nearestUnsettled_47 rfl (lv_at hl 1 rfl) ?_
        exact W.iret (v := (-1)) hx hb hr (fun t9 ht hW => ⟨_, rfl, rfl, ht⟩) (fun q h => nomatch h) dX3_nearestUnsettled_48
      · have hlt : k < 12 := by
          rcases Nat.lt_or_ge k 12 with q | q
          · exact q
          · exact absurd (show nI 12 ≤ nI k from nI_le q (by omega)) c_1
        refine lv_aload_n hx hb dX3_nearestUnsettled_13 rfl (lv_at hl 0 rfl) ?_
        refine va_get (D := (dC, dI)) (ci := 3) (v := .ref b4) (C := RX3) (T := TX3) (N := 5) hx hb hts hin3 hown hK hP 0 rfl rfl 3 (by decide) (hts (.fieldLink RX3 23 "YamRiders$Roads" "settled" "[Z") (by decide +kernel)) (fun _ h9 => h9) rfl dX3_nearestUnsettled_14 ?_
        refine lv_iload_n hx hb dX3_nearestUnsettled_17 rfl (lv_at hl 3 rfl) ?_
        refine va_zald hx hb hK hP 2 1 rfl rfl (vp_in_nI hlt (by decide)) dX3_nearestUnsettled_18 ?_
        refine lv_topi (fun v_2 ev_2 => ?_)
        refine lv_if_ne (tgt := 41) hx hb dX3_nearestUnsettled_19 (by decide) (fun c_3 => ?_) (fun c_3 => ?_)
        · refine lv_iinc (v := nI (k + 1)) (lv' := [(3, .int (nI (k + 1))), (0, .ref h0), (1, .int (-1)), (2, .int 1000000)]) hx hb dX3_nearestUnsettled_41 hl (k := 3) rfl (by exact (nI_1 k)) (by decide) rfl (fun ls hl => ?_)
          refine lv_goto (tgt := 7) hx hb dX3_nearestUnsettled_44 (by decide) ?_
          exact ih (k + 1) (by omega) (by omega) ls (lv_sub hl [1, 2, 3, 0] rfl)
        · refine lv_aload_n hx hb dX3_nearestUnsettled_22 rfl (lv_at hl 0 rfl) ?_
          refine va_get (D := (dC, dI)) (ci := 3) (v := .ref b3) (C := RX3) (T := TX3) (N := 5) hx hb hts hin3 hown hK hP 0 rfl rfl 2 (by decide) (hts (.fieldLink RX3 19 "YamRiders$Roads" "toGoal" "[I") (by decide +kernel)) (fun _ h9 => h9) rfl dX3_nearestUnsettled_23 ?_
          refine lv_iload_n hx hb dX3_nearestUnsettled_26 rfl (lv_at hl 3 rfl) ?_
          refine va_iald hx hb hK hP 1 0 rfl rfl (vp_in_nI hlt (by decide)) dX3_nearestUnsettled_27 ?_
          refine lv_topi (fun v_4 ev_4 => ?_)
          obtain rfl : v_4 = 1000000 := ev_4.trans (nb_far (ev_2.trans (rd_g hz hlt)) c_3 (rd_g htg hlt))
          refine lv_iload_n hx hb dX3_nearestUnsettled_28 rfl (lv_at hl 2 rfl) ?_
          refine lv_icmp_ge (tgt := 41) hx hb dX3_nearestUnsettled_29 (by decide) (fun _ => ?_) (fun c_5 => by first | exact absurd c_5 (by decide) | exact absurd (by decide) c_5)
          refine lv_iinc (v := nI (k + 1)) (lv' := [(3, .int (nI (k + 1))), (0, .ref h0), (1, .int (-1)), (2, .int 1000000)]) hx hb dX3_nearestUnsettled_41 hl (k := 3) rfl (by exact (nI_1 k)) (by decide) rfl (fun ls hl => ?_)
          refine lv_goto (tgt := 7) hx hb dX3_nearestUnsettled_44 (by decide) ?_
          exact ih (k + 1) (by omega) (by omega) ls (lv_sub hl [1, 2, 3, 0] rfl)
  exact HL 13 0 (by omega) (by omega) ls (lv_sub hl [3, 2, 1, 0] rfl)

set_option maxHeartbeats 4000000 in
set_option maxRecDepth 100000 in
theorem c_X3_measureTo (l : Launch) (dC : Nat → ClassId) (dI : Nat → Nat → Nat) (h0 : Nat) (b1 : Nat) (b2 : Nat) (b3 : Nat) (b4 : Nat) (b5 : Nat) (y1 : Nat) (g1 : ClassId) (ky : ClassId) (gf : Nat → Option Nat) (kz : ClassId) (kt : ClassId) (z0 : Nat → Int32) (t0 : Nat → Int32) (g : Nat) (sz : Nat) (hg : g < 12) (hy : gf (nI g).toNatClampNeg = some y1) : Met l yX3_measureTo wsX3_measureTo ({ frames := 3, cells := 0, slots := 0, locals := 65 }) (va_Pc [.ref h0, .int (nI g)] (cP dC dI [(h0, .inr (3, [.ref b1, .ref b2, .ref b3, .ref b4, .ref b5])), (b1, .inl (g1, 12, .inr (.inr (.inr (.inr gf))))), (y1, .inl (ky, 12, .inl (fun _ => 0))), (b4, .inl (kz, 12, .inl z0)), (b3, .inl (kt, 12, .inl t0))] [(g1, .array .int), (ky, .int), (kz, .boolean), (kt, .int)] sz)) (va_Qv (fun (_ : Unit) => True) (fun (_ : Unit) t9 => ∃ (t2 : Nat → Int32), (∀ j, j < 12 → t2 j = gl g j) ∧ cQ dC dI [(h0, .inr (3, [.ref b1, .ref b2, .ref b3, .ref b4, .ref b5])), (b3, .inl (kt, 12, .inl t2))] [] (va_A [(h0, .inr (3, [.ref b1, .ref b2, .ref b3, .ref b4, .ref b5])), (b1, .inl (g1, 12, .inr (.inr (.inr (.inr gf))))), (y1, .inl (ky, 12, .inl (fun _ => 0))), (b4, .inl (kz, 12, .inl z0)), (b3, .inl (kt, 12, .inl t0))] sz) t9) (va_A [(h0, .inr (3, [.ref b1, .ref b2, .ref b3, .ref b4, .ref b5])), (b1, .inl (g1, 12, .inr (.inr (.inr (.inr gf))))), (y1, .inl (ky, 12, .inl (fun _ => 0))), (b4, .inl (kz, 12, .inl z0)), (b3, .inl (kt, 12, .inl t0))] sz)) 0 0 (va_A [(h0, .inr (3, [.ref b1, .ref b2, .ref b3, .ref b4, .ref b5])), (b1, .inl (g1, 12, .inr (.inr (.inr (.inr gf))))), (y1, .inl (ky, 12, .inl (fun _ => 0))), (b4, .inl (kz, 12, .inl z0)), (b3, .inl (kt, 12, .inl t0))] sz) := by
  refine Met.ofW (cc := cX3_measureTo) (maxL := 4) (ret := none) (by decide) rfl ?_
  intro p e s m args below meth c s₁ B hml hv
  obtain ⟨rfl, hsz, hP, hK, hD0, hN⟩ := hv
  have hx := B.exec
  have hb := B.bytes
  have hr := B.returns
  have hts := atoms_spec (ws := wsX3_measureTo) B.pre
  have hown : s.vm.findClass RX3 = some m.cls := findClass_of_methodNamed B.named
  have hlocks := B.notSynchronized
  subst hsz
  have hin3 : ∀ w ∈ u_ws RX3 TX3 5, w ∈ wsX3_measureTo := by decide +kernel
  have hD := hD0.self (sz := s.heap.size)
  generalize hAe : va_A [(h0, .inr (3, [.ref b1, .ref b2, .ref b3, .ref b4, .ref b5])), (b1, .inl (g1, 12, .inr (.inr (.inr (.inr gf))))), (y1, .inl (ky, 12, .inl (fun _ => 0))), (b4, .inl (kz, 12, .inl z0)), (b3, .inl (kt, 12, .inl t0))] s.heap.size = A at hD ⊢
  have hA : ∀ q : Nat, s.heap.size ≤ q → A q := fun q h => by rw [← hAe]; exact Or.inr h
  have hS : va_S A s.heap s.heap [] := va_S.rf
  have hP : va_P (dC, dI) vwCl [(h0, .inr (3, [.ref b1, .ref b2, .ref b3, .ref b4, .ref b5])), (b1, .inl (g1, 12, .inr (.inr (.inr (.inr gf))))), (y1, .inl (ky, 12, .inl (fun _ => 0))), (b4, .inl (kz, 12, .inl z0)), (b3, .inl (kt, 12, .inl t0))] s.heap := hP
  have hl := lv_entry ([.ref h0, .int (nI g)]) (n := 4) (Nat.le_of_ble_eq_true rfl)
  rw [lg_entry_eq]
  generalize (lg_sl ([.ref h0, .int (nI g)]) ++ List.replicate (4 - (lg_sl ([.ref h0, .int (nI g)])).length) Slot.unset).toArray = ls at hl ⊢
  have hl : lv_has ls 4 [(0, .ref h0), (1, .int (nI g))] := hl
  refine lv_iconst (v := 0) hx hb dX3_measureTo_0 (by decide) ?_
  refine lv_istore_n (lv' := [(2, .int 0), (0, .ref h0), (1, .int (nI g))]) hx hb dX3_measureTo_1 rfl hl (by decide) rfl (fun ls hl => ?_)
  have HL : ∀ (n k : Nat) (t : Nat → Int32) (z : Nat → Int32), k ≤ 12 → 12 + 1 ≤ k + n → (∀ j, j < k → t j = gl g j) → (∀ j, j < k → z j = 0) → ∀ (H : Heap) (locs : List Loc), va_P (dC, dI) vwCl [(h0, .inr (3, [.ref b1, .ref b2, .ref b3, .ref b4, .ref b5])), (b1, .inl (g1, 12, .inr (.inr (.inr (.inr gf))))), (y1, .inl (ky, 12, .inl (fun _ => 0))), (b4, .inl (kz, 12, .inl z)), (b3, .inl (kt, 12, .inl t))] H → va_D A [(h0, .inr (3, [.ref b1, .ref b2, .ref b3, .ref b4, .ref b5])), (b1, .inl (g1, 12, .inr (.inr (.inr (.inr gf))))), (y1, .inl (ky, 12, .inl (fun _ => 0))), (b4, .inl (kz, 12, .inl z)), (b3, .inl (kt, 12, .inl t))] → va_S A s.heap H locs → ∀ ls : Array Slot, lv_has ls 4 [(0, .ref h0), (1, .int (nI g)), (2, .int (nI k))] → W p l e (headSpec wsX3_measureTo ({ frames := 3, cells := 0, slots := 0, locals := 65 })).room s m ([.ref h0, .int (nI g)]).toArray below meth c H locs 0 0 (MQ below (va_Qv (fun (_ : Unit) => True) (fun (_ : Unit) t9 => ∃ (t2 : Nat → Int32), (∀ j, j < 12 → t2 j = gl g j) ∧ cQ dC dI [(h0, .inr (3, [.ref b1, .ref b2, .ref b3, .ref b4, .ref b5])), (b3, .inl (kt, 12, .inl t2))] [] A t9) A) ([.ref h0, .int (nI g)]).toArray s 0 0 A) (F0 m 2 ls []) := by
    intro n
    induction n with
    | zero => intro k t z h1 h2; exact absurd h2 (by omega)
    | succ n ih =>
      intro k t z hk hn htg hz H locs hP hD hS ls hl
      refine lv_iload_n hx hb dX3_measureTo_2 rfl (lv_at hl 2 rfl) ?_
      refine lv_bipush (v := 12) hx hb dX3_measureTo_3 (by decide) ?_
      refine lv_icmp_ge (tgt := 38) hx hb dX3_measureTo_5 (by decide) (fun c_1 => ?_) (fun c_1 => ?_)
      · have hke : k = 12 := by
          rcases Nat.lt_or_ge k 12 with q | q
          · exact absurd c_1 (nI_ge q (by decide))
          · omega
        subst hke
        refine lv_iconst (v := 0) hx hb dX3_measureTo_38 (by decide) ?_
        refine lv_istore_n (lv' := [(2, .int 0), (0, .ref h0), (1, .int (nI g))]) hx hb dX3_measureTo_39 rfl hl (by decide) rfl (fun ls hl => ?_)
        refine lv_iload_n hx hb dX3_measureTo_40 rfl (lv_at hl 0 rfl) ?_
        refine lv_bipush (v := 12) hx hb dX3_measureTo_41 (by decide) ?_
        refine lv_icmp_ge (tgt := 68) hx hb dX3_measureTo_43 (by decide) (fun c_2 => by first | exact absurd c_2 (by decide) | exact absurd (by decide) c_2) (fun _ => ?_)
        refine lv_aload_n hx hb dX3_measureTo_46 rfl (lv_at hl 1 rfl) ?_
        have hPc := hP.sub (ws' := [(h0, .inr (3, [.ref b1, .ref b2, .ref b3, .ref b4, .ref b5])), (b3, .inl (kt, 12, .inl t)), (b4, .inl (kz, 12, .inl z))]) [0, 4, 3] rfl
        have hDc := hD.sub (ws' := [(h0, .inr (3, [.ref b1, .ref b2, .ref b3, .ref b4, .ref b5])), (b3, .inl (kt, 12, .inl t)), (b4, .inl (kz, 12, .inl z))]) [0, 4, 3] (by decide) rfl
        have hKc := hK.sub (tys' := [(kt, .int), (kz, .boolean)]) [3, 2] rfl
        refine cs_i (va_runV (As := []) (rest := []) ⟨hx, hb, hml, hown, hts⟩ (c_X3_nearest_a l dC dI h0 b1 b2 b3 b4 b5 kt kz t z g H.size hg htg hz) (cwV 0 hts gX3_measureTo_X3_nearestUnsettled rfl rfl rfl (by decide +kernel) ⟨Nat.le_of_ble_eq_true rfl, Nat.le_of_ble_eq_true rfl⟩) ⟨c_blind, va_recv hKc hPc (ci := 3) (q0 := 0) rfl rfl, c_pre hPc hKc hDc hN⟩ rfl rfl hl.1 rfl (lv_room (Nat.le_of_ble_eq_true rfl)) dX3_measureTo_47 ⟨Nat.le_of_ble_eq_true rfl, Nat.le_of_ble_eq_true rfl⟩) (fun r_3 hr_3 => ?_)
        subst hr_3
        refine lv_istore_n (lv' := [(3, .int (nI g)), (2, .int 0), (0, .ref h0), (1, .int (nI g))]) hx hb dX3_measureTo_50 rfl hl (by decide) rfl (fun ls hl => ?_)
        refine lv_iload_n hx hb dX3_measureTo_51 rfl (lv_at hl 0 rfl) ?_
        refine lv_iconst (v := (-1)) hx hb dX3_measureTo_52 (by decide) ?_
        refine lv_icmp_ne (tgt := 57) hx hb dX3_measureTo_53 (by decide) (fun _ => ?_) (fun c_4 => by first | exact absurd c_4 (nI_nm1 hg) | exact absurd (nI_nm1 hg) c_4)
        refine lv_aload_n hx hb dX3_measureTo_57 rfl (lv_at hl 2 rfl) ?_
        refine lv_iload_n hx hb dX3_measureTo_58 rfl (lv_at hl 0 rfl) ?_
        have hPc := hP.sub (ws' := [(h0, .inr (3, [.ref b1, .ref b2, .ref b3, .ref b4, .ref b5])), (b1, .inl (g1, 12, .inr (.inr (.inr (.inr gf))))), (y1, .inl (ky, 12, .inl (fun _ => 0))), (b4, .inl (kz, 12, .inl z))]) [0, 1, 2, 3] rfl
        have hDc := hD.sub (ws' := [(h0, .inr (3, [.ref b1, .ref b2, .ref b3, .ref b4, .ref b5])), (b1, .inl (g1, 12, .inr (.inr (.inr (.inr gf))))), (y1, .inl (ky, 12, .inl (fun _ => 0))), (b4, .inl (kz, 12, .inl z))]) [0, 1, 2, 3] (by decide) rfl
        have hKc := hK.sub (tys' := [(g1, .array .int), (ky, .int), (kz, .boolean)]) [0, 1, 2] rfl
        have hFc := va_free (wc := [(h0, .inr (3, [.ref b1, .ref b2, .ref b3, .ref b4, .ref b5])), (b1, .inl (g1, 12, .inr (.inr (.inr (.inr gf))))), (y1, .inl (ky, 12, .inl (fun _ => 0))), (b4, .inl (kz, 12, .inl z))]) hD hS hA [0, 1, 2, 3] rfl
        refine va_callv (va_runV (As := [.int (nI g)]) (rest := []) ⟨hx, hb, hml, hown, hts⟩ (c_X3_settle l dC dI h0 b1 b2 b3 b4 b5 y1 g1 ky gf kz z g H.size hg hy) (cwV 1 hts gX3_measureTo_X3_settle rfl rfl rfl (by decide +kernel) ⟨Nat.le_of_ble_eq_true rfl, Nat.le_of_ble_eq_true rfl⟩) ⟨c_blind, va_recv hKc hPc (ci := 3) (q0 := 0) rfl rfl, c_pre hPc hKc hDc hN⟩ rfl rfl hl.1 rfl (lv_room (Nat.le_of_ble_eq_true rfl)) dX3_measureTo_59 ⟨Nat.le_of_ble_eq_true rfl, Nat.le_of_ble_eq_true rfl⟩) hS (fun q _ h => hFc q h) hFc (fun u9 t9 H1 locs ht hvm hw hB hz1 hk1 hS => ?_)
        obtain ⟨z_6, hf_x_7, hP1, hK1, hD1⟩ := hB
        rw [ht] at hP1
        have hK1 := va_K.moved hvm.symm hK1
        obtain ⟨hP, hD⟩ := va_join (wr := [(b3, .inl (kt, 12, .inl t))]) (w1 := [(h0, .inr (3, [.ref b1, .ref b2, .ref b3, .ref b4, .ref b5])), (b1, .inl (g1, 12, .inr (.inr (.inr (.inr gf))))), (y1, .inl (ky, 12, .inl (fun _ => 0))), (b4, .inl (kz, 12, .inl z_6))]) hP hD [0, 1, 2, 3] [4] rfl rfl (by decide) (by decide) hk1 hFc hP1 hD1
        have hK := (hK.sub (tys' := [(g1, .array .int), (ky, .int), (kz, .boolean), (kt, .int)]) [0, 1, 2, 3] rfl).app hK1
        generalize H1 = H at hP hS ⊢
        have hK : va_K (dC, dI) vwCl [(g1, .array .int), (ky, .int), (kz, .boolean), (kt, .int)] s := hK
        have hP : va_P (dC, dI) vwCl [(b3, .inl (kt, 12, .inl t)), (h0, .inr (3, [.ref b1, .ref b2, .ref b3, .ref b4, .ref b5])), (b1, .inl (g1, 12, .inr (.inr (.inr (.inr gf))))), (y1, .inl (ky, 12, .inl (fun _ => 0))), (b4, .inl (kz, 12, .inl z_6))] H := hP
        have hD : va_D A [(b3, .inl (kt, 12, .inl t)), (h0, .inr (3, [.ref b1, .ref b2, .ref b3, .ref b4, .ref b5])), (b1, .inl (g1, 12, .inr (.inr (.inr (.inr gf))))), (y1, .inl (ky, 12, .inl (fun _ => 0))), (b4, .inl (kz, 12, .inl z_6))] := hD
        refine W.widen (k := 0) (n := 0) (Nat.le_of_ble_eq_true rfl) (Nat.le_of_ble_eq_true rfl) ?_
        refine lv_iinc (v := 1) (lv' := [(2, .int 1), (3, .int (nI g)), (0, .ref h0), (1, .int (nI g))]) hx hb dX3_measureTo_62 hl (k := 1) rfl (by decide) (by decide) rfl (fun ls hl => ?_)
        refine lv_goto (tgt := 40) hx hb dX3_measureTo_65 (by decide) ?_
        refine lv_iload_n hx hb dX3_measureTo_40 rfl (lv_at hl 0 rfl) ?_
        refine lv_bipush (v := 12) hx hb dX3_measureTo_41 (by decide) ?_
        refine lv_icmp_ge (tgt := 68) hx hb dX3_measureTo_43 (by decide) (fun c_8 => by first | exact absurd c_8 (by decide) | exact absurd (by decide) c_8) (fun _ => ?_)
        refine lv_aload_n hx hb dX3_measureTo_46 rfl (lv_at hl 2 rfl) ?_
        have hPc := hP.sub (ws' := [(h0, .inr (3, [.ref b1, .ref b2, .ref b3, .ref b4, .ref b5])), (b3, .inl (kt, 12, .inl t)), (b4, .inl (kz, 12, .inl z_6))]) [1, 0, 4] rfl
        have hDc := hD.sub (ws' := [(h0, .inr (3, [.ref b1, .ref b2, .ref b3, .ref b4, .ref b5])), (b3, .inl (kt, 12, .inl t)), (b4, .inl (kz, 12, .inl z_6))]) [1, 0, 4] (by decide) rfl
        have hKc := hK.sub (tys' := [(kt, .int), (kz, .boolean)]) [3, 2] rfl
        refine cs_i (va_runV (As := []) (rest := []) ⟨hx, hb, hml, hown, hts⟩ (c_X3_nearest_b l dC dI h0 b1 b2 b3 b4 b5 kt kz t z_6 g H.size hg htg (zl_of hf_x_7 hz hg)) (cwV 0 hts gX3_measureTo_X3_nearestUnsettled rfl rfl rfl (by decide +kernel) ⟨Nat.le_of_ble_eq_true rfl, Nat.le_of_ble_eq_true rfl⟩) ⟨c_blind, va_recv hKc hPc (ci := 3) (q0 := 0) rfl rfl, c_pre hPc hKc hDc hN⟩ rfl rfl hl.1 rfl (lv_room (Nat.le_of_ble_eq_true rfl)) dX3_measureTo_47 ⟨Nat.le_of_ble_eq_true rfl, Nat.le_of_ble_eq_true rfl⟩) (fun r_9 hr_9 => ?_)
        subst hr_9
        refine lv_istore_n (lv' := [(3, .int (-1)), (2, .int 1), (0, .ref h0), (1, .int (nI g))]) hx hb dX3_measureTo_50 rfl hl (by decide) rfl (fun ls hl => ?_)
        refine lv_iload_n hx hb dX3_measureTo_51 rfl (lv_at hl 0 rfl) ?_
        refine lv_iconst (v := (-1)) hx hb dX3_measureTo_52 (by decide) ?_
        refine lv_icmp_ne (tgt := 57) hx hb dX3_measureTo_53 (by decide) (fun c_10 => by first | exact absurd c_10 (by decide) | exact absurd (by decide) c_10) (fun _ => ?_)
        have hP9 := hP.sub (ws' := [(h0, .inr (3, [.ref b1, .ref b2, .ref b3, .ref b4, .ref b5])), (b3, .inl (kt, 12, .inl t))]) [1, 0] rfl
        have hD9 := hD.sub (ws' := [(h0, .inr (3, [.ref b1, .ref b2, .ref b3, .ref b4, .ref b5])), (b3, .inl (kt, 12, .inl t))]) [1, 0] (by decide) rfl
        have hK9 := hK.sub (tys' := []) [] rfl
        refine W.widen (k := 0) (n := 0) (Nat.le_of_ble_eq_true rfl) (Nat.le_of_ble_eq_true rfl) ?_
        exact W.vret hx hb hr (fun t9 ht hW => ⟨⟨(), rfl, trivial, t, htg, by rw [ht]; exact hP9, va_K.moved hW.alike hK9, hD9⟩, hS.F ht⟩) hS.2.2 dX3_measureTo_56
      · have hlt : k < 12 := by
          rcases Nat.lt_or_ge k 12 with q | q
          · exact q
          · exact absurd (show nI 12 ≤ nI k from nI_le q (by omega)) c_1
        refine lv_aload_n hx hb dX3_measureTo_8 rfl (lv_at hl 0 rfl) ?_
        refine va_get (D := (dC, dI)) (ci := 3) (v := .ref b3) (C := RX3) (T := TX3) (N := 5) hx hb hts hin3 hown hK hP 0 rfl rfl 2 (by decide) (hts (.fieldLink RX3 19 "YamRiders$Roads" "toGoal" "[I") (by decide +kernel)) (fun _ h9 => h9) rfl dX3_measureTo_9 ?_
        refine lv_iload_n hx hb dX3_measureTo_12 rfl (lv_at hl 2 rfl) ?_
        refine lv_iload_n hx hb dX3_measureTo_13 rfl (lv_at hl 2 rfl) ?_
        refine lv_iload_n hx hb dX3_measureTo_14 rfl (lv_at hl 1 rfl) ?_
        refine lv_icmp_ne (tgt := 22) hx hb dX3_measureTo_15 (by decide) (fun c_11 => ?_) (fun c_11 => ?_)
        · refine lv_ldc (v := 1000000) hx hb hown (hts (.constant RX3 42 (1000000)) (by decide +kernel)) dX3_measureTo_22 ?_
          refine va_iast hx hb hK hP hD hS 4 3 rfl rfl (vp_in_nI hlt (by decide)) dX3_measureTo_24 (fun H locs hP hD hS => ?_)
          have hP : va_P (dC, dI) vwCl [(h0, .inr (3, [.ref b1, .ref b2, .ref b3, .ref b4, .ref b5])), (b1, .inl (g1, 12, .inr (.inr (.inr (.inr gf))))), (y1, .inl (ky, 12, .inl (fun _ => 0))), (b4, .inl (kz, 12, .inl z)), (b3, .inl (kt, 12, .inl (upd t (nI k).toNatClampNeg 1000000)))] H := hP
          have hD : va_D A [(h0, .inr (3, [.ref b1, .ref b2, .ref b3, .ref b4, .ref b5])), (b1, .inl (g1, 12, .inr (.inr (.inr (.inr gf))))), (y1, .inl (ky, 12, .inl (fun _ => 0))), (b4, .inl (kz, 12, .inl z)), (b3, .inl (kt, 12, .inl (upd t (nI k).toNatClampNeg 1000000)))] := hD
          obtain ⟨f_12, ef_12⟩ : ∃ w9 : Nat → Int32, w9 = upd t (nI k).toNatClampNeg 1000000 := ⟨_, rfl⟩
          rw [← ef_12] at hP hD
          refine lv_aload_n hx hb dX3_measureTo_25 rfl (lv_at hl 0 rfl) ?_
          refine va_get (D := (dC, dI)) (ci := 3) (v := .ref b4) (C := RX3) (T := TX3) (N := 5) hx hb hts hin3 hown hK hP 0 rfl rfl 3 (by decide) (hts (.fieldLink RX3 23 "YamRiders$Roads" "settled" "[Z") (by decide +kernel)) (fun _ h9 => h9) rfl dX3_measureTo_26 ?_
          refine lv_iload_n hx hb dX3_measureTo_29 rfl (lv_at hl 2 rfl) ?_
          refine lv_iconst (v := 0) hx hb dX3_measureTo_30 (by decide) ?_
          refine va_zast hx hb hK hP hD hS 3 2 rfl rfl (vp_in_nI hlt (by decide)) dX3_measureTo_31 (fun H locs hP hD hS => ?_)
          have hP : va_P (dC, dI) vwCl [(h0, .inr (3, [.ref b1, .ref b2, .ref b3, .ref b4, .ref b5])), (b1, .inl (g1, 12, .inr (.inr (.inr (.inr gf))))), (y1, .inl (ky, 12, .inl (fun _ => 0))), (b4, .inl (kz, 12, .inl (upd z (nI k).toNatClampNeg (vp_nar .boolean 0)))), (b3, .inl (kt, 12, .inl f_12))] H := hP
          have hD : va_D A [(h0, .inr (3, [.ref b1, .ref b2, .ref b3, .ref b4, .ref b5])), (b1, .inl (g1, 12, .inr (.inr (.inr (.inr gf))))), (y1, .inl (ky, 12, .inl (fun _ => 0))), (b4, .inl (kz, 12, .inl (upd z (nI k).toNatClampNeg (vp_nar .boolean 0)))), (b3, .inl (kt, 12, .inl f_12))] := hD
          obtain ⟨f_13, ef_13⟩ : ∃ w9 : Nat → Int32, w9 = upd z (nI k).toNatClampNeg (vp_nar .boolean 0) := ⟨_, rfl⟩
          rw [← ef_13] at hP hD
          refine lv_iinc (v := nI (k + 1)) (lv' := [(2, .int (nI (k + 1))), (0, .ref h0), (1, .int (nI g))]) hx hb dX3_measureTo_32 hl (k := 2) rfl (by exact (nI_1 k)) (by decide) rfl (fun ls hl => ?_)
          refine lv_goto (tgt := 2) hx hb dX3_measureTo_35 (by decide) ?_
          exact ih (k + 1) f_12 f_13 (by omega) (by omega) (up_lt ef_12 hlt htg (gl_ne c_11)) (up_z ef_13 hlt hz) _ _ (hP.sub [0, 1, 2, 3, 4] rfl) (hD.sub [0, 1, 2, 3, 4] (by decide) rfl) hS ls (lv_sub hl [1, 2, 0] rfl)
        · refine lv_iconst (v := 0) hx hb dX3_measureTo_18 (by decide) ?_
          refine lv_goto (tgt := 24) hx hb dX3_measureTo_19 (by decide) ?_
          refine va_iast hx hb hK hP hD hS 4 3 rfl rfl (vp_in_nI hlt (by decide)) dX3_measureTo_24 (fun H locs hP hD hS => ?_)
          have hP : va_P (dC, dI) vwCl [(h0, .inr (3, [.ref b1, .ref b2, .ref b3, .ref b4, .ref b5])), (b1, .inl (g1, 12, .inr (.inr (.inr (.inr gf))))), (y1, .inl (ky, 12, .inl (fun _ => 0))), (b4, .inl (kz, 12, .inl z)), (b3, .inl (kt, 12, .inl (upd t (nI k).toNatClampNeg 0)))] H := hP
          have hD : va_D A [(h0, .inr (3, [.ref b1, .ref b2, .ref b3, .ref b4, .ref b5])), (b1, .inl (g1, 12, .inr (.inr (.inr (.inr gf))))), (y1, .inl (ky, 12, .inl (fun _ => 0))), (b4, .inl (kz, 12, .inl z)), (b3, .inl (kt, 12, .inl (upd t (nI k).toNatClampNeg 0)))] := hD
          obtain ⟨f_14, ef_14⟩ : ∃ w9 : Nat → Int32, w9 = upd t (nI k).toNatClampNeg 0 := ⟨_, rfl⟩
          rw [← ef_14] at hP hD
          refine lv_aload_n hx hb dX3_measureTo_25 rfl (lv_at hl 0 rfl) ?_
          refine va_get (D := (dC, dI)) (ci := 3) (v := .ref b4) (C := RX3) (T := TX3) (N := 5) hx hb hts hin3 hown hK hP 0 rfl rfl 3 (by decide) (hts (.fieldLink RX3 23 "YamRiders$Roads" "settled" "[Z") (by decide +kernel)) (fun _ h9 => h9) rfl dX3_measureTo_26 ?_
          refine lv_iload_n hx hb dX3_measureTo_29 rfl (lv_at hl 2 rfl) ?_
          refine lv_iconst (v := 0) hx hb dX3_measureTo_30 (by decide) ?_
          refine va_zast hx hb hK hP hD hS 3 2 rfl rfl (vp_in_nI hlt (by decide)) dX3_measureTo_31 (fun H locs hP hD hS => ?_)
          have hP : va_P (dC, dI) vwCl [(h0, .inr (3, [.ref b1, .ref b2, .ref b3, .ref b4, .ref b5])), (b1, .inl (g1, 12, .inr (.inr (.inr (.inr gf))))), (y1, .inl (ky, 12, .inl (fun _ => 0))), (b4, .inl (kz, 12, .inl (upd z (nI k).toNatClampNeg (vp_nar .boolean 0)))), (b3, .inl (kt, 12, .inl f_14))] H := hP
          have hD : va_D A [(h0, .inr (3, [.ref b1, .ref b2, .ref b3, .ref b4, .ref b5])), (b1, .inl (g1, 12, .inr (.inr (.inr (.inr gf))))), (y1, .inl (ky, 12, .inl (fun _ => 0))), (b4, .inl (kz, 12, .inl (upd z (nI k).toNatClampNeg (vp_nar .boolean 0)))), (b3, .inl (kt, 12, .inl f_14))] := hD
          obtain ⟨f_15, ef_15⟩ : ∃ w9 : Nat → Int32, w9 = upd z (nI k).toNatClampNeg (vp_nar .boolean 0) := ⟨_, rfl⟩
          rw [← ef_15] at hP hD
          refine lv_iinc (v := nI (k + 1)) (lv' := [(2, .int (nI (k + 1))), (0, .ref h0), (1, .int (nI g))]) hx hb dX3_measureTo_32 hl (k := 2) rfl (by exact (nI_1 k)) (by decide) rfl (fun ls hl => ?_)
          refine lv_goto (tgt := 2) hx hb dX3_measureTo_35 (by decide) ?_
          exact ih (k + 1) f_14 f_15 (by omega) (by omega) (up_lt ef_14 hlt htg (gl_eq hlt hg c_11)) (up_z ef_15 hlt hz) _ _ (hP.sub [0, 1, 2, 3, 4] rfl) (hD.sub [0, 1, 2, 3, 4] (by decide) rfl) hS ls (lv_sub hl [1, 2, 0] rfl)
  exact HL 13 0 t0 z0 (by omega) (by omega) (fun j h => absurd h (by omega)) (fun j h => absurd h (by omega)) _ _ (hP.sub [0, 1, 2, 3, 4] rfl) (hD.sub [0, 1, 2, 3, 4] (by decide) rfl) hS ls (lv_sub hl [1, 2, 0] rfl)

set_option maxHeartbeats 4000000 in
set_option maxRecDepth 100000 in
theorem c_X3_leastTime (l : Launch) (dC : Nat → ClassId) (dI : Nat → Nat → Nat) (h0 : Nat) (b1 : Nat) (b2 : Nat) (b3 : Nat) (b4 : Nat) (b5 : Nat) (y1 : Nat) (g1 : ClassId) (ky : ClassId) (gf : Nat → Option Nat) (kz : ClassId) (kt : ClassId) (z0 : Nat → Int32) (t0 : Nat → Int32) (p0 : Int32) (p1 : Int32) (sz : Nat) (hy : ¬ sp_st p1 = 0 → gf p1.toNatClampNeg = some y1) : Met l yX3_leastTime wsX3_leastTime ({ frames := 4, cells := 0, slots := 0, locals := 88 }) (va_Pc [.ref h0, .int p0, .int p1] (cP dC dI [(h0, .inr (3, [.ref b1, .ref b2, .ref b3, .ref b4, .ref b5])), (b1, .inl (g1, 12, .inr (.inr (.inr (.inr gf))))), (y1, .inl (ky, 12, .inl (fun _ => 0))), (b4, .inl (kz, 12, .inl z0)), (b3, .inl (kt, 12, .inl t0))] [(g1, .array .int), (ky, .int), (kz, .boolean), (kt, .int)] sz)) (va_Qi (fun (r : Int32) (_ : Unit) => r = sp_hr p0 p1) (fun (_ : Unit) t9 => cQ dC dI [] [] (va_A [(h0, .inr (3, [.ref b1, .ref b2, .ref b3, .ref b4, .ref b5])), (b1, .inl (g1, 12, .inr (.inr (.inr (.inr gf))))), (y1, .inl (ky, 12, .inl (fun _ => 0))), (b4, .inl (kz, 12, .inl z0)), (b3, .inl (kt, 12, .inl t0))] sz) t9) (va_A [(h0, .inr (3, [.ref b1, .ref b2, .ref b3, .ref b4, .ref b5])), (b1, .inl (g1, 12, .inr (.inr (.inr (.inr gf))))), (y1, .inl (ky, 12, .inl (fun _ => 0))), (b4, .inl (kz, 12, .inl z0)), (b3, .inl (kt, 12, .inl t0))] sz)) 0 0 (va_A [(h0, .inr (3, [.ref b1, .ref b2, .ref b3, .ref b4, .ref b5])), (b1, .inl (g1, 12, .inr (.inr (.inr (.inr gf))))), (y1, .inl (ky, 12, .inl (fun _ => 0))), (b4, .inl (kz, 12, .inl z0)), (b3, .inl (kt, 12, .inl t0))] sz) := by
  refine Met.ofW (cc := cX3_leastTime) (maxL := 3) (ret := (some .int)) (by decide) rfl ?_
  intro p e s m args below meth c s₁ B hml hv
  obtain ⟨rfl, hsz, hP, hK, hD0, hN⟩ := hv
  have hx := B.exec
  have hb := B.bytes
  have hr := B.returns
  have hts := atoms_spec (ws := wsX3_leastTime) B.pre
  have hown : s.vm.findClass RX3 = some m.cls := findClass_of_methodNamed B.named
  have hlocks := B.notSynchronized
  subst hsz
  have hin3 : ∀ w ∈ u_ws RX3 TX3 5, w ∈ wsX3_leastTime := by decide +kernel
  have hD := hD0.self (sz := s.heap.size)
  generalize hAe : va_A [(h0, .inr (3, [.ref b1, .ref b2, .ref b3, .ref b4, .ref b5])), (b1, .inl (g1, 12, .inr (.inr (.inr (.inr gf))))), (y1, .inl (ky, 12, .inl (fun _ => 0))), (b4, .inl (kz, 12, .inl z0)), (b3, .inl (kt, 12, .inl t0))] s.heap.size = A at hD ⊢
  have hA : ∀ q : Nat, s.heap.size ≤ q → A q := fun q h => by rw [← hAe]; exact Or.inr h
  have hS : va_S A s.heap s.heap [] := va_S.rf
  have hP : va_P (dC, dI) vwCl [(h0, .inr (3, [.ref b1, .ref b2, .ref b3, .ref b4, .ref b5])), (b1, .inl (g1, 12, .inr (.inr (.inr (.inr gf))))), (y1, .inl (ky, 12, .inl (fun _ => 0))), (b4, .inl (kz, 12, .inl z0)), (b3, .inl (kt, 12, .inl t0))] s.heap := hP
  have hl := lv_entry ([.ref h0, .int p0, .int p1]) (n := 3) (Nat.le_of_ble_eq_true rfl)
  rw [lg_entry_eq]
  generalize (lg_sl ([.ref h0, .int p0, .int p1]) ++ List.replicate (3 - (lg_sl ([.ref h0, .int p0, .int p1])).length) Slot.unset).toArray = ls at hl ⊢
  have hl : lv_has ls 3 [(0, .ref h0), (1, .int p0), (2, .int p1)] := hl
  refine lv_iload_n hx hb dX3_leastTime_0 rfl (lv_at hl 1 rfl) ?_
  have hPc := hP.sub (ws' := []) [] rfl
  have hDc := hD.sub (ws' := []) [] (by decide) rfl
  have hKc := hK.sub (tys' := []) [] rfl
  refine cs_i (va_runSN (As := [.int p0]) (rest := []) ⟨hx, hb, hml, hown, hts⟩ (c_X8_isStation l dC dI p0 s.heap.size) ⟨va_cnB 1 hts ggX3_leastTime_X8_isStation rfl rfl rfl (hN.1 (.methodLinkNest RX3 30 yX8_isStation "YamRiders") (by decide +kernel)) (hts (.initialized RX8) (by decide +kernel)) (by decide +kernel) ⟨Nat.le_of_ble_eq_true rfl, Nat.le_of_ble_eq_true rfl⟩, hts (.static yX8_isStation) (by decide +kernel), trivial⟩ ⟨c_blind, c_pre hPc hKc hDc hN⟩ rfl rfl hl.1 rfl (lv_room (Nat.le_of_ble_eq_true rfl)) dX3_leastTime_1 ⟨Nat.le_of_ble_eq_true rfl, Nat.le_of_ble_eq_true rfl⟩) (fun r_1 hr_1 => ?_)
  subst hr_1
  refine lv_if_eq (tgt := 14) hx hb dX3_leastTime_4 (by decide) (fun c_2 => ?_) (fun c_2 => ?_)
  · refine lv_iconst (v := (-1)) hx hb dX3_leastTime_14 (by decide) ?_
    have hP9 := hP.sub (ws' := []) [] rfl
    have hD9 := hD.sub (ws' := []) [] (by decide) rfl
    have hK9 := hK.sub (tys' := []) [] rfl
    refine W.widen (k := 0) (n := 0) (Nat.le_of_ble_eq_true rfl) (Nat.le_of_ble_eq_true rfl) ?_
    exact W.iret (v := (-1)) hx hb hr (fun t9 ht hW => ⟨⟨_, (), rfl, (by unfold sp_hr; rw [if_pos c_2]), by rw [ht]; exact hP9, va_K.moved hW.alike hK9, hD9⟩, hS.F ht⟩) hS.2.2 dX3_leastTime_15
  · refine lv_iload_n hx hb dX3_leastTime_7 rfl (lv_at hl 2 rfl) ?_
    have hPc := hP.sub (ws' := []) [] rfl
    have hDc := hD.sub (ws' := []) [] (by decide) rfl
    have hKc := hK.sub (tys' := []) [] rfl
    refine cs_i (va_runSN (As := [.int p1]) (rest := []) ⟨hx, hb, hml, hown, hts⟩ (c_X8_isStation l dC dI p1 s.heap.size) ⟨va_cnB 1 hts ggX3_leastTime_X8_isStation rfl rfl rfl (hN.1 (.methodLinkNest RX3 30 yX8_isStation "YamRiders") (by decide +kernel)) (hts (.initialized RX8) (by decide +kernel)) (by decide +kernel) ⟨Nat.le_of_ble_eq_true rfl, Nat.le_of_ble_eq_true rfl⟩, hts (.static yX8_isStation) (by decide +kernel), trivial⟩ ⟨c_blind, c_pre hPc hKc hDc hN⟩ rfl rfl hl.1 rfl (lv_room (Nat.le_of_ble_eq_true rfl)) dX3_leastTime_8 ⟨Nat.le_of_ble_eq_true rfl, Nat.le_of_ble_eq_true rfl⟩) (fun r_3 hr_3 => ?_)
    subst hr_3
    refine lv_if_ne (tgt := 16) hx hb dX3_leastTime_11 (by decide) (fun c_4 => ?_) (fun c_4 => ?_)
    · obtain ⟨g, hg, rfl⟩ := st_of c_4
      obtain ⟨a, ha, rfl⟩ := st_of c_2
      refine lv_aload_n hx hb dX3_leastTime_16 rfl (lv_at hl 0 rfl) ?_
      refine lv_iload_n hx hb dX3_leastTime_17 rfl (lv_at hl 2 rfl) ?_
      have hPc := hP.sub (ws' := [(h0, .inr (3, [.ref b1, .ref b2, .ref b3, .ref b4, .ref b5])), (b1, .inl (g1, 12, .inr (.inr (.inr (.inr gf))))), (y1, .inl (ky, 12, .inl (fun _ => 0))), (b4, .inl (kz, 12, .inl z0)), (b3, .inl (kt, 12, .inl t0))]) [0, 1, 2, 3, 4] rfl
      have hDc := hD.sub (ws' := [(h0, .inr (3, [.ref b1, .ref b2, .ref b3, .ref b4, .ref b5])), (b1, .inl (g1, 12, .inr (.inr (.inr (.inr gf))))), (y1, .inl (ky, 12, .inl (fun _ => 0))), (b4, .inl (kz, 12, .inl z0)), (b3, .inl (kt, 12, .inl t0))]) [0, 1, 2, 3, 4] (by decide) rfl
      have hKc := hK.sub (tys' := [(g1, .array .int), (ky, .int), (kz, .boolean), (kt, .int)]) [0, 1, 2, 3] rfl
      have hFc := va_free (wc := [(h0, .inr (3, [.ref b1, .ref b2, .ref b3, .ref b4, .ref b5])), (b1, .inl (g1, 12, .inr (.inr (.inr (.inr gf))))), (y1, .inl (ky, 12, .inl (fun _ => 0))), (b4, .inl (kz, 12, .inl z0)), (b3, .inl (kt, 12, .inl t0))]) hD hS hA [0, 1, 2, 3, 4] rfl
      refine va_callv (va_runV (As := [.int (nI g)]) (rest := []) ⟨hx, hb, hml, hown, hts⟩ (c_X3_measureTo l dC dI h0 b1 b2 b3 b4 b5 y1 g1 ky gf kz kt z0 t0 g s.heap.size hg (hy c_4)) (cwV 1 hts gX3_leastTime_X3_measureTo rfl rfl rfl (by decide +kernel) ⟨Nat.le_of_ble_eq_true rfl, Nat.le_of_ble_eq_true rfl⟩) ⟨c_blind, va_recv hKc hPc (ci := 3) (q0 := 0) rfl rfl, c_pre hPc hKc hDc hN⟩ rfl rfl hl.1 rfl (lv_room (Nat.le_of_ble_eq_true rfl)) dX3_leastTime_18 ⟨Nat.le_of_ble_eq_true rfl, Nat.le_of_ble_eq_true rfl⟩) hS (fun q _ h => hFc q h) hFc (fun u9 t9 H1 locs ht hvm hw hB hz1 hk1 hS => ?_)
      obtain ⟨t_6, hf_x_7, hP1, hK1, hD1⟩ := hB
      rw [ht] at hP1
      have hK1 := va_K.moved hvm.symm hK1
      obtain ⟨hP, hD⟩ := va_join (wr := []) (w1 := [(h0, .inr (3, [.ref b1, .ref b2, .ref b3, .ref b4, .ref b5])), (b3, .inl (kt, 12, .inl t_6))]) hP hD [0, 1, 2, 3, 4] [] rfl rfl (by decide) (by decide) hk1 hFc hP1 hD1
      have hK := (hK.sub (tys' := [(g1, .array .int), (ky, .int), (kz, .boolean), (kt, .int)]) [0, 1, 2, 3] rfl).app hK1
      generalize H1 = H at hP hS ⊢
      have hK : va_K (dC, dI) vwCl [(g1, .array .int), (ky, .int), (kz, .boolean), (kt, .int)] s := hK
      have hP : va_P (dC, dI) vwCl [(h0, .inr (3, [.ref b1, .ref b2, .ref b3, .ref b4, .ref b5])), (b3, .inl (kt, 12, .inl t_6))] H := hP
      have hD : va_D A [(h0, .inr (3, [.ref b1, .ref b2, .ref b3, .ref b4, .ref b5])), (b3, .inl (kt, 12, .inl t_6))] := hD
      refine W.widen (k := 0) (n := 0) (Nat.le_of_ble_eq_true rfl) (Nat.le_of_ble_eq_true rfl) ?_
      refine lv_aload_n hx hb dX3_leastTime_21 rfl (lv_at hl 0 rfl) ?_
      refine va_get (D := (dC, dI)) (ci := 3) (v := .ref b3) (C := RX3) (T := TX3) (N := 5) hx hb hts hin3 hown hK hP 0 rfl rfl 2 (by decide) (hts (.fieldLink RX3 19 "YamRiders$Roads" "toGoal" "[I") (by decide +kernel)) (fun _ h9 => h9) rfl dX3_leastTime_22 ?_
      refine lv_iload_n hx hb dX3_leastTime_25 rfl (lv_at hl 1 rfl) ?_
      refine va_iald hx hb hK hP 1 3 rfl rfl (st_in c_2) dX3_leastTime_26 ?_
      refine lv_topi (fun v_8 ev_8 => ?_)
      refine lv_ldc (v := 1000000) hx hb hown (hts (.constant RX3 42 (1000000)) (by decide +kernel)) dX3_leastTime_27 ?_
      refine lv_icmp_ge (tgt := 41) hx hb dX3_leastTime_29 (by decide) (fun c_9 => ?_) (fun c_9 => ?_)
      · refine lv_iconst (v := (-1)) hx hb dX3_leastTime_41 (by decide) ?_
        have hP9 := hP.sub (ws' := []) [] rfl
        have hD9 := hD.sub (ws' := []) [] (by decide) rfl
        have hK9 := hK.sub (tys' := []) [] rfl
        refine W.widen (k := 0) (n := 0) (Nat.le_of_ble_eq_true rfl) (Nat.le_of_ble_eq_true rfl) ?_
        exact W.iret (v := (-1)) hx hb hr (fun t9 ht hW => ⟨⟨_, (), rfl, (hr_far ha hg (ev_8.trans (rd_g hf_x_7 ha)) c_9), by rw [ht]; exact hP9, va_K.moved hW.alike hK9, hD9⟩, hS.F ht⟩) hS.2.2 dX3_leastTime_42
      · refine lv_aload_n hx hb dX3_leastTime_32 rfl (lv_at hl 0 rfl) ?_
        refine va_get (D := (dC, dI)) (ci := 3) (v := .ref b3) (C := RX3) (T := TX3) (N := 5) hx hb hts hin3 hown hK hP 0 rfl rfl 2 (by decide) (hts (.fieldLink RX3 19 "YamRiders$Roads" "toGoal" "[I") (by decide +kernel)) (fun _ h9 => h9) rfl dX3_leastTime_33 ?_
        refine lv_iload_n hx hb dX3_leastTime_36 rfl (lv_at hl 1 rfl) ?_
        refine va_iald hx hb hK hP 1 3 rfl rfl (st_in c_2) dX3_leastTime_37 ?_
        refine lv_topi (fun v_10 ev_10 => ?_)
        refine lv_goto (tgt := 42) hx hb dX3_leastTime_38 (by decide) ?_
        have hP9 := hP.sub (ws' := []) [] rfl
        have hD9 := hD.sub (ws' := []) [] (by decide) rfl
        have hK9 := hK.sub (tys' := []) [] rfl
        refine W.widen (k := 0) (n := 0) (Nat.le_of_ble_eq_true rfl) (Nat.le_of_ble_eq_true rfl) ?_
        exact W.iret (v := v_10) hx hb hr (fun t9 ht hW => ⟨⟨_, (), rfl, (hr_near ha hg (ev_8.trans (rd_g hf_x_7 ha)) (ev_10.trans (rd_g hf_x_7 ha)) c_9), by rw [ht]; exact hP9, va_K.moved hW.alike hK9, hD9⟩, hS.F ht⟩) hS.2.2 dX3_leastTime_42
    · refine lv_iconst (v := (-1)) hx hb dX3_leastTime_14 (by decide) ?_
      have hP9 := hP.sub (ws' := []) [] rfl
      have hD9 := hD.sub (ws' := []) [] (by decide) rfl
      have hK9 := hK.sub (tys' := []) [] rfl
      refine W.widen (k := 0) (n := 0) (Nat.le_of_ble_eq_true rfl) (Nat.le_of_ble_eq_true rfl) ?_
      exact W.iret (v := (-1)) hx hb hr (fun t9 ht hW => ⟨⟨_, (), rfl, (by unfold sp_hr; rw [if_neg c_2, if_pos c_4]), by rw [ht]; exact hP9, va_K.moved hW.alike hK9, hD9⟩, hS.F ht⟩) hS.2.2 dX3_leastTime_15

set_option maxHeartbeats 4000000 in
set_option maxRecDepth 100000 in
theorem c_X8_hours (l : Launch) (dC : Nat → ClassId) (dI : Nat → Nat → Nat) (h0 : Nat) (a1 : Nat) (a2 : Nat) (a3 : Nat) (a4 : Nat) (a5 : Nat) (a6 : Nat) (a7 : Nat) (a8 : Nat) (a9 : Nat) (b1 : Nat) (b2 : Nat) (b3 : Nat) (b4 : Nat) (b5 : Nat) (y1 : Nat) (g1 : ClassId) (ky : ClassId) (gf : Nat → Option Nat) (kz : ClassId) (kt : ClassId) (z0 : Nat → Int32) (t0 : Nat → Int32) (p0 : Int32) (p1 : Int32) (sz : Nat) (hy : ¬ sp_st p1 = 0 → gf p1.toNatClampNeg = some y1) : Met l yX8_hours wsX8_hours ({ frames := 5, cells := 0, slots := 0, locals := 110 }) (va_Pc [.ref h0, .int p0, .int p1] (cP dC dI [(h0, .inr (8, [.ref a1, .ref a2, .ref a3, .ref a4, .ref a5, .ref a6, .ref a7, .ref a8, .ref a9, .int 0, .int 0, .int 0, .int 0, .int 0, .int 0])), (a2, .inr (3, [.ref b1, .ref b2, .ref b3, .ref b4, .ref b5])), (b1, .inl (g1, 12, .inr (.inr (.inr (.inr gf))))), (y1, .inl (ky, 12, .inl (fun _ => 0))), (b4, .inl (kz, 12, .inl z0)), (b3, .inl (kt, 12, .inl t0))] [(g1, .array .int), (ky, .int), (kz, .boolean), (kt, .int)] sz)) (va_Qi (fun (r : Int32) (_ : Unit) => r = sp_hr p0 p1) (fun (_ : Unit) t9 => cQ dC dI [] [] (va_A [(h0, .inr (8, [.ref a1, .ref a2, .ref a3, .ref a4, .ref a5, .ref a6, .ref a7, .ref a8, .ref a9, .int 0, .int 0, .int 0, .int 0, .int 0, .int 0])), (a2, .inr (3, [.ref b1, .ref b2, .ref b3, .ref b4, .ref b5])), (b1, .inl (g1, 12, .inr (.inr (.inr (.inr gf))))), (y1, .inl (ky, 12, .inl (fun _ => 0))), (b4, .inl (kz, 12, .inl z0)), (b3, .inl (kt, 12, .inl t0))] sz) t9) (va_A [(h0, .inr (8, [.ref a1, .ref a2, .ref a3, .ref a4, .ref a5, .ref a6, .ref a7, .ref a8, .ref a9, .int 0, .int 0, .int 0, .int 0, .int 0, .int 0])), (a2, .inr (3, [.ref b1, .ref b2, .ref b3, .ref b4, .ref b5])), (b1, .inl (g1, 12, .inr (.inr (.inr (.inr gf))))), (y1, .inl (ky, 12, .inl (fun _ => 0))), (b4, .inl (kz, 12, .inl z0)), (b3, .inl (kt, 12, .inl t0))] sz)) 0 0 (va_A [(h0, .inr (8, [.ref a1, .ref a2, .ref a3, .ref a4, .ref a5, .ref a6, .ref a7, .ref a8, .ref a9, .int 0, .int 0, .int 0, .int 0, .int 0, .int 0])), (a2, .inr (3, [.ref b1, .ref b2, .ref b3, .ref b4, .ref b5])), (b1, .inl (g1, 12, .inr (.inr (.inr (.inr gf))))), (y1, .inl (ky, 12, .inl (fun _ => 0))), (b4, .inl (kz, 12, .inl z0)), (b3, .inl (kt, 12, .inl t0))] sz) := by
  refine Met.ofW (cc := cX8_hours) (maxL := 3) (ret := (some .int)) (by decide) rfl ?_
  intro p e s m args below meth c s₁ B hml hv
  obtain ⟨rfl, hsz, hP, hK, hD0, hN⟩ := hv
  have hx := B.exec
  have hb := B.bytes
  have hr := B.returns
  have hts := atoms_spec (ws := wsX8_hours) B.pre
  have hown : s.vm.findClass RX8 = some m.cls := findClass_of_methodNamed B.named
  have hlocks := B.notSynchronized
  subst hsz
  have hin8 : ∀ w ∈ u_ws RX8 TX8 15, w ∈ wsX8_hours := by decide +kernel
  have hD := hD0.self (sz := s.heap.size)
  generalize hAe : va_A [(h0, .inr (8, [.ref a1, .ref a2, .ref a3, .ref a4, .ref a5, .ref a6, .ref a7, .ref a8, .ref a9, .int 0, .int 0, .int 0, .int 0, .int 0, .int 0])), (a2, .inr (3, [.ref b1, .ref b2, .ref b3, .ref b4, .ref b5])), (b1, .inl (g1, 12, .inr (.inr (.inr (.inr gf))))), (y1, .inl (ky, 12, .inl (fun _ => 0))), (b4, .inl (kz, 12, .inl z0)), (b3, .inl (kt, 12, .inl t0))] s.heap.size = A at hD ⊢
  have hA : ∀ q : Nat, s.heap.size ≤ q → A q := fun q h => by rw [← hAe]; exact Or.inr h
  have hS : va_S A s.heap s.heap [] := va_S.rf
  have hP : va_P (dC, dI) vwCl [(h0, .inr (8, [.ref a1, .ref a2, .ref a3, .ref a4, .ref a5, .ref a6, .ref a7, .ref a8, .ref a9, .int 0, .int 0, .int 0, .int 0, .int 0, .int 0])), (a2, .inr (3, [.ref b1, .ref b2, .ref b3, .ref b4, .ref b5])), (b1, .inl (g1, 12, .inr (.inr (.inr (.inr gf))))), (y1, .inl (ky, 12, .inl (fun _ => 0))), (b4, .inl (kz, 12, .inl z0)), (b3, .inl (kt, 12, .inl t0))] s.heap := hP
  have hl := lv_entry ([.ref h0, .int p0, .int p1]) (n := 3) (Nat.le_of_ble_eq_true rfl)
  rw [lg_entry_eq]
  generalize (lg_sl ([.ref h0, .int p0, .int p1]) ++ List.replicate (3 - (lg_sl ([.ref h0, .int p0, .int p1])).length) Slot.unset).toArray = ls at hl ⊢
  have hl : lv_has ls 3 [(0, .ref h0), (1, .int p0), (2, .int p1)] := hl
  refine lv_aload_n hx hb dX8_hours_0 rfl (lv_at hl 0 rfl) ?_
  refine va_get (D := (dC, dI)) (ci := 8) (v := .ref a2) (C := RX8) (T := TX8) (N := 15) hx hb hts hin8 hown hK hP 0 rfl rfl 1 (by decide) (hts (.fieldLink RX8 19 "YamRiders" "roads" "LYamRiders$Roads;") (by decide +kernel)) (fun _ h9 => h9) rfl dX8_hours_1 ?_
  refine lv_iload_n hx hb dX8_hours_4 rfl (lv_at hl 1 rfl) ?_
  refine lv_iload_n hx hb dX8_hours_5 rfl (lv_at hl 2 rfl) ?_
  have hPc := hP.sub (ws' := [(a2, .inr (3, [.ref b1, .ref b2, .ref b3, .ref b4, .ref b5])), (b1, .inl (g1, 12, .inr (.inr (.inr (.inr gf))))), (y1, .inl (ky, 12, .inl (fun _ => 0))), (b4, .inl (kz, 12, .inl z0)), (b3, .inl (kt, 12, .inl t0))]) [1, 2, 3, 4, 5] rfl
  have hDc := hD.sub (ws' := [(a2, .inr (3, [.ref b1, .ref b2, .ref b3, .ref b4, .ref b5])), (b1, .inl (g1, 12, .inr (.inr (.inr (.inr gf))))), (y1, .inl (ky, 12, .inl (fun _ => 0))), (b4, .inl (kz, 12, .inl z0)), (b3, .inl (kt, 12, .inl t0))]) [1, 2, 3, 4, 5] (by decide) rfl
  have hKc := hK.sub (tys' := [(g1, .array .int), (ky, .int), (kz, .boolean), (kt, .int)]) [0, 1, 2, 3] rfl
  have hFc := va_free (wc := [(a2, .inr (3, [.ref b1, .ref b2, .ref b3, .ref b4, .ref b5])), (b1, .inl (g1, 12, .inr (.inr (.inr (.inr gf))))), (y1, .inl (ky, 12, .inl (fun _ => 0))), (b4, .inl (kz, 12, .inl z0)), (b3, .inl (kt, 12, .inl t0))]) hD hS hA [1, 2, 3, 4, 5] rfl
  refine va_calli (va_runV (As := [.int p0, .int p1]) (rest := []) ⟨hx, hb, hml, hown, hts⟩ (c_X3_leastTime l dC dI a2 b1 b2 b3 b4 b5 y1 g1 ky gf kz kt z0 t0 p0 p1 s.heap.size hy) (cwV 2 hts gX8_hours_X3_leastTime rfl rfl rfl (by decide +kernel) ⟨Nat.le_of_ble_eq_true rfl, Nat.le_of_ble_eq_true rfl⟩) ⟨c_blind, va_recv hKc hPc (ci := 3) (q0 := 0) rfl rfl, c_pre hPc hKc hDc hN⟩ rfl rfl hl.1 rfl (lv_room (Nat.le_of_ble_eq_true rfl)) dX8_hours_6 ⟨Nat.le_of_ble_eq_true rfl, Nat.le_of_ble_eq_true rfl⟩) hS (fun q _ h => hFc q h) hFc (fun r_1 u9 t9 H1 locs ht hvm hw hB hz1 hk1 hS => ?_)
  obtain ⟨hP1, hK1, hD1⟩ := hB
  rw [ht] at hP1
  have hK1 := va_K.moved hvm.symm hK1
  obtain ⟨hP, hD⟩ := va_join (wr := [(h0, .inr (8, [.ref a1, .ref a2, .ref a3, .ref a4, .ref a5, .ref a6, .ref a7, .ref a8, .ref a9, .int 0, .int 0, .int 0, .int 0, .int 0, .int 0]))]) (w1 := []) hP hD [1, 2, 3, 4, 5] [0] rfl rfl (by decide) (by decide) hk1 hFc hP1 hD1
  have hK := (hK.sub (tys' := [(g1, .array .int), (ky, .int), (kz, .boolean), (kt, .int)]) [0, 1, 2, 3] rfl).app hK1
  generalize H1 = H at hP hS ⊢
  have hK : va_K (dC, dI) vwCl [(g1, .array .int), (ky, .int), (kz, .boolean), (kt, .int)] s := hK
  have hP : va_P (dC, dI) vwCl [(h0, .inr (8, [.ref a1, .ref a2, .ref a3, .ref a4, .ref a5, .ref a6, .ref a7, .ref a8, .ref a9, .int 0, .int 0, .int 0, .int 0, .int 0, .int 0]))] H := hP
  have hD : va_D A [(h0, .inr (8, [.ref a1, .ref a2, .ref a3, .ref a4, .ref a5, .ref a6, .ref a7, .ref a8, .ref a9, .int 0, .int 0, .int 0, .int 0, .int 0, .int 0]))] := hD
  try dsimp only at hw
  subst hw
  refine W.widen (k := 0) (n := 0) (Nat.le_of_ble_eq_true rfl) (Nat.le_of_ble_eq_true rfl) ?_
  have hP9 := hP.sub (ws' := []) [] rfl
  have hD9 := hD.sub (ws' := []) [] (by decide) rfl
  have hK9 := hK.sub (tys' := []) [] rfl
  refine W.widen (k := 0) (n := 0) (Nat.le_of_ble_eq_true rfl) (Nat.le_of_ble_eq_true rfl) ?_
  exact W.iret (v := sp_hr p0 p1) hx hb hr (fun t9 ht hW => ⟨⟨_, (), rfl, rfl, by rw [ht]; exact hP9, va_K.moved hW.alike hK9, hD9⟩, hS.F ht⟩) hS.2.2 dX8_hours_9

set_option maxHeartbeats 4000000 in
set_option maxRecDepth 100000 in
theorem c_X8_snow (l : Launch) (dC : Nat → ClassId) (dI : Nat → Nat → Nat) (h0 : Nat) (a1 : Nat) (a2 : Nat) (a3 : Nat) (a4 : Nat) (a5 : Nat) (a6 : Nat) (a7 : Nat) (a8 : Nat) (a9 : Nat) (b1 : Nat) (b2 : Nat) (b3 : Nat) (b4 : Nat) (b5 : Nat) (y1 : Nat) (g1 : ClassId) (ky : ClassId) (gf : Nat → Option Nat) (p0 : Int32) (p1 : Int32) (p2 : Int32) (sz : Nat) (hy : ¬ sp_st p0 = 0 → gf p0.toNatClampNeg = some y1) : Met l yX8_snow wsX8_snow ({ frames := 2, cells := 0, slots := 0, locals := 42 }) (va_Pc [.ref h0, .int p0, .int p1, .int p2] (cP dC dI [(h0, .inr (8, [.ref a1, .ref a2, .ref a3, .ref a4, .ref a5, .ref a6, .ref a7, .ref a8, .ref a9, .int 0, .int 0, .int 0, .int 0, .int 0, .int 0])), (a2, .inr (3, [.ref b1, .ref b2, .ref b3, .ref b4, .ref b5])), (b1, .inl (g1, 12, .inr (.inr (.inr (.inr gf))))), (y1, .inl (ky, 12, .inl (fun _ => 0)))] [(g1, .array .int), (ky, .int)] sz)) (vp_Si (fun r => r = 0)) 0 0 (fun _ => False) := by
  refine Met.ofW (cc := cX8_snow) (maxL := 4) (ret := (some .boolean)) (by decide) rfl ?_
  intro p e s m args below meth c s₁ B hml hv
  obtain ⟨rfl, hsz, hP, hK, hD0, hN⟩ := hv
  have hx := B.exec
  have hb := B.bytes
  have hr := B.returns
  have hts := atoms_spec (ws := wsX8_snow) B.pre
  have hown : s.vm.findClass RX8 = some m.cls := findClass_of_methodNamed B.named
  have hlocks := B.notSynchronized
  subst hsz
  have hin8 : ∀ w ∈ u_ws RX8 TX8 15, w ∈ wsX8_snow := by decide +kernel
  have hD := hD0
  have hP : va_P (dC, dI) vwCl [(h0, .inr (8, [.ref a1, .ref a2, .ref a3, .ref a4, .ref a5, .ref a6, .ref a7, .ref a8, .ref a9, .int 0, .int 0, .int 0, .int 0, .int 0, .int 0])), (a2, .inr (3, [.ref b1, .ref b2, .ref b3, .ref b4, .ref b5])), (b1, .inl (g1, 12, .inr (.inr (.inr (.inr gf))))), (y1, .inl (ky, 12, .inl (fun _ => 0)))] s.heap := hP
  have hl := lv_entry ([.ref h0, .int p0, .int p1, .int p2]) (n := 4) (Nat.le_of_ble_eq_true rfl)
  rw [lg_entry_eq]
  generalize (lg_sl ([.ref h0, .int p0, .int p1, .int p2]) ++ List.replicate (4 - (lg_sl ([.ref h0, .int p0, .int p1, .int p2])).length) Slot.unset).toArray = ls at hl ⊢
  have hl : lv_has ls 4 [(0, .ref h0), (1, .int p0), (2, .int p1), (3, .int p2)] := hl
  refine lv_aload_n hx hb dX8_snow_0 rfl (lv_at hl 0 rfl) ?_
  refine va_get (D := (dC, dI)) (ci := 8) (v := .ref a2) (C := RX8) (T := TX8) (N := 15) hx hb hts hin8 hown hK hP 0 rfl rfl 1 (by decide) (hts (.fieldLink RX8 19 "YamRiders" "roads" "LYamRiders$Roads;") (by decide +kernel)) (fun _ h9 => h9) rfl dX8_snow_1 ?_
  refine lv_iload_n hx hb dX8_snow_4 rfl (lv_at hl 1 rfl) ?_
  refine lv_iload_n hx hb dX8_snow_5 rfl (lv_at hl 2 rfl) ?_
  have hPc := hP.sub (ws' := [(a2, .inr (3, [.ref b1, .ref b2, .ref b3, .ref b4, .ref b5])), (b1, .inl (g1, 12, .inr (.inr (.inr (.inr gf))))), (y1, .inl (ky, 12, .inl (fun _ => 0)))]) [1, 2, 3] rfl
  have hDc := hD.sub (ws' := [(a2, .inr (3, [.ref b1, .ref b2, .ref b3, .ref b4, .ref b5])), (b1, .inl (g1, 12, .inr (.inr (.inr (.inr gf))))), (y1, .inl (ky, 12, .inl (fun _ => 0)))]) [1, 2, 3] (by decide) rfl
  have hKc := hK.sub (tys' := [(g1, .array .int), (ky, .int)]) [0, 1] rfl
  refine cs_i (va_runV (As := [.int p0, .int p1]) (rest := []) ⟨hx, hb, hml, hown, hts⟩ (c_X3_timeBetween l dC dI a2 b1 b2 b3 b4 b5 y1 g1 ky gf p0 p1 s.heap.size hy) (cwV 2 hts gX8_snow_X3_timeBetween rfl rfl rfl (by decide +kernel) ⟨Nat.le_of_ble_eq_true rfl, Nat.le_of_ble_eq_true rfl⟩) ⟨c_blind, va_recv hKc hPc (ci := 3) (q0 := 0) rfl rfl, c_pre hPc hKc hDc hN⟩ rfl rfl hl.1 rfl (lv_room (Nat.le_of_ble_eq_true rfl)) dX8_snow_6 ⟨Nat.le_of_ble_eq_true rfl, Nat.le_of_ble_eq_true rfl⟩) (fun r_1 hr_1 => ?_)
  subst hr_1
  refine lv_iconst (v := (-1)) hx hb dX8_snow_9 (by decide) ?_
  refine lv_icmp_eq (tgt := 23) hx hb dX8_snow_10 (by decide) (fun _ => ?_) (fun c_2 => by first | exact absurd c_2 (by decide) | exact absurd (by decide) c_2)
  refine lv_iconst (v := 0) hx hb dX8_snow_23 (by decide) ?_
  exact W.zret (v := 0) hx hb hr rfl (fun t9 ht hW => ⟨_, rfl, rfl, ht⟩) (fun q h => nomatch h) dX8_snow_24

set_option maxHeartbeats 4000000 in
set_option maxRecDepth 100000 in
theorem c_X3_setSnow (l : Launch) (dC : Nat → ClassId) (dI : Nat → Nat → Nat) (h0 : Nat) (b1 : Nat) (b2 : Nat) (b3 : Nat) (b4 : Nat) (b5 : Nat) (y3 : Nat) (y4 : Nat) (g2 : ClassId) (ky : ClassId) (gh : Nat → Option Nat) (f3 : Nat → Int32) (f4 : Nat → Int32) (p0 : Int32) (p1 : Int32) (p2 : Int32) (sz : Nat) (hu : ¬ sp_st p0 = 0) (hv : ¬ sp_st p1 = 0) (hy3 : gh p0.toNatClampNeg = some y3) (hy4 : gh p1.toNatClampNeg = some y4) : Met l yX3_setSnow wsX3_setSnow ({ frames := 1, cells := 0, slots := 0, locals := 20 }) (va_Pc [.ref h0, .int p0, .int p1, .int p2] (cP dC dI [(h0, .inr (3, [.ref b1, .ref b2, .ref b3, .ref b4, .ref b5])), (b2, .inl (g2, 12, .inr (.inr (.inr (.inr gh))))), (y3, .inl (ky, 12, .inl f3)), (y4, .inl (ky, 12, .inl f4))] [(g2, .array .int), (ky, .int)] sz)) (va_Qv (fun (_ : Unit) => True) (fun (_ : Unit) t9 => cQ dC dI [] [] (va_A [(h0, .inr (3, [.ref b1, .ref b2, .ref b3, .ref b4, .ref b5])), (b2, .inl (g2, 12, .inr (.inr (.inr (.inr gh))))), (y3, .inl (ky, 12, .inl f3)), (y4, .inl (ky, 12, .inl f4))] sz) t9) (va_A [(h0, .inr (3, [.ref b1, .ref b2, .ref b3, .ref b4, .ref b5])), (b2, .inl (g2, 12, .inr (.inr (.inr (.inr gh))))), (y3, .inl (ky, 12, .inl f3)), (y4, .inl (ky, 12, .inl f4))] sz)) 0 0 (va_A [(h0, .inr (3, [.ref b1, .ref b2, .ref b3, .ref b4, .ref b5])), (b2, .inl (g2, 12, .inr (.inr (.inr (.inr gh))))), (y3, .inl (ky, 12, .inl f3)), (y4, .inl (ky, 12, .inl f4))] sz) := by
  refine Met.ofW (cc := cX3_setSnow) (maxL := 4) (ret := none) (by decide) rfl ?_
  intro p e s m args below meth c s₁ B hml hv
  obtain ⟨rfl, hsz, hP, hK, hD0, hN⟩ := hv
  have hx := B.exec
  have hb := B.bytes
  have hr := B.returns
  have hts := atoms_spec (ws := wsX3_setSnow) B.pre
  have hown : s.vm.findClass RX3 = some m.cls := findClass_of_methodNamed B.named
  have hlocks := B.notSynchronized
  subst hsz
  have hin3 : ∀ w ∈ u_ws RX3 TX3 5, w ∈ wsX3_setSnow := by decide +kernel
  have hD := hD0.self (sz := s.heap.size)
  generalize hAe : va_A [(h0, .inr (3, [.ref b1, .ref b2, .ref b3, .ref b4, .ref b5])), (b2, .inl (g2, 12, .inr (.inr (.inr (.inr gh))))), (y3, .inl (ky, 12, .inl f3)), (y4, .inl (ky, 12, .inl f4))] s.heap.size = A at hD ⊢
  have hA : ∀ q : Nat, s.heap.size ≤ q → A q := fun q h => by rw [← hAe]; exact Or.inr h
  have hS : va_S A s.heap s.heap [] := va_S.rf
  have hP : va_P (dC, dI) vwCl [(h0, .inr (3, [.ref b1, .ref b2, .ref b3, .ref b4, .ref b5])), (b2, .inl (g2, 12, .inr (.inr (.inr (.inr gh))))), (y3, .inl (ky, 12, .inl f3)), (y4, .inl (ky, 12, .inl f4))] s.heap := hP
  have hl := lv_entry ([.ref h0, .int p0, .int p1, .int p2]) (n := 4) (Nat.le_of_ble_eq_true rfl)
  rw [lg_entry_eq]
  generalize (lg_sl ([.ref h0, .int p0, .int p1, .int p2]) ++ List.replicate (4 - (lg_sl ([.ref h0, .int p0, .int p1, .int p2])).length) Slot.unset).toArray = ls at hl ⊢
  have hl : lv_has ls 4 [(0, .ref h0), (1, .int p0), (2, .int p1), (3, .int p2)] := hl
  refine lv_iload_n hx hb dX3_setSnow_0 rfl (lv_at hl 1 rfl) ?_
  have hPc := hP.sub (ws' := []) [] rfl
  have hDc := hD.sub (ws' := []) [] (by decide) rfl
  have hKc := hK.sub (tys' := []) [] rfl
  refine cs_i (va_runSN (As := [.int p0]) (rest := []) ⟨hx, hb, hml, hown, hts⟩ (c_X8_isStation l dC dI p0 s.heap.size) ⟨va_cnB 1 hts ggX3_setSnow_X8_isStation rfl rfl rfl (hN.1 (.methodLinkNest RX3 30 yX8_isStation "YamRiders") (by decide +kernel)) (hts (.initialized RX8) (by decide +kernel)) (by decide +kernel) ⟨Nat.le_of_ble_eq_true rfl, Nat.le_of_ble_eq_true rfl⟩, hts (.static yX8_isStation) (by decide +kernel), trivial⟩ ⟨c_blind, c_pre hPc hKc hDc hN⟩ rfl rfl hl.1 rfl (lv_room (Nat.le_of_ble_eq_true rfl)) dX3_setSnow_1 ⟨Nat.le_of_ble_eq_true rfl, Nat.le_of_ble_eq_true rfl⟩) (fun r_1 hr_1 => ?_)
  subst hr_1
  refine lv_if_eq (tgt := 32) hx hb dX3_setSnow_4 (by decide) (fun c_2 => by first | exact absurd c_2 hu | exact absurd hu c_2) (fun _ => ?_)
  refine lv_iload_n hx hb dX3_setSnow_7 rfl (lv_at hl 2 rfl) ?_
  have hPc := hP.sub (ws' := []) [] rfl
  have hDc := hD.sub (ws' := []) [] (by decide) rfl
  have hKc := hK.sub (tys' := []) [] rfl
  refine cs_i (va_runSN (As := [.int p1]) (rest := []) ⟨hx, hb, hml, hown, hts⟩ (c_X8_isStation l dC dI p1 s.heap.size) ⟨va_cnB 1 hts ggX3_setSnow_X8_isStation rfl rfl rfl (hN.1 (.methodLinkNest RX3 30 yX8_isStation "YamRiders") (by decide +kernel)) (hts (.initialized RX8) (by decide +kernel)) (by decide +kernel) ⟨Nat.le_of_ble_eq_true rfl, Nat.le_of_ble_eq_true rfl⟩, hts (.static yX8_isStation) (by decide +kernel), trivial⟩ ⟨c_blind, c_pre hPc hKc hDc hN⟩ rfl rfl hl.1 rfl (lv_room (Nat.le_of_ble_eq_true rfl)) dX3_setSnow_8 ⟨Nat.le_of_ble_eq_true rfl, Nat.le_of_ble_eq_true rfl⟩) (fun r_3 hr_3 => ?_)
  subst hr_3
  refine lv_if_eq (tgt := 32) hx hb dX3_setSnow_11 (by decide) (fun c_4 => by first | exact absurd c_4 hv | exact absurd hv c_4) (fun _ => ?_)
  refine lv_aload_n hx hb dX3_setSnow_14 rfl (lv_at hl 0 rfl) ?_
  refine va_get (D := (dC, dI)) (ci := 3) (v := .ref b2) (C := RX3) (T := TX3) (N := 5) hx hb hts hin3 hown hK hP 0 rfl rfl 1 (by decide) (hts (.fieldLink RX3 16 "YamRiders$Roads" "snowOn" "[[I") (by decide +kernel)) (fun _ h9 => h9) rfl dX3_setSnow_15 ?_
  refine lv_iload_n hx hb dX3_setSnow_18 rfl (lv_at hl 1 rfl) ?_
  refine va_aldg hx hb hK hP 1 0 rfl rfl (st_in hu) hy3 dX3_setSnow_19 ?_
  refine lv_iload_n hx hb dX3_setSnow_20 rfl (lv_at hl 2 rfl) ?_
  refine lv_iload_n hx hb dX3_setSnow_21 rfl (lv_at hl 3 rfl) ?_
  refine va_iast hx hb hK hP hD hS 2 1 rfl rfl (st_in hv) dX3_setSnow_22 (fun H locs hP hD hS => ?_)
  have hP : va_P (dC, dI) vwCl [(h0, .inr (3, [.ref b1, .ref b2, .ref b3, .ref b4, .ref b5])), (b2, .inl (g2, 12, .inr (.inr (.inr (.inr gh))))), (y3, .inl (ky, 12, .inl (upd f3 p1.toNatClampNeg p2))), (y4, .inl (ky, 12, .inl f4))] H := hP
  have hD : va_D A [(h0, .inr (3, [.ref b1, .ref b2, .ref b3, .ref b4, .ref b5])), (b2, .inl (g2, 12, .inr (.inr (.inr (.inr gh))))), (y3, .inl (ky, 12, .inl (upd f3 p1.toNatClampNeg p2))), (y4, .inl (ky, 12, .inl f4))] := hD
  obtain ⟨f_5, ef_5⟩ : ∃ w9 : Nat → Int32, w9 = upd f3 p1.toNatClampNeg p2 := ⟨_, rfl⟩
  rw [← ef_5] at hP hD
  refine lv_aload_n hx hb dX3_setSnow_23 rfl (lv_at hl 0 rfl) ?_
  refine va_get (D := (dC, dI)) (ci := 3) (v := .ref b2) (C := RX3) (T := TX3) (N := 5) hx hb hts hin3 hown hK hP 0 rfl rfl 1 (by decide) (hts (.fieldLink RX3 16 "YamRiders$Roads" "snowOn" "[[I") (by decide +kernel)) (fun _ h9 => h9) rfl dX3_setSnow_24 ?_
  refine lv_iload_n hx hb dX3_setSnow_27 rfl (lv_at hl 2 rfl) ?_
  refine va_aldg hx hb hK hP 1 0 rfl rfl (st_in hv) hy4 dX3_setSnow_28 ?_
  refine lv_iload_n hx hb dX3_setSnow_29 rfl (lv_at hl 1 rfl) ?_
  refine lv_iload_n hx hb dX3_setSnow_30 rfl (lv_at hl 3 rfl) ?_
  refine va_iast hx hb hK hP hD hS 3 1 rfl rfl (st_in hu) dX3_setSnow_31 (fun H locs hP hD hS => ?_)
  have hP : va_P (dC, dI) vwCl [(h0, .inr (3, [.ref b1, .ref b2, .ref b3, .ref b4, .ref b5])), (b2, .inl (g2, 12, .inr (.inr (.inr (.inr gh))))), (y3, .inl (ky, 12, .inl f_5)), (y4, .inl (ky, 12, .inl (upd f4 p0.toNatClampNeg p2)))] H := hP
  have hD : va_D A [(h0, .inr (3, [.ref b1, .ref b2, .ref b3, .ref b4, .ref b5])), (b2, .inl (g2, 12, .inr (.inr (.inr (.inr gh))))), (y3, .inl (ky, 12, .inl f_5)), (y4, .inl (ky, 12, .inl (upd f4 p0.toNatClampNeg p2)))] := hD
  obtain ⟨f_6, ef_6⟩ : ∃ w9 : Nat → Int32, w9 = upd f4 p0.toNatClampNeg p2 := ⟨_, rfl⟩
  rw [← ef_6] at hP hD
  have hP9 := hP.sub (ws' := []) [] rfl
  have hD9 := hD.sub (ws' := []) [] (by decide) rfl
  have hK9 := hK.sub (tys' := []) [] rfl
  refine W.widen (k := 0) (n := 0) (Nat.le_of_ble_eq_true rfl) (Nat.le_of_ble_eq_true rfl) ?_
  exact W.vret hx hb hr (fun t9 ht hW => ⟨⟨(), rfl, trivial, by rw [ht]; exact hP9, va_K.moved hW.alike hK9, hD9⟩, hS.F ht⟩) hS.2.2 dX3_setSnow_32

set_option maxHeartbeats 4000000 in
set_option maxRecDepth 100000 in
theorem c_X3_lay (l : Launch) (dC : Nat → ClassId) (dI : Nat → Nat → Nat) (h0 : Nat) (b1 : Nat) (b2 : Nat) (b3 : Nat) (b4 : Nat) (b5 : Nat) (y1 : Nat) (y2 : Nat) (y3 : Nat) (y4 : Nat) (g1 : ClassId) (g2 : ClassId) (ky : ClassId) (gf : Nat → Option Nat) (gh : Nat → Option Nat) (f1 : Nat → Int32) (f2 : Nat → Int32) (f3 : Nat → Int32) (f4 : Nat → Int32) (p0 : Int32) (p1 : Int32) (p2 : Int32) (sz : Nat) (hu : ¬ sp_st p0 = 0) (hv : ¬ sp_st p1 = 0) (hy1 : gf p0.toNatClampNeg = some y1) (hy2 : gf p1.toNatClampNeg = some y2) (hy3 : gh p0.toNatClampNeg = some y3) (hy4 : gh p1.toNatClampNeg = some y4) : Met l yX3_lay wsX3_lay ({ frames := 2, cells := 0, slots := 0, locals := 43 }) (va_Pc [.ref h0, .int p0, .int p1, .int p2] (cP dC dI [(h0, .inr (3, [.ref b1, .ref b2, .ref b3, .ref b4, .ref b5])), (b1, .inl (g1, 12, .inr (.inr (.inr (.inr gf))))), (b2, .inl (g2, 12, .inr (.inr (.inr (.inr gh))))), (y1, .inl (ky, 12, .inl f1)), (y2, .inl (ky, 12, .inl f2)), (y3, .inl (ky, 12, .inl f3)), (y4, .inl (ky, 12, .inl f4))] [(g1, .array .int), (g2, .array .int), (ky, .int)] sz)) (va_Qv (fun (_ : Unit) => True) (fun (_ : Unit) t9 => cQ dC dI [] [] (va_A [(h0, .inr (3, [.ref b1, .ref b2, .ref b3, .ref b4, .ref b5])), (b1, .inl (g1, 12, .inr (.inr (.inr (.inr gf))))), (b2, .inl (g2, 12, .inr (.inr (.inr (.inr gh))))), (y1, .inl (ky, 12, .inl f1)), (y2, .inl (ky, 12, .inl f2)), (y3, .inl (ky, 12, .inl f3)), (y4, .inl (ky, 12, .inl f4))] sz) t9) (va_A [(h0, .inr (3, [.ref b1, .ref b2, .ref b3, .ref b4, .ref b5])), (b1, .inl (g1, 12, .inr (.inr (.inr (.inr gf))))), (b2, .inl (g2, 12, .inr (.inr (.inr (.inr gh))))), (y1, .inl (ky, 12, .inl f1)), (y2, .inl (ky, 12, .inl f2)), (y3, .inl (ky, 12, .inl f3)), (y4, .inl (ky, 12, .inl f4))] sz)) 0 0 (va_A [(h0, .inr (3, [.ref b1, .ref b2, .ref b3, .ref b4, .ref b5])), (b1, .inl (g1, 12, .inr (.inr (.inr (.inr gf))))), (b2, .inl (g2, 12, .inr (.inr (.inr (.inr gh))))), (y1, .inl (ky, 12, .inl f1)), (y2, .inl (ky, 12, .inl f2)), (y3, .inl (ky, 12, .inl f3)), (y4, .inl (ky, 12, .inl f4))] sz) := by
  refine Met.ofW (cc := cX3_lay) (maxL := 4) (ret := none) (by decide) rfl ?_
  intro p e s m args below meth c s₁ B hml hv
  obtain ⟨rfl, hsz, hP, hK, hD0, hN⟩ := hv
  have hx := B.exec
  have hb := B.bytes
  have hr := B.returns
  have hts := atoms_spec (ws := wsX3_lay) B.pre
  have hown : s.vm.findClass RX3 = some m.cls := findClass_of_methodNamed B.named
  have hlocks := B.notSynchronized
  subst hsz
  have hin3 : ∀ w ∈ u_ws RX3 TX3 5, w ∈ wsX3_lay := by decide +kernel
  have hD := hD0.self (sz := s.heap.size)
  generalize hAe : va_A [(h0, .inr (3, [.ref b1, .ref b2, .ref b3, .ref b4, .ref b5])), (b1, .inl (g1, 12, .inr (.inr (.inr (.inr gf))))), (b2, .inl (g2, 12, .inr (.inr (.inr (.inr gh))))), (y1, .inl (ky, 12, .inl f1)), (y2, .inl (ky, 12, .inl f2)), (y3, .inl (ky, 12, .inl f3)), (y4, .inl (ky, 12, .inl f4))] s.heap.size = A at hD ⊢
  have hA : ∀ q : Nat, s.heap.size ≤ q → A q := fun q h => by rw [← hAe]; exact Or.inr h
  have hS : va_S A s.heap s.heap [] := va_S.rf
  have hP : va_P (dC, dI) vwCl [(h0, .inr (3, [.ref b1, .ref b2, .ref b3, .ref b4, .ref b5])), (b1, .inl (g1, 12, .inr (.inr (.inr (.inr gf))))), (b2, .inl (g2, 12, .inr (.inr (.inr (.inr gh))))), (y1, .inl (ky, 12, .inl f1)), (y2, .inl (ky, 12, .inl f2)), (y3, .inl (ky, 12, .inl f3)), (y4, .inl (ky, 12, .inl f4))] s.heap := hP
  have hl := lv_entry ([.ref h0, .int p0, .int p1, .int p2]) (n := 4) (Nat.le_of_ble_eq_true rfl)
  rw [lg_entry_eq]
  generalize (lg_sl ([.ref h0, .int p0, .int p1, .int p2]) ++ List.replicate (4 - (lg_sl ([.ref h0, .int p0, .int p1, .int p2])).length) Slot.unset).toArray = ls at hl ⊢
  have hl : lv_has ls 4 [(0, .ref h0), (1, .int p0), (2, .int p1), (3, .int p2)] := hl
  refine lv_iload_n hx hb dX3_lay_0 rfl (lv_at hl 1 rfl) ?_
  have hPc := hP.sub (ws' := []) [] rfl
  have hDc := hD.sub (ws' := []) [] (by decide) rfl
  have hKc := hK.sub (tys' := []) [] rfl
  refine cs_i (va_runSN (As := [.int p0]) (rest := []) ⟨hx, hb, hml, hown, hts⟩ (c_X8_isStation l dC dI p0 s.heap.size) ⟨va_cnB 1 hts ggX3_lay_X8_isStation rfl rfl rfl (hN.1 (.methodLinkNest RX3 30 yX8_isStation "YamRiders") (by decide +kernel)) (hts (.initialized RX8) (by decide +kernel)) (by decide +kernel) ⟨Nat.le_of_ble_eq_true rfl, Nat.le_of_ble_eq_true rfl⟩, hts (.static yX8_isStation) (by decide +kernel), trivial⟩ ⟨c_blind, c_pre hPc hKc hDc hN⟩ rfl rfl hl.1 rfl (lv_room (Nat.le_of_ble_eq_true rfl)) dX3_lay_1 ⟨Nat.le_of_ble_eq_true rfl, Nat.le_of_ble_eq_true rfl⟩) (fun r_1 hr_1 => ?_)
  subst hr_1
  refine lv_if_eq (tgt := 39) hx hb dX3_lay_4 (by decide) (fun c_2 => by first | exact absurd c_2 hu | exact absurd hu c_2) (fun _ => ?_)
  refine lv_iload_n hx hb dX3_lay_7 rfl (lv_at hl 2 rfl) ?_
  have hPc := hP.sub (ws' := []) [] rfl
  have hDc := hD.sub (ws' := []) [] (by decide) rfl
  have hKc := hK.sub (tys' := []) [] rfl
  refine cs_i (va_runSN (As := [.int p1]) (rest := []) ⟨hx, hb, hml, hown, hts⟩ (c_X8_isStation l dC dI p1 s.heap.size) ⟨va_cnB 1 hts ggX3_lay_X8_isStation rfl rfl rfl (hN.1 (.methodLinkNest RX3 30 yX8_isStation "YamRiders") (by decide +kernel)) (hts (.initialized RX8) (by decide +kernel)) (by decide +kernel) ⟨Nat.le_of_ble_eq_true rfl, Nat.le_of_ble_eq_true rfl⟩, hts (.static yX8_isStation) (by decide +kernel), trivial⟩ ⟨c_blind, c_pre hPc hKc hDc hN⟩ rfl rfl hl.1 rfl (lv_room (Nat.le_of_ble_eq_true rfl)) dX3_lay_8 ⟨Nat.le_of_ble_eq_true rfl, Nat.le_of_ble_eq_true rfl⟩) (fun r_3 hr_3 => ?_)
  subst hr_3
  refine lv_if_eq (tgt := 39) hx hb dX3_lay_11 (by decide) (fun c_4 => by first | exact absurd c_4 hv | exact absurd hv c_4) (fun _ => ?_)
  refine lv_aload_n hx hb dX3_lay_14 rfl (lv_at hl 0 rfl) ?_
  refine va_get (D := (dC, dI)) (ci := 3) (v := .ref b1) (C := RX3) (T := TX3) (N := 5) hx hb hts hin3 hown hK hP 0 rfl rfl 0 (by decide) (hts (.fieldLink RX3 11 "YamRiders$Roads" "hoursOf" "[[I") (by decide +kernel)) (fun _ h9 => h9) rfl dX3_lay_15 ?_
  refine lv_iload_n hx hb dX3_lay_18 rfl (lv_at hl 1 rfl) ?_
  refine va_aldg hx hb hK hP 1 0 rfl rfl (st_in hu) hy1 dX3_lay_19 ?_
  refine lv_iload_n hx hb dX3_lay_20 rfl (lv_at hl 2 rfl) ?_
  refine lv_iload_n hx hb dX3_lay_21 rfl (lv_at hl 3 rfl) ?_
  refine va_iast hx hb hK hP hD hS 3 2 rfl rfl (st_in hv) dX3_lay_22 (fun H locs hP hD hS => ?_)
  have hP : va_P (dC, dI) vwCl [(h0, .inr (3, [.ref b1, .ref b2, .ref b3, .ref b4, .ref b5])), (b1, .inl (g1, 12, .inr (.inr (.inr (.inr gf))))), (b2, .inl (g2, 12, .inr (.inr (.inr (.inr gh))))), (y1, .inl (ky, 12, .inl (upd f1 p1.toNatClampNeg p2))), (y2, .inl (ky, 12, .inl f2)), (y3, .inl (ky, 12, .inl f3)), (y4, .inl (ky, 12, .inl f4))] H := hP
  have hD : va_D A [(h0, .inr (3, [.ref b1, .ref b2, .ref b3, .ref b4, .ref b5])), (b1, .inl (g1, 12, .inr (.inr (.inr (.inr gf))))), (b2, .inl (g2, 12, .inr (.inr (.inr (.inr gh))))), (y1, .inl (ky, 12, .inl (upd f1 p1.toNatClampNeg p2))), (y2, .inl (ky, 12, .inl f2)), (y3, .inl (ky, 12, .inl f3)), (y4, .inl (ky, 12, .inl f4))] := hD
  obtain ⟨f_5, ef_5⟩ : ∃ w9 : Nat → Int32, w9 = upd f1 p1.toNatClampNeg p2 := ⟨_, rfl⟩
  rw [← ef_5] at hP hD
  refine lv_aload_n hx hb dX3_lay_23 rfl (lv_at hl 0 rfl) ?_
  refine va_get (D := (dC, dI)) (ci := 3) (v := .ref b1) (C := RX3) (T := TX3) (N := 5) hx hb hts hin3 hown hK hP 0 rfl rfl 0 (by decide) (hts (.fieldLink RX3 11 "YamRiders$Roads" "hoursOf" "[[I") (by decide +kernel)) (fun _ h9 => h9) rfl dX3_lay_24 ?_
  refine lv_iload_n hx hb dX3_lay_27 rfl (lv_at hl 2 rfl) ?_
  refine va_aldg hx hb hK hP 1 0 rfl rfl (st_in hv) hy2 dX3_lay_28 ?_
  refine lv_iload_n hx hb dX3_lay_29 rfl (lv_at hl 1 rfl) ?_
  refine lv_iload_n hx hb dX3_lay_30 rfl (lv_at hl 3 rfl) ?_
  refine va_iast hx hb hK hP hD hS 4 2 rfl rfl (st_in hu) dX3_lay_31 (fun H locs hP hD hS => ?_)
  have hP : va_P (dC, dI) vwCl [(h0, .inr (3, [.ref b1, .ref b2, .ref b3, .ref b4, .ref b5])), (b1, .inl (g1, 12, .inr (.inr (.inr (.inr gf))))), (b2, .inl (g2, 12, .inr (.inr (.inr (.inr gh))))), (y1, .inl (ky, 12, .inl f_5)), (y2, .inl (ky, 12, .inl (upd f2 p0.toNatClampNeg p2))), (y3, .inl (ky, 12, .inl f3)), (y4, .inl (ky, 12, .inl f4))] H := hP
  have hD : va_D A [(h0, .inr (3, [.ref b1, .ref b2, .ref b3, .ref b4, .ref b5])), (b1, .inl (g1, 12, .inr (.inr (.inr (.inr gf))))), (b2, .inl (g2, 12, .inr (.inr (.inr (.inr gh))))), (y1, .inl (ky, 12, .inl f_5)), (y2, .inl (ky, 12, .inl (upd f2 p0.toNatClampNeg p2))), (y3, .inl (ky, 12, .inl f3)), (y4, .inl (ky, 12, .inl f4))] := hD
  obtain ⟨f_6, ef_6⟩ : ∃ w9 : Nat → Int32, w9 = upd f2 p0.toNatClampNeg p2 := ⟨_, rfl⟩
  rw [← ef_6] at hP hD
  refine lv_aload_n hx hb dX3_lay_32 rfl (lv_at hl 0 rfl) ?_
  refine lv_iload_n hx hb dX3_lay_33 rfl (lv_at hl 1 rfl) ?_
  refine lv_iload_n hx hb dX3_lay_34 rfl (lv_at hl 2 rfl) ?_
  refine lv_iconst (v := 0) hx hb dX3_lay_35 (by decide) ?_
  have hPc := hP.sub (ws' := [(h0, .inr (3, [.ref b1, .ref b2, .ref b3, .ref b4, .ref b5])), (b2, .inl (g2, 12, .inr (.inr (.inr (.inr gh))))), (y3, .inl (ky, 12, .inl f3)), (y4, .inl (ky, 12, .inl f4))]) [0, 2, 5, 6] rfl
  have hDc := hD.sub (ws' := [(h0, .inr (3, [.ref b1, .ref b2, .ref b3, .ref b4, .ref b5])), (b2, .inl (g2, 12, .inr (.inr (.inr (.inr gh))))), (y3, .inl (ky, 12, .inl f3)), (y4, .inl (ky, 12, .inl f4))]) [0, 2, 5, 6] (by decide) rfl
  have hKc := hK.sub (tys' := [(g2, .array .int), (ky, .int)]) [1, 2] rfl
  have hFc := va_free (wc := [(h0, .inr (3, [.ref b1, .ref b2, .ref b3, .ref b4, .ref b5])), (b2, .inl (g2, 12, .inr (.inr (.inr (.inr gh))))), (y3, .inl (ky, 12, .inl f3)), (y4, .inl (ky, 12, .inl f4))]) hD hS hA [0, 2, 5, 6] rfl
  refine va_callv (va_runV (As := [.int p0, .int p1, .int 0]) (rest := []) ⟨hx, hb, hml, hown, hts⟩ (c_X3_setSnow l dC dI h0 b1 b2 b3 b4 b5 y3 y4 g2 ky gh f3 f4 p0 p1 0 H.size hu hv hy3 hy4) (cwV 3 hts gX3_lay_X3_setSnow rfl rfl rfl (by decide +kernel) ⟨Nat.le_of_ble_eq_true rfl, Nat.le_of_ble_eq_true rfl⟩) ⟨c_blind, va_recv hKc hPc (ci := 3) (q0 := 0) rfl rfl, c_pre hPc hKc hDc hN⟩ rfl rfl hl.1 rfl (lv_room (Nat.le_of_ble_eq_true rfl)) dX3_lay_36 ⟨Nat.le_of_ble_eq_true rfl, Nat.le_of_ble_eq_true rfl⟩) hS (fun q _ h => hFc q h) hFc (fun u9 t9 H1 locs ht hvm hw hB hz1 hk1 hS => ?_)
  obtain ⟨hP1, hK1, hD1⟩ := hB
  rw [ht] at hP1
  have hK1 := va_K.moved hvm.symm hK1
  obtain ⟨hP, hD⟩ := va_join (wr := [(b1, .inl (g1, 12, .inr (.inr (.inr (.inr gf))))), (y1, .inl (ky, 12, .inl f_5)), (y2, .inl (ky, 12, .inl f_6))]) (w1 := []) hP hD [0, 2, 5, 6] [1, 3, 4] rfl rfl (by decide) (by decide) hk1 hFc hP1 hD1
  have hK := (hK.sub (tys' := [(g1, .array .int), (g2, .array .int), (ky, .int)]) [0, 1, 2] rfl).app hK1
  generalize H1 = H at hP hS ⊢
  have hK : va_K (dC, dI) vwCl [(g1, .array .int), (g2, .array .int), (ky, .int)] s := hK
  have hP : va_P (dC, dI) vwCl [(b1, .inl (g1, 12, .inr (.inr (.inr (.inr gf))))), (y1, .inl (ky, 12, .inl f_5)), (y2, .inl (ky, 12, .inl f_6))] H := hP
  have hD : va_D A [(b1, .inl (g1, 12, .inr (.inr (.inr (.inr gf))))), (y1, .inl (ky, 12, .inl f_5)), (y2, .inl (ky, 12, .inl f_6))] := hD
  refine W.widen (k := 0) (n := 0) (Nat.le_of_ble_eq_true rfl) (Nat.le_of_ble_eq_true rfl) ?_
  have hP9 := hP.sub (ws' := []) [] rfl
  have hD9 := hD.sub (ws' := []) [] (by decide) rfl
  have hK9 := hK.sub (tys' := []) [] rfl
  refine W.widen (k := 0) (n := 0) (Nat.le_of_ble_eq_true rfl) (Nat.le_of_ble_eq_true rfl) ?_
  exact W.vret hx hb hr (fun t9 ht hW => ⟨⟨(), rfl, trivial, by rw [ht]; exact hP9, va_K.moved hW.alike hK9, hD9⟩, hS.F ht⟩) hS.2.2 dX3_lay_39

set_option maxHeartbeats 4000000 in
set_option maxRecDepth 100000 in
theorem c_X8_road (l : Launch) (dC : Nat → ClassId) (dI : Nat → Nat → Nat) (h0 : Nat) (a1 : Nat) (a2 : Nat) (a3 : Nat) (a4 : Nat) (a5 : Nat) (a6 : Nat) (a7 : Nat) (a8 : Nat) (a9 : Nat) (b1 : Nat) (b2 : Nat) (b3 : Nat) (b4 : Nat) (b5 : Nat) (y1 : Nat) (y2 : Nat) (y3 : Nat) (y4 : Nat) (g1 : ClassId) (g2 : ClassId) (ky : ClassId) (gf : Nat → Option Nat) (gh : Nat → Option Nat) (f1 : Nat → Int32) (f2 : Nat → Int32) (f3 : Nat → Int32) (f4 : Nat → Int32) (p0 : Int32) (p1 : Int32) (p2 : Int32) (sz : Nat) (hy : ¬ sp_st p0 = 0 → ¬ sp_st p1 = 0 → ¬ p0 = p1 → gf p0.toNatClampNeg = some y1 ∧ gf p1.toNatClampNeg = some y2 ∧ gh p0.toNatClampNeg = some y3 ∧ gh p1.toNatClampNeg = some y4) : Met l yX8_road wsX8_road ({ frames := 3, cells := 0, slots := 0, locals := 66 }) (va_Pc [.ref h0, .int p0, .int p1, .int p2] (cP dC dI [(h0, .inr (8, [.ref a1, .ref a2, .ref a3, .ref a4, .ref a5, .ref a6, .ref a7, .ref a8, .ref a9, .int 0, .int 0, .int 0, .int 0, .int 0, .int 0])), (a2, .inr (3, [.ref b1, .ref b2, .ref b3, .ref b4, .ref b5])), (b1, .inl (g1, 12, .inr (.inr (.inr (.inr gf))))), (b2, .inl (g2, 12, .inr (.inr (.inr (.inr gh))))), (y1, .inl (ky, 12, .inl f1)), (y2, .inl (ky, 12, .inl f2)), (y3, .inl (ky, 12, .inl f3)), (y4, .inl (ky, 12, .inl f4))] [(g1, .array .int), (g2, .array .int), (ky, .int)] sz)) (va_Qi (fun (r : Int32) (_ : Unit) => r = (if (sp_st p0) = 0 then 0 else (if (sp_st p1) = 0 then 0 else (if p0 = p1 then 0 else (if p2 < 0 then 0 else (if p2 ≤ 24 then 1 else 0)))))) (fun (_ : Unit) t9 => cQ dC dI [] [] (va_A [(h0, .inr (8, [.ref a1, .ref a2, .ref a3, .ref a4, .ref a5, .ref a6, .ref a7, .ref a8, .ref a9, .int 0, .int 0, .int 0, .int 0, .int 0, .int 0])), (a2, .inr (3, [.ref b1, .ref b2, .ref b3, .ref b4, .ref b5])), (b1, .inl (g1, 12, .inr (.inr (.inr (.inr gf))))), (b2, .inl (g2, 12, .inr (.inr (.inr (.inr gh))))), (y1, .inl (ky, 12, .inl f1)), (y2, .inl (ky, 12, .inl f2)), (y3, .inl (ky, 12, .inl f3)), (y4, .inl (ky, 12, .inl f4))] sz) t9) (va_A [(h0, .inr (8, [.ref a1, .ref a2, .ref a3, .ref a4, .ref a5, .ref a6, .ref a7, .ref a8, .ref a9, .int 0, .int 0, .int 0, .int 0, .int 0, .int 0])), (a2, .inr (3, [.ref b1, .ref b2, .ref b3, .ref b4, .ref b5])), (b1, .inl (g1, 12, .inr (.inr (.inr (.inr gf))))), (b2, .inl (g2, 12, .inr (.inr (.inr (.inr gh))))), (y1, .inl (ky, 12, .inl f1)), (y2, .inl (ky, 12, .inl f2)), (y3, .inl (ky, 12, .inl f3)), (y4, .inl (ky, 12, .inl f4))] sz)) 0 0 (va_A [(h0, .inr (8, [.ref a1, .ref a2, .ref a3, .ref a4, .ref a5, .ref a6, .ref a7, .ref a8, .ref a9, .int 0, .int 0, .int 0, .int 0, .int 0, .int 0])), (a2, .inr (3, [.ref b1, .ref b2, .ref b3, .ref b4, .ref b5])), (b1, .inl (g1, 12, .inr (.inr (.inr (.inr gf))))), (b2, .inl (g2, 12, .inr (.inr (.inr (.inr gh))))), (y1, .inl (ky, 12, .inl f1)), (y2, .inl (ky, 12, .inl f2)), (y3, .inl (ky, 12, .inl f3)), (y4, .inl (ky, 12, .inl f4))] sz) := by
  refine Met.ofW (cc := cX8_road) (maxL := 4) (ret := (some .boolean)) (by decide) rfl ?_
  intro p e s m args below meth c s₁ B hml hv
  obtain ⟨rfl, hsz, hP, hK, hD0, hN⟩ := hv
  have hx := B.exec
  have hb := B.bytes
  have hr := B.returns
  have hts := atoms_spec (ws := wsX8_road) B.pre
  have hown : s.vm.findClass RX8 = some m.cls := findClass_of_methodNamed B.named
  have hlocks := B.notSynchronized
  subst hsz
  have hin8 : ∀ w ∈ u_ws RX8 TX8 15, w ∈ wsX8_road := by decide +kernel
  have hD := hD0.self (sz := s.heap.size)
  generalize hAe : va_A [(h0, .inr (8, [.ref a1, .ref a2, .ref a3, .ref a4, .ref a5, .ref a6, .ref a7, .ref a8, .ref a9, .int 0, .int 0, .int 0, .int 0, .int 0, .int 0])), (a2, .inr (3, [.ref b1, .ref b2, .ref b3, .ref b4, .ref b5])), (b1, .inl (g1, 12, .inr (.inr (.inr (.inr gf))))), (b2, .inl (g2, 12, .inr (.inr (.inr (.inr gh))))), (y1, .inl (ky, 12, .inl f1)), (y2, .inl (ky, 12, .inl f2)), (y3, .inl (ky, 12, .inl f3)), (y4, .inl (ky, 12, .inl f4))] s.heap.size = A at hD ⊢
  have hA : ∀ q : Nat, s.heap.size ≤ q → A q := fun q h => by rw [← hAe]; exact Or.inr h
  have hS : va_S A s.heap s.heap [] := va_S.rf
  have hP : va_P (dC, dI) vwCl [(h0, .inr (8, [.ref a1, .ref a2, .ref a3, .ref a4, .ref a5, .ref a6, .ref a7, .ref a8, .ref a9, .int 0, .int 0, .int 0, .int 0, .int 0, .int 0])), (a2, .inr (3, [.ref b1, .ref b2, .ref b3, .ref b4, .ref b5])), (b1, .inl (g1, 12, .inr (.inr (.inr (.inr gf))))), (b2, .inl (g2, 12, .inr (.inr (.inr (.inr gh))))), (y1, .inl (ky, 12, .inl f1)), (y2, .inl (ky, 12, .inl f2)), (y3, .inl (ky, 12, .inl f3)), (y4, .inl (ky, 12, .inl f4))] s.heap := hP
  have hl := lv_entry ([.ref h0, .int p0, .int p1, .int p2]) (n := 4) (Nat.le_of_ble_eq_true rfl)
  rw [lg_entry_eq]
  generalize (lg_sl ([.ref h0, .int p0, .int p1, .int p2]) ++ List.replicate (4 - (lg_sl ([.ref h0, .int p0, .int p1, .int p2])).length) Slot.unset).toArray = ls at hl ⊢
  have hl : lv_has ls 4 [(0, .ref h0), (1, .int p0), (2, .int p1), (3, .int p2)] := hl
  refine lv_iload_n hx hb dX8_road_0 rfl (lv_at hl 1 rfl) ?_
  have hPc := hP.sub (ws' := []) [] rfl
  have hDc := hD.sub (ws' := []) [] (by decide) rfl
  have hKc := hK.sub (tys' := []) [] rfl
  refine cs_i (va_runS (As := [.int p0]) (rest := []) ⟨hx, hb, hml, hown, hts⟩ (c_X8_isStation l dC dI p0 s.heap.size) (va_cwS 1 hts gX8_road_X8_isStation rfl rfl rfl (by decide +kernel) ⟨Nat.le_of_ble_eq_true rfl, Nat.le_of_ble_eq_true rfl⟩) ⟨c_blind, c_pre hPc hKc hDc hN⟩ rfl rfl hl.1 rfl (lv_room (Nat.le_of_ble_eq_true rfl)) dX8_road_1 ⟨Nat.le_of_ble_eq_true rfl, Nat.le_of_ble_eq_true rfl⟩) (fun r_1 hr_1 => ?_)
  subst hr_1
  refine lv_if_eq (tgt := 29) hx hb dX8_road_4 (by decide) (fun c_2 => ?_) (fun c_2 => ?_)
  · refine lv_iconst (v := 0) hx hb dX8_road_29 (by decide) ?_
    have hP9 := hP.sub (ws' := []) [] rfl
    have hD9 := hD.sub (ws' := []) [] (by decide) rfl
    have hK9 := hK.sub (tys' := []) [] rfl
    refine W.widen (k := 0) (n := 0) (Nat.le_of_ble_eq_true rfl) (Nat.le_of_ble_eq_true rfl) ?_
    exact W.zret (v := 0) hx hb hr rfl (fun t9 ht hW => ⟨⟨_, (), rfl, (by rw [if_pos c_2]), by rw [ht]; exact hP9, va_K.moved hW.alike hK9, hD9⟩, hS.F ht⟩) hS.2.2 dX8_road_30
  · refine lv_iload_n hx hb dX8_road_7 rfl (lv_at hl 2 rfl) ?_
    have hPc := hP.sub (ws' := []) [] rfl
    have hDc := hD.sub (ws' := []) [] (by decide) rfl
    have hKc := hK.sub (tys' := []) [] rfl
    refine cs_i (va_runS (As := [.int p1]) (rest := []) ⟨hx, hb, hml, hown, hts⟩ (c_X8_isStation l dC dI p1 s.heap.size) (va_cwS 1 hts gX8_road_X8_isStation rfl rfl rfl (by decide +kernel) ⟨Nat.le_of_ble_eq_true rfl, Nat.le_of_ble_eq_true rfl⟩) ⟨c_blind, c_pre hPc hKc hDc hN⟩ rfl rfl hl.1 rfl (lv_room (Nat.le_of_ble_eq_true rfl)) dX8_road_8 ⟨Nat.le_of_ble_eq_true rfl, Nat.le_of_ble_eq_true rfl⟩) (fun r_3 hr_3 => ?_)
    subst hr_3
    refine lv_if_eq (tgt := 29) hx hb dX8_road_11 (by decide) (fun c_4 => ?_) (fun c_4 => ?_)
    · refine lv_iconst (v := 0) hx hb dX8_road_29 (by decide) ?_
      have hP9 := hP.sub (ws' := []) [] rfl
      have hD9 := hD.sub (ws' := []) [] (by decide) rfl
      have hK9 := hK.sub (tys' := []) [] rfl
      refine W.widen (k := 0) (n := 0) (Nat.le_of_ble_eq_true rfl) (Nat.le_of_ble_eq_true rfl) ?_
      exact W.zret (v := 0) hx hb hr rfl (fun t9 ht hW => ⟨⟨_, (), rfl, (by rw [if_neg c_2, if_pos c_4]), by rw [ht]; exact hP9, va_K.moved hW.alike hK9, hD9⟩, hS.F ht⟩) hS.2.2 dX8_road_30
    · refine lv_iload_n hx hb dX8_road_14 rfl (lv_at hl 1 rfl) ?_
      refine lv_iload_n hx hb dX8_road_15 rfl (lv_at hl 2 rfl) ?_
      refine lv_icmp_eq (tgt := 29) hx hb dX8_road_16 (by decide) (fun c_5 => ?_) (fun c_5 => ?_)
      · refine lv_iconst (v := 0) hx hb dX8_road_29 (by decide) ?_
        have hP9 := hP.sub (ws' := []) [] rfl
        have hD9 := hD.sub (ws' := []) [] (by decide) rfl
        have hK9 := hK.sub (tys' := []) [] rfl
        refine W.widen (k := 0) (n := 0) (Nat.le_of_ble_eq_true rfl) (Nat.le_of_ble_eq_true rfl) ?_
        exact W.zret (v := 0) hx hb hr rfl (fun t9 ht hW => ⟨⟨_, (), rfl, (by rw [if_neg c_2, if_neg c_4, if_pos c_5]), by rw [ht]; exact hP9, va_K.moved hW.alike hK9, hD9⟩, hS.F ht⟩) hS.2.2 dX8_road_30
      · refine lv_iload_n hx hb dX8_road_19 rfl (lv_at hl 3 rfl) ?_
        refine lv_if_lt (tgt := 29) hx hb dX8_road_20 (by decide) (fun c_6 => ?_) (fun c_6 => ?_)
        · refine lv_iconst (v := 0) hx hb dX8_road_29 (by decide) ?_
          have hP9 := hP.sub (ws' := []) [] rfl
          have hD9 := hD.sub (ws' := []) [] (by decide) rfl
          have hK9 := hK.sub (tys' := []) [] rfl
          refine W.widen (k := 0) (n := 0) (Nat.le_of_ble_eq_true rfl) (Nat.le_of_ble_eq_true rfl) ?_
          exact W.zret (v := 0) hx hb hr rfl (fun t9 ht hW => ⟨⟨_, (), rfl, (by rw [if_neg c_2, if_neg c_4, if_neg c_5, if_pos c_6]), by rw [ht]; exact hP9, va_K.moved hW.alike hK9, hD9⟩, hS.F ht⟩) hS.2.2 dX8_road_30
        · refine lv_iload_n hx hb dX8_road_23 rfl (lv_at hl 3 rfl) ?_
          refine lv_bipush (v := 24) hx hb dX8_road_24 (by decide) ?_
          refine lv_icmp_le (tgt := 31) hx hb dX8_road_26 (by decide) (fun c_7 => ?_) (fun c_7 => ?_)
          · refine lv_aload_n hx hb dX8_road_31 rfl (lv_at hl 0 rfl) ?_
            refine va_get (D := (dC, dI)) (ci := 8) (v := .ref a2) (C := RX8) (T := TX8) (N := 15) hx hb hts hin8 hown hK hP 0 rfl rfl 1 (by decide) (hts (.fieldLink RX8 19 "YamRiders" "roads" "LYamRiders$Roads;") (by decide +kernel)) (fun _ h9 => h9) rfl dX8_road_32 ?_
            refine lv_iload_n hx hb dX8_road_35 rfl (lv_at hl 1 rfl) ?_
            refine lv_iload_n hx hb dX8_road_36 rfl (lv_at hl 2 rfl) ?_
            refine lv_iload_n hx hb dX8_road_37 rfl (lv_at hl 3 rfl) ?_
            have hPc := hP.sub (ws' := [(a2, .inr (3, [.ref b1, .ref b2, .ref b3, .ref b4, .ref b5])), (b1, .inl (g1, 12, .inr (.inr (.inr (.inr gf))))), (b2, .inl (g2, 12, .inr (.inr (.inr (.inr gh))))), (y1, .inl (ky, 12, .inl f1)), (y2, .inl (ky, 12, .inl f2)), (y3, .inl (ky, 12, .inl f3)), (y4, .inl (ky, 12, .inl f4))]) [1, 2, 3, 4, 5, 6, 7] rfl
            have hDc := hD.sub (ws' := [(a2, .inr (3, [.ref b1, .ref b2, .ref b3, .ref b4, .ref b5])), (b1, .inl (g1, 12, .inr (.inr (.inr (.inr gf))))), (b2, .inl (g2, 12, .inr (.inr (.inr (.inr gh))))), (y1, .inl (ky, 12, .inl f1)), (y2, .inl (ky, 12, .inl f2)), (y3, .inl (ky, 12, .inl f3)), (y4, .inl (ky, 12, .inl f4))]) [1, 2, 3, 4, 5, 6, 7] (by decide) rfl
            have hKc := hK.sub (tys' := [(g1, .array .int), (g2, .array .int), (ky, .int)]) [0, 1, 2] rfl
            have hFc := va_free (wc := [(a2, .inr (3, [.ref b1, .ref b2, .ref b3, .ref b4, .ref b5])), (b1, .inl (g1, 12, .inr (.inr (.inr (.inr gf))))), (b2, .inl (g2, 12, .inr (.inr (.inr (.inr gh))))), (y1, .inl (ky, 12, .inl f1)), (y2, .inl (ky, 12, .inl f2)), (y3, .inl (ky, 12, .inl f3)), (y4, .inl (ky, 12, .inl f4))]) hD hS hA [1, 2, 3, 4, 5, 6, 7] rfl
            refine va_callv (va_runV (As := [.int p0, .int p1, .int p2]) (rest := []) ⟨hx, hb, hml, hown, hts⟩ (c_X3_lay l dC dI a2 b1 b2 b3 b4 b5 y1 y2 y3 y4 g1 g2 ky gf gh f1 f2 f3 f4 p0 p1 p2 s.heap.size c_2 c_4 (hy c_2 c_4 c_5).1 (hy c_2 c_4 c_5).2.1 (hy c_2 c_4 c_5).2.2.1 (hy c_2 c_4 c_5).2.2.2) (cwV 3 hts gX8_road_X3_lay rfl rfl rfl (by decide +kernel) ⟨Nat.le_of_ble_eq_true rfl, Nat.le_of_ble_eq_true rfl⟩) ⟨c_blind, va_recv hKc hPc (ci := 3) (q0 := 0) rfl rfl, c_pre hPc hKc hDc hN⟩ rfl rfl hl.1 rfl (lv_room (Nat.le_of_ble_eq_true rfl)) dX8_road_38 ⟨Nat.le_of_ble_eq_true rfl, Nat.le_of_ble_eq_true rfl⟩) hS (fun q _ h => hFc q h) hFc (fun u9 t9 H1 locs ht hvm hw hB hz1 hk1 hS => ?_)
            obtain ⟨hP1, hK1, hD1⟩ := hB
            rw [ht] at hP1
            have hK1 := va_K.moved hvm.symm hK1
            obtain ⟨hP, hD⟩ := va_join (wr := [(h0, .inr (8, [.ref a1, .ref a2, .ref a3, .ref a4, .ref a5, .ref a6, .ref a7, .ref a8, .ref a9, .int 0, .int 0, .int 0, .int 0, .int 0, .int 0]))]) (w1 := []) hP hD [1, 2, 3, 4, 5, 6, 7] [0] rfl rfl (by decide) (by decide) hk1 hFc hP1 hD1
            have hK := (hK.sub (tys' := [(g1, .array .int), (g2, .array .int), (ky, .int)]) [0, 1, 2] rfl).app hK1
            generalize H1 = H at hP hS ⊢
            have hK : va_K (dC, dI) vwCl [(g1, .array .int), (g2, .array .int), (ky, .int)] s := hK
            have hP : va_P (dC, dI) vwCl [(h0, .inr (8, [.ref a1, .ref a2, .ref a3, .ref a4, .ref a5, .ref a6, .ref a7, .ref a8, .ref a9, .int 0, .int 0, .int 0, .int 0, .int 0, .int 0]))] H := hP
            have hD : va_D A [(h0, .inr (8, [.ref a1, .ref a2, .ref a3, .ref a4, .ref a5, .ref a6, .ref a7, .ref a8, .ref a9, .int 0, .int 0, .int 0, .int 0, .int 0, .int 0]))] := hD
            refine W.widen (k := 0) (n := 0) (Nat.le_of_ble_eq_true rfl) (Nat.le_of_ble_eq_true rfl) ?_
            refine lv_iconst (v := 1) hx hb dX8_road_41 (by decide) ?_
            have hP9 := hP.sub (ws' := []) [] rfl
            have hD9 := hD.sub (ws' := []) [] (by decide) rfl
            have hK9 := hK.sub (tys' := []) [] rfl
            refine W.widen (k := 0) (n := 0) (Nat.le_of_ble_eq_true rfl) (Nat.le_of_ble_eq_true rfl) ?_
            exact W.zret (v := 1) hx hb hr rfl (fun t9 ht hW => ⟨⟨_, (), rfl, (by rw [if_neg c_2, if_neg c_4, if_neg c_5, if_neg c_6, if_pos c_7]), by rw [ht]; exact hP9, va_K.moved hW.alike hK9, hD9⟩, hS.F ht⟩) hS.2.2 dX8_road_42
          · refine lv_iconst (v := 0) hx hb dX8_road_29 (by decide) ?_
            have hP9 := hP.sub (ws' := []) [] rfl
            have hD9 := hD.sub (ws' := []) [] (by decide) rfl
            have hK9 := hK.sub (tys' := []) [] rfl
            refine W.widen (k := 0) (n := 0) (Nat.le_of_ble_eq_true rfl) (Nat.le_of_ble_eq_true rfl) ?_
            exact W.zret (v := 0) hx hb hr rfl (fun t9 ht hW => ⟨⟨_, (), rfl, (by rw [if_neg c_2, if_neg c_4, if_neg c_5, if_neg c_6, if_neg c_7]), by rw [ht]; exact hP9, va_K.moved hW.alike hK9, hD9⟩, hS.F ht⟩) hS.2.2 dX8_road_30
