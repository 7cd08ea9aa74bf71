theorem nbl_tab : ∀ w ∈ nbl ++ [Cond.castable nsN nsN], w.onTables = true := by decide +kernel
theorem nbl_cast : Cond.castable nsN nsN ∈ nbl ++ [Cond.castable nsN nsN] := List.mem_append_right _ List.mem_cons_self
theorem mem_c {big l : List Cond} {a : Cond} (ha : a ∈ big) (hl : ∀ w ∈ l, w ∈ big) : ∀ w ∈ a :: l, w ∈ big := fun w h => (List.mem_cons.mp h).elim (fun e => by rw [e]; exact ha) (hl w)
set_option maxRecDepth 20000 in
theorem nsG_in : ∀ w ∈ nsG, w ∈ lw_tbl := by decide +kernel
def XE (is : Nat) (tx : String) (A : Nat → Prop) (U : State) : Prop := (∀ w ∈ nbl ++ [Cond.castable nsN nsN], va_Nw w U) ∧ (∃ sa : Nat, vk_R RX8 is tx sa U) ∧ vx_Zq Bundle.tN "UNASSIGNED_STACK" Bundle.steD A U U.heap ∧ vx_Zq Bundle.tN "SUPPRESSED_SENTINEL" Bundle.listD A U U.heap
theorem nb_warm {s U : State} (hW : s.WarmedH U.vm) (h : ∀ w ∈ nbl ++ [Cond.castable nsN nsN], va_Nw w s) : ∀ w ∈ nbl ++ [Cond.castable nsN nsN], va_Nw w U := by
  intro w hw
  have hz := h w hw
  have hw' : w = .declares (Bundle.initS rtN) ∨ w = .declares (Bundle.initS "java/lang/Exception") ∨ w = .declares (Bundle.initS Bundle.tN) ∨ w = .castable nsN nsN := by
    simpa [nbl] using hw
  rcases hw' with rfl | rfl | rfl | rfl
  · exact va_Nw.warmD hW hz
  · exact va_Nw.warmD hW hz
  · exact va_Nw.warmD hW hz
  · exact va_Nw.warmC hW hz
theorem XE.warm {is : Nat} {tx : String} {A : Nat → Prop} {s U : State} {H : Heap} (hU : U.heap = H) (hW : s.WarmedH U.vm) (h1 : ∀ w ∈ nbl ++ [Cond.castable nsN nsN], va_Nw w s) (h2 : ∃ sa : Nat, vk_R RX8 is tx sa s) (h3 : vx_Zq Bundle.tN "UNASSIGNED_STACK" Bundle.steD A s H) (h4 : vx_Zq Bundle.tN "SUPPRESSED_SENTINEL" Bundle.listD A s H) : XE is tx A U := by
  obtain ⟨sa, h2⟩ := h2
  exact ⟨nb_warm hW h1, ⟨sa, vk_R.warm hW h2⟩, by rw [hU]; exact vx_Zq.moved hW.alike h3, by rw [hU]; exact vx_Zq.moved hW.alike h4⟩
theorem x_blind {av : List Value} {dC : Nat → ClassId} {dI : Nat → Nat → Nat} {ws : va_W} {tys : List (ClassId × FieldType)} {sz is : Nat} {tx : String} {A : Nat → Prop} : FrameBlind (va_Pc av (fun U => cP dC dI ws tys sz U ∧ XE is tx A U)) := fun a U g mk q => by
  obtain ⟨q0, q1, q2⟩ := q
  have hc : va_Pc av (cP dC dI ws tys sz) a (U.calling g mk a) := c_blind a U g mk ⟨q0, q1⟩
  refine ⟨hc.1, hc.2, ?_⟩
  have hW : U.WarmedH (U.calling g mk a).vm := State.WarmedH.refl U
  exact XE.warm (H := U.heap) rfl hW q2.1 q2.2.1 q2.2.2.1 q2.2.2.2
theorem x_pre {av : List Value} {dC : Nat → ClassId} {dI : Nat → Nat → Nat} {ws : va_W} {tys : List (ClassId × FieldType)} {s : State} {A : Nat → Prop} {is : Nat} {tx : String} (hP : va_P (dC, dI) vwCl ws s.heap) (hK : va_K (dC, dI) vwCl tys s) (hD : va_D A ws) (hN : NW s) {A1 : Nat → Prop} (hE : XE is tx A1 s) : ∀ U : State, U.heap = s.heap → s.WarmedH U.vm → va_Pc av (fun U => cP dC dI ws tys s.heap.size U ∧ XE is tx A1 U) av.toArray U := fun U hU hW => by
  have hc := c_pre (av := av) hP hK hD hN U hU hW
  exact ⟨hc.1, hc.2, XE.warm hU hW hE.1 hE.2.1 hE.2.2.1 hE.2.2.2⟩
theorem x_preH {av : List Value} {dC : Nat → ClassId} {dI : Nat → Nat → Nat} {ws : va_W} {tys : List (ClassId × FieldType)} {s : State} {H : Heap} {A : Nat → Prop} {is : Nat} {tx : String} (hP : va_P (dC, dI) vwCl ws H) (hK : va_K (dC, dI) vwCl tys s) (hD : va_D A ws) (hN : NW s) {A1 : Nat → Prop} (h1 : ∀ w ∈ nbl ++ [Cond.castable nsN nsN], va_Nw w s) (h2 : ∃ sa : Nat, vk_R RX8 is tx sa s) (h3 : vx_Zq Bundle.tN "UNASSIGNED_STACK" Bundle.steD A1 s H) (h4 : vx_Zq Bundle.tN "SUPPRESSED_SENTINEL" Bundle.listD A1 s H) : ∀ U : State, U.heap = H → s.WarmedH U.vm → va_Pc av (fun U => cP dC dI ws tys H.size U ∧ XE is tx A1 U) av.toArray U := fun U hU hW => by
  have hc := c_pre (av := av) hP hK hD hN U hU hW
  exact ⟨hc.1, hc.2, XE.warm hU hW h1 h2 h3 h4⟩

def wN_rider : List Cond := .code yX8_rider cX8_rider 4 (some .int) :: (wsV RX8 150 RX8 yX8_riderOf wsX8_riderOf ++ ([.classLink RX8 173 nsN, .initialized nsN] ++ nsG))

set_option maxRecDepth 20000 in
theorem gN_rider : GoodIn wN_rider (wsV RX8 150 RX8 yX8_riderOf wsX8_riderOf) := goodIn_sub (fun w h => List.mem_cons_of_mem _ (List.mem_append_left _ h)) (by decide +kernel)

def wN_Lrider : List Cond := .codeWith yL_rider cL_rider 5 (some .int) [(0, 10, 13, 13)] :: (wsV RL 7 RX8 yX8_rider wN_rider ++ [.classLink RL 13 nsN])

set_option maxRecDepth 20000 in
theorem gN_Lrider : GoodIn wN_Lrider (wsV RL 7 RX8 yX8_rider wN_rider) := goodIn_sub (fun w h => List.mem_cons_of_mem _ (List.mem_append_left _ h)) (by decide +kernel)

set_option maxRecDepth 20000 in
theorem wN_rider_of : ∀ w ∈ wsX8_riderOf, w ∈ lw_tbl := mem_pl [611, 177, 186, 188, 190, 192, 194, 196, 198, 200, 202, 204, 206, 208, 210, 212, 214] (by decide +kernel)

set_option maxRecDepth 20000 in
theorem wN_rider_in : ∀ w ∈ wN_rider, w ∈ lw_tbl := mem_c (List.mem_of_getElem? (i := 797) (by decide +kernel)) (mem_app (mem_app (mem_pl [608, 610, 16, 65] (by decide +kernel)) wN_rider_of) (mem_app (mem_pl [798, 85] (by decide +kernel)) nsG_in))

set_option maxRecDepth 20000 in
theorem wN_Lrider_in : ∀ w ∈ wN_Lrider, w ∈ lw_tbl := mem_c (List.mem_of_getElem? (i := 792) (by decide +kernel)) (mem_app (mem_app (mem_pl [794, 795, 796, 65] (by decide +kernel)) wN_rider_in) (mem_pl [793] (by decide +kernel)))

set_option maxRecDepth 20000 in
theorem gN_law_rider : GoodIn lw_tbl (va_wsS RL 81 yL_rider wN_Lrider) := goodIn_sub (mem_app (mem_pl [790, 791, 64] (by decide +kernel)) wN_Lrider_in) (by decide +kernel)

set_option maxHeartbeats 4000000 in
set_option maxRecDepth 100000 in
theorem c_X8_rider (l : Launch) (hst : l.stackTraces = false) (dC : Nat → ClassId) (dI : Nat → Nat → Nat) (h0 : Nat) (a1 : Nat) (a2 : Nat) (a3 : Nat) (a4 : Nat) (a5 : Nat) (a6 : Nat) (a7 : Nat) (a8 : Nat) (a9 : Nat) (k7 : ClassId) (p0 : Int32) (p1 : Int32) (sz : Nat) : vx_Met l yX8_rider wN_rider ({ frames := 6, cells := 1, slots := 6, locals := 90 }) (va_Pc [.ref h0, .int p0, .int p1] (fun U => cP dC dI [(h0, .inr (8, [.ref a1, .ref a2, .ref a3, .ref a4, .ref a5, .ref a6, .ref a7, .ref a8, .ref a9, .int 0, .int 0, .int 0, .int 0, .int 0, .int 0])), (a7, .inl (k7, 60, .inr (.inr (.inr (.inr (fun _ => none))))))] [(k7, .object "YamRiders$Rider")] sz U ∧ XE 175 "no such rider, or nothing of the kind is told of riders" (va_A [(h0, .inr (8, [.ref a1, .ref a2, .ref a3, .ref a4, .ref a5, .ref a6, .ref a7, .ref a8, .ref a9, .int 0, .int 0, .int 0, .int 0, .int 0, .int 0])), (a7, .inl (k7, 60, .inr (.inr (.inr (.inr (fun _ => none))))))] sz) U)) (va_Qi (fun (r : Int32) (_ : Unit) => False) (fun _ _ => True) (va_A [(h0, .inr (8, [.ref a1, .ref a2, .ref a3, .ref a4, .ref a5, .ref a6, .ref a7, .ref a8, .ref a9, .int 0, .int 0, .int 0, .int 0, .int 0, .int 0])), (a7, .inl (k7, 60, .inr (.inr (.inr (.inr (fun _ => none))))))] sz)) (vx_X (fun (_ : Unit) => True) (fun E _ _ => E = nsN) (va_A [(h0, .inr (8, [.ref a1, .ref a2, .ref a3, .ref a4, .ref a5, .ref a6, .ref a7, .ref a8, .ref a9, .int 0, .int 0, .int 0, .int 0, .int 0, .int 0])), (a7, .inl (k7, 60, .inr (.inr (.inr (.inr (fun _ => none))))))] sz)) 1 6 (va_A [(h0, .inr (8, [.ref a1, .ref a2, .ref a3, .ref a4, .ref a5, .ref a6, .ref a7, .ref a8, .ref a9, .int 0, .int 0, .int 0, .int 0, .int 0, .int 0])), (a7, .inl (k7, 60, .inr (.inr (.inr (.inr (fun _ => none))))))] sz) := by
  refine vx_ofW (cc := cX8_rider) (maxL := 4) (ret := (some .int)) (by decide) rfl ?_
  intro p e s m args below meth c s₁ B hml htab hv
  obtain ⟨rfl, ⟨hsz, hP, hK, hD0, hN⟩, hE⟩ := hv
  have hx := B.exec
  have hb := B.bytes
  have hr := B.returns
  have hts := atoms_spec (ws := wN_rider) B.pre
  have hown : s.vm.findClass RX8 = some m.cls := findClass_of_methodNamed B.named
  have hlocks := B.notSynchronized
  subst hsz
  have hD := hD0
  have hS : va_S (va_A [(h0, .inr (8, [.ref a1, .ref a2, .ref a3, .ref a4, .ref a5, .ref a6, .ref a7, .ref a8, .ref a9, .int 0, .int 0, .int 0, .int 0, .int 0, .int 0])), (a7, .inl (k7, 60, .inr (.inr (.inr (.inr (fun _ => none))))))] s.heap.size) s.heap s.heap [] := va_S.rf
  have hP : va_P (dC, dI) vwCl [(h0, .inr (8, [.ref a1, .ref a2, .ref a3, .ref a4, .ref a5, .ref a6, .ref a7, .ref a8, .ref a9, .int 0, .int 0, .int 0, .int 0, .int 0, .int 0])), (a7, .inl (k7, 60, .inr (.inr (.inr (.inr (fun _ => none))))))] s.heap := hP
  have hl := lv_entry ([.ref h0, .int p0, .int p1]) (n := 4) (Nat.le_of_ble_eq_true rfl)
  rw [lg_entry_eq]
  generalize (lg_sl ([.ref h0, .int p0, .int p1]) ++ List.replicate (4 - (lg_sl ([.ref h0, .int p0, .int p1])).length) Slot.unset).toArray = ls at hl ⊢
  have hl : lv_has ls 4 [(0, .ref h0), (1, .int p0), (2, .int p1)] := hl
  refine lv_aload_n hx hb dX8_rider_0 rfl (lv_at hl 0 rfl) ?_
  refine lv_iload_n hx hb dX8_rider_1 rfl (lv_at hl 1 rfl) ?_
  have hPc := hP.sub (ws' := [(h0, .inr (8, [.ref a1, .ref a2, .ref a3, .ref a4, .ref a5, .ref a6, .ref a7, .ref a8, .ref a9, .int 0, .int 0, .int 0, .int 0, .int 0, .int 0])), (a7, .inl (k7, 60, .inr (.inr (.inr (.inr (fun _ => none))))))]) [0, 1] rfl
  have hDc := hD.sub (ws' := [(h0, .inr (8, [.ref a1, .ref a2, .ref a3, .ref a4, .ref a5, .ref a6, .ref a7, .ref a8, .ref a9, .int 0, .int 0, .int 0, .int 0, .int 0, .int 0])), (a7, .inl (k7, 60, .inr (.inr (.inr (.inr (fun _ => none))))))]) [0, 1] (by decide) rfl
  have hKc := hK.sub (tys' := [(k7, .object "YamRiders$Rider")]) [0] rfl
  refine cs_n (va_runV (As := [.int p0]) (rest := []) ⟨hx, hb, hml, hown, hts⟩ (c_X8_riderOf l dC dI h0 a1 a2 a3 a4 a5 a6 a7 a8 a9 k7 p0 s.heap.size) (cwV 1 hts gN_rider rfl rfl rfl (by decide +kernel) ⟨Nat.le_of_ble_eq_true rfl, Nat.le_of_ble_eq_true rfl⟩) ⟨c_blind, va_recv hKc hPc (ci := 8) (q0 := 0) rfl rfl, c_pre hPc hKc hDc hN⟩ rfl rfl hl.1 rfl (lv_room (Nat.le_of_ble_eq_true rfl)) dX8_rider_2 ⟨Nat.le_of_ble_eq_true rfl, Nat.le_of_ble_eq_true rfl⟩) (fun _ h => h) ?_
  refine lv_astore_nN (lv' := [(3, .null), (0, .ref h0), (1, .int p0), (2, .int p1)]) hx hb dX8_rider_5 rfl hl (by decide) rfl (fun ls hl => ?_)
  refine lv_aload_nN hx hb dX8_rider_6 rfl (lv_at hl 0 rfl) ?_
  refine lv_ifnullN (tgt := 19) hx hb dX8_rider_7 (by decide) ?_
  obtain ⟨hnb, ⟨sa, hsa⟩, hU, hNs⟩ := hE
  exact ns_W hx hb hst hown (hts (.classLink RX8 173 nsN) (List.mem_cons_of_mem _ (List.mem_append_right _ (List.mem_append_left _ (by decide))))) (hts (.initialized nsN) (List.mem_cons_of_mem _ (List.mem_append_right _ (List.mem_append_left _ (by decide))))) hsa (vx_hat (fun w hw => hts w (List.mem_cons_of_mem _ (List.mem_append_right _ (List.mem_append_right _ hw)))) nsA_bad (fun w hw => va_Nw.use (nbl_tab w (List.mem_append_left _ hw)) (hnb w (List.mem_append_left _ hw)))) ns_ot1 ns_ot2 nsA_ot hU hNs hS (by rw [hml]; exact hl.1) dX8_rider_19 dX8_rider_22 dX8_rider_23 dX8_rider_25 dX8_rider_28 (fun x hx => (htab x hx).elim) (Nat.le_of_ble_eq_true rfl) (Nat.le_of_ble_eq_true rfl) (Nat.le_of_ble_eq_true rfl) (Nat.le_of_ble_eq_true rfl) hlocks (fun t9 hal hle hk => ⟨(), trivial, rfl, hle, fun q hq _ => hk q hq⟩) (fun z hz => nomatch hz) (Nat.le_of_ble_eq_true rfl) (Nat.le_of_ble_eq_true rfl)

set_option maxHeartbeats 4000000 in
set_option maxRecDepth 100000 in
theorem c_L_rider (l : Launch) (hst : l.stackTraces = false) (dC : Nat → ClassId) (dI : Nat → Nat → Nat) (h0 : Nat) (a1 : Nat) (a2 : Nat) (a3 : Nat) (a4 : Nat) (a5 : Nat) (a6 : Nat) (a7 : Nat) (a8 : Nat) (a9 : Nat) (k7 : ClassId) (p0 : Int32) (p1 : Int32) (o : Nat) (sz : Nat) : Met l yL_rider wN_Lrider ({ frames := 7, cells := 1, slots := 6, locals := 120 }) (va_Pc [.ref h0, .int p0, .int p1, .ref o] (fun U => cP dC dI [(h0, .inr (8, [.ref a1, .ref a2, .ref a3, .ref a4, .ref a5, .ref a6, .ref a7, .ref a8, .ref a9, .int 0, .int 0, .int 0, .int 0, .int 0, .int 0])), (a7, .inl (k7, 60, .inr (.inr (.inr (.inr (fun _ => none))))))] [(k7, .object "YamRiders$Rider")] sz U ∧ XE 175 "no such rider, or nothing of the kind is told of riders" (va_A [(h0, .inr (8, [.ref a1, .ref a2, .ref a3, .ref a4, .ref a5, .ref a6, .ref a7, .ref a8, .ref a9, .int 0, .int 0, .int 0, .int 0, .int 0, .int 0])), (a7, .inl (k7, 60, .inr (.inr (.inr (.inr (fun _ => none))))))] sz) U)) (va_Qi (fun (r : Int32) (_ : Unit) => r = 1) (fun _ _ => True) (va_A [(h0, .inr (8, [.ref a1, .ref a2, .ref a3, .ref a4, .ref a5, .ref a6, .ref a7, .ref a8, .ref a9, .int 0, .int 0, .int 0, .int 0, .int 0, .int 0])), (a7, .inl (k7, 60, .inr (.inr (.inr (.inr (fun _ => none))))))] sz)) 1 6 (va_A [(h0, .inr (8, [.ref a1, .ref a2, .ref a3, .ref a4, .ref a5, .ref a6, .ref a7, .ref a8, .ref a9, .int 0, .int 0, .int 0, .int 0, .int 0, .int 0])), (a7, .inl (k7, 60, .inr (.inr (.inr (.inr (fun _ => none))))))] sz) := by
  refine va_MetW (hh := [(0, 10, 13, 13)]) (cc := cL_rider) (maxL := 5) (ret := (some .int)) (by decide) rfl ?_
  intro p e s m args below meth c s₁ B hml hv
  obtain ⟨rfl, ⟨hsz, hP, hK, hD0, hN⟩, hE⟩ := hv
  have hx := B.exec
  have hb := B.bytes
  have hr := B.returns
  have hts := atoms_spec (ws := wN_Lrider) B.pre
  have hown : s.vm.findClass RL = some m.cls := findClass_of_methodNamed B.named
  have hlocks := B.notSynchronized
  have htab := vx_table (x := yL_rider) B (hts _ List.mem_cons_self)
  subst hsz
  have hD := hD0.self (sz := s.heap.size)
  have hA : ∀ q : Nat, s.heap.size ≤ q → (va_A [(h0, .inr (8, [.ref a1, .ref a2, .ref a3, .ref a4, .ref a5, .ref a6, .ref a7, .ref a8, .ref a9, .int 0, .int 0, .int 0, .int 0, .int 0, .int 0])), (a7, .inl (k7, 60, .inr (.inr (.inr (.inr (fun _ => none))))))] s.heap.size) q := fun q h => Or.inr h
  have hS : va_S (va_A [(h0, .inr (8, [.ref a1, .ref a2, .ref a3, .ref a4, .ref a5, .ref a6, .ref a7, .ref a8, .ref a9, .int 0, .int 0, .int 0, .int 0, .int 0, .int 0])), (a7, .inl (k7, 60, .inr (.inr (.inr (.inr (fun _ => none))))))] s.heap.size) s.heap s.heap [] := va_S.rf
  have hP : va_P (dC, dI) vwCl [(h0, .inr (8, [.ref a1, .ref a2, .ref a3, .ref a4, .ref a5, .ref a6, .ref a7, .ref a8, .ref a9, .int 0, .int 0, .int 0, .int 0, .int 0, .int 0])), (a7, .inl (k7, 60, .inr (.inr (.inr (.inr (fun _ => none))))))] s.heap := hP
  have hl := lv_entry ([.ref h0, .int p0, .int p1, .ref o]) (n := 5) (Nat.le_of_ble_eq_true rfl)
  rw [lg_entry_eq]
  generalize (lg_sl ([.ref h0, .int p0, .int p1, .ref o]) ++ List.replicate (5 - (lg_sl ([.ref h0, .int p0, .int p1, .ref o])).length) Slot.unset).toArray = ls at hl ⊢
  have hl : lv_has ls 5 [(0, .ref h0), (1, .int p0), (2, .int p1), (3, .ref o)] := hl
  refine lv_aload_n hx hb dL_rider_0 rfl (lv_at hl 3 rfl) ?_
  refine lv_iconst (v := 0) hx hb dL_rider_1 (by decide) ?_
  refine lv_aload_n hx hb dL_rider_2 rfl (lv_at hl 0 rfl) ?_
  refine lv_iload_n hx hb dL_rider_3 rfl (lv_at hl 1 rfl) ?_
  refine lv_iload_n hx hb dL_rider_4 rfl (lv_at hl 2 rfl) ?_
  have hFc := va_free (wc := [(h0, .inr (8, [.ref a1, .ref a2, .ref a3, .ref a4, .ref a5, .ref a6, .ref a7, .ref a8, .ref a9, .int 0, .int 0, .int 0, .int 0, .int 0, .int 0])), (a7, .inl (k7, 60, .inr (.inr (.inr (.inr (fun _ => none))))))]) hD hS hA [0, 1] rfl
  refine vx_calli (vx_runV (As := [.int p0, .int p1]) (rest := [.int 0, .ref o]) ⟨hx, hb, hml, hown, hts⟩ (c_X8_rider l hst dC dI h0 a1 a2 a3 a4 a5 a6 a7 a8 a9 k7 p0 p1 s.heap.size) (cwV 2 hts gN_Lrider rfl rfl rfl (by decide +kernel) ⟨Nat.le_of_ble_eq_true rfl, Nat.le_of_ble_eq_true rfl⟩) ⟨x_blind, va_recv hK hP (ci := 8) (q0 := 0) rfl rfl, x_pre hP hK hD hN hE⟩ rfl rfl hl.1 rfl (lv_room (Nat.le_of_ble_eq_true rfl)) dL_rider_5 ⟨Nat.le_of_ble_eq_true rfl, Nat.le_of_ble_eq_true rfl⟩) hS (fun q _ h => hFc q h) hFc (fun q _ h => hFc q h) (fun E ce q9 u9 t9 H1 locs ht hal hpx hBX hz1 hk1 hS hce hcv hcl => ?_) (fun r u9 t9 H1 locs ht hvm hw hB hz1 hk1 hS => hw.elim)
  subst hBX
  refine vx_catch (name := nsN) hown [] { startPc := 0, endPc := 10, handlerPc := 13, catchType := 13 } [] htab (fun z hz => nomatch hz) (by decide) (by decide) (hts (.classLink RL 13 nsN) (List.mem_cons_of_mem _ (List.mem_append_right _ (by decide)))) (va_Nw.use (nbl_tab _ nbl_cast) (hE.1 _ nbl_cast)) hce hcv hcl ?_
  refine W.widen (k := 1) (n := 6) (Nat.le_of_ble_eq_true rfl) (Nat.le_of_ble_eq_true rfl) ?_
  refine lv_astore (lv' := [(4, .ref q9), (0, .ref h0), (1, .int p0), (2, .int p1), (3, .ref o)]) hx hb dL_rider_13 hl (by decide) rfl (fun ls hl => ?_)
  refine lv_iconst (v := 1) hx hb dL_rider_15 (by decide) ?_
  exact W.iret (v := 1) hx hb hr (fun t9 ht hW => ⟨⟨_, (), rfl, rfl, trivial⟩, hS.F ht⟩) hS.2.2 dL_rider_16

def wN_steed : List Cond := .code yX8_steed cX8_steed 4 (some .int) :: (wsV RX8 200 RX8 yX8_horseOf wsX8_horseOf ++ ([.classLink RX8 173 nsN, .initialized nsN] ++ nsG))

set_option maxRecDepth 20000 in
theorem gN_steed : GoodIn wN_steed (wsV RX8 200 RX8 yX8_horseOf wsX8_horseOf) := goodIn_sub (fun w h => List.mem_cons_of_mem _ (List.mem_append_left _ h)) (by decide +kernel)

def wN_Lsteed : List Cond := .codeWith yL_steed cL_steed 5 (some .int) [(0, 10, 13, 13)] :: (wsV RL 15 RX8 yX8_steed wN_steed ++ [.classLink RL 13 nsN])

set_option maxRecDepth 20000 in
theorem gN_Lsteed : GoodIn wN_Lsteed (wsV RL 15 RX8 yX8_steed wN_steed) := goodIn_sub (fun w h => List.mem_cons_of_mem _ (List.mem_append_left _ h)) (by decide +kernel)

set_option maxRecDepth 20000 in
theorem wN_steed_of : ∀ w ∈ wsX8_horseOf, w ∈ lw_tbl := mem_pl [877, 175, 186, 188, 190, 192, 194, 196, 198, 200, 202, 204, 206, 208, 210, 212, 214] (by decide +kernel)

set_option maxRecDepth 20000 in
theorem wN_steed_in : ∀ w ∈ wN_steed, w ∈ lw_tbl := mem_c (List.mem_of_getElem? (i := 873) (by decide +kernel)) (mem_app (mem_app (mem_pl [874, 876, 38, 65] (by decide +kernel)) wN_steed_of) (mem_app (mem_pl [798, 85] (by decide +kernel)) nsG_in))

set_option maxRecDepth 20000 in
theorem wN_Lsteed_in : ∀ w ∈ wN_Lsteed, w ∈ lw_tbl := mem_c (List.mem_of_getElem? (i := 869) (by decide +kernel)) (mem_app (mem_app (mem_pl [870, 871, 872, 65] (by decide +kernel)) wN_steed_in) (mem_pl [793] (by decide +kernel)))

set_option maxRecDepth 20000 in
theorem gN_law_steed : GoodIn lw_tbl (va_wsS RL 94 yL_steed wN_Lsteed) := goodIn_sub (mem_app (mem_pl [867, 868, 64] (by decide +kernel)) wN_Lsteed_in) (by decide +kernel)

set_option maxHeartbeats 4000000 in
set_option maxRecDepth 100000 in
theorem c_X8_steed (l : Launch) (hst : l.stackTraces = false) (dC : Nat → ClassId) (dI : Nat → Nat → Nat) (h0 : Nat) (a1 : Nat) (a2 : Nat) (a3 : Nat) (a4 : Nat) (a5 : Nat) (a6 : Nat) (a7 : Nat) (a8 : Nat) (a9 : Nat) (k5 : ClassId) (p0 : Int32) (p1 : Int32) (sz : Nat) : vx_Met l yX8_steed wN_steed ({ frames := 6, cells := 1, slots := 6, locals := 90 }) (va_Pc [.ref h0, .int p0, .int p1] (fun U => cP dC dI [(h0, .inr (8, [.ref a1, .ref a2, .ref a3, .ref a4, .ref a5, .ref a6, .ref a7, .ref a8, .ref a9, .int 0, .int 0, .int 0, .int 0, .int 0, .int 0])), (a5, .inl (k5, 60, .inr (.inr (.inr (.inr (fun _ => none))))))] [(k5, .object "YamRiders$Horse")] sz U ∧ XE 204 "no such horse, or nothing of the kind is told of horses" (va_A [(h0, .inr (8, [.ref a1, .ref a2, .ref a3, .ref a4, .ref a5, .ref a6, .ref a7, .ref a8, .ref a9, .int 0, .int 0, .int 0, .int 0, .int 0, .int 0])), (a5, .inl (k5, 60, .inr (.inr (.inr (.inr (fun _ => none))))))] sz) U)) (va_Qi (fun (r : Int32) (_ : Unit) => False) (fun _ _ => True) (va_A [(h0, .inr (8, [.ref a1, .ref a2, .ref a3, .ref a4, .ref a5, .ref a6, .ref a7, .ref a8, .ref a9, .int 0, .int 0, .int 0, .int 0, .int 0, .int 0])), (a5, .inl (k5, 60, .inr (.inr (.inr (.inr (fun _ => none))))))] sz)) (vx_X (fun (_ : Unit) => True) (fun E _ _ => E = nsN) (va_A [(h0, .inr (8, [.ref a1, .ref a2, .ref a3, .ref a4, .ref a5, .ref a6, .ref a7, .ref a8, .ref a9, .int 0, .int 0, .int 0, .int 0, .int 0, .int 0])), (a5, .inl (k5, 60, .inr (.inr (.inr (.inr (fun _ => none))))))] sz)) 1 6 (va_A [(h0, .inr (8, [.ref a1, .ref a2, .ref a3, .ref a4, .ref a5, .ref a6, .ref a7, .ref a8, .ref a9, .int 0, .int 0, .int 0, .int 0, .int 0, .int 0])), (a5, .inl (k5, 60, .inr (.inr (.inr (.inr (fun _ => none))))))] sz) := by
  refine vx_ofW (cc := cX8_steed) (maxL := 4) (ret := (some .int)) (by decide) rfl ?_
  intro p e s m args below meth c s₁ B hml htab hv
  obtain ⟨rfl, ⟨hsz, hP, hK, hD0, hN⟩, hE⟩ := hv
  have hx := B.exec
  have hb := B.bytes
  have hr := B.returns
  have hts := atoms_spec (ws := wN_steed) B.pre
  have hown : s.vm.findClass RX8 = some m.cls := findClass_of_methodNamed B.named
  have hlocks := B.notSynchronized
  subst hsz
  have hD := hD0
  have hS : va_S (va_A [(h0, .inr (8, [.ref a1, .ref a2, .ref a3, .ref a4, .ref a5, .ref a6, .ref a7, .ref a8, .ref a9, .int 0, .int 0, .int 0, .int 0, .int 0, .int 0])), (a5, .inl (k5, 60, .inr (.inr (.inr (.inr (fun _ => none))))))] s.heap.size) s.heap s.heap [] := va_S.rf
  have hP : va_P (dC, dI) vwCl [(h0, .inr (8, [.ref a1, .ref a2, .ref a3, .ref a4, .ref a5, .ref a6, .ref a7, .ref a8, .ref a9, .int 0, .int 0, .int 0, .int 0, .int 0, .int 0])), (a5, .inl (k5, 60, .inr (.inr (.inr (.inr (fun _ => none))))))] s.heap := hP
  have hl := lv_entry ([.ref h0, .int p0, .int p1]) (n := 4) (Nat.le_of_ble_eq_true rfl)
  rw [lg_entry_eq]
  generalize (lg_sl ([.ref h0, .int p0, .int p1]) ++ List.replicate (4 - (lg_sl ([.ref h0, .int p0, .int p1])).length) Slot.unset).toArray = ls at hl ⊢
  have hl : lv_has ls 4 [(0, .ref h0), (1, .int p0), (2, .int p1)] := hl
  refine lv_aload_n hx hb dX8_steed_0 rfl (lv_at hl 0 rfl) ?_
  refine lv_iload_n hx hb dX8_steed_1 rfl (lv_at hl 1 rfl) ?_
  have hPc := hP.sub (ws' := [(h0, .inr (8, [.ref a1, .ref a2, .ref a3, .ref a4, .ref a5, .ref a6, .ref a7, .ref a8, .ref a9, .int 0, .int 0, .int 0, .int 0, .int 0, .int 0])), (a5, .inl (k5, 60, .inr (.inr (.inr (.inr (fun _ => none))))))]) [0, 1] rfl
  have hDc := hD.sub (ws' := [(h0, .inr (8, [.ref a1, .ref a2, .ref a3, .ref a4, .ref a5, .ref a6, .ref a7, .ref a8, .ref a9, .int 0, .int 0, .int 0, .int 0, .int 0, .int 0])), (a5, .inl (k5, 60, .inr (.inr (.inr (.inr (fun _ => none))))))]) [0, 1] (by decide) rfl
  have hKc := hK.sub (tys' := [(k5, .object "YamRiders$Horse")]) [0] rfl
  refine cs_n (va_runV (As := [.int p0]) (rest := []) ⟨hx, hb, hml, hown, hts⟩ (c_X8_horseOf l dC dI h0 a1 a2 a3 a4 a5 a6 a7 a8 a9 k5 p0 s.heap.size) (cwV 1 hts gN_steed rfl rfl rfl (by decide +kernel) ⟨Nat.le_of_ble_eq_true rfl, Nat.le_of_ble_eq_true rfl⟩) ⟨c_blind, va_recv hKc hPc (ci := 8) (q0 := 0) rfl rfl, c_pre hPc hKc hDc hN⟩ rfl rfl hl.1 rfl (lv_room (Nat.le_of_ble_eq_true rfl)) dX8_steed_2 ⟨Nat.le_of_ble_eq_true rfl, Nat.le_of_ble_eq_true rfl⟩) (fun _ h => h) ?_
  refine lv_astore_nN (lv' := [(3, .null), (0, .ref h0), (1, .int p0), (2, .int p1)]) hx hb dX8_steed_5 rfl hl (by decide) rfl (fun ls hl => ?_)
  refine lv_aload_nN hx hb dX8_steed_6 rfl (lv_at hl 0 rfl) ?_
  refine lv_ifnullN (tgt := 19) hx hb dX8_steed_7 (by decide) ?_
  obtain ⟨hnb, ⟨sa, hsa⟩, hU, hNs⟩ := hE
  exact ns_W hx hb hst hown (hts (.classLink RX8 173 nsN) (List.mem_cons_of_mem _ (List.mem_append_right _ (List.mem_append_left _ (by decide))))) (hts (.initialized nsN) (List.mem_cons_of_mem _ (List.mem_append_right _ (List.mem_append_left _ (by decide))))) hsa (vx_hat (fun w hw => hts w (List.mem_cons_of_mem _ (List.mem_append_right _ (List.mem_append_right _ hw)))) nsA_bad (fun w hw => va_Nw.use (nbl_tab w (List.mem_append_left _ hw)) (hnb w (List.mem_append_left _ hw)))) ns_ot1 ns_ot2 nsA_ot hU hNs hS (by rw [hml]; exact hl.1) dX8_steed_19 dX8_steed_22 dX8_steed_23 dX8_steed_25 dX8_steed_28 (fun x hx => (htab x hx).elim) (Nat.le_of_ble_eq_true rfl) (Nat.le_of_ble_eq_true rfl) (Nat.le_of_ble_eq_true rfl) (Nat.le_of_ble_eq_true rfl) hlocks (fun t9 hal hle hk => ⟨(), trivial, rfl, hle, fun q hq _ => hk q hq⟩) (fun z hz => nomatch hz) (Nat.le_of_ble_eq_true rfl) (Nat.le_of_ble_eq_true rfl)

set_option maxHeartbeats 4000000 in
set_option maxRecDepth 100000 in
theorem c_L_steed (l : Launch) (hst : l.stackTraces = false) (dC : Nat → ClassId) (dI : Nat → Nat → Nat) (h0 : Nat) (a1 : Nat) (a2 : Nat) (a3 : Nat) (a4 : Nat) (a5 : Nat) (a6 : Nat) (a7 : Nat) (a8 : Nat) (a9 : Nat) (k5 : ClassId) (p0 : Int32) (p1 : Int32) (o : Nat) (sz : Nat) : Met l yL_steed wN_Lsteed ({ frames := 7, cells := 1, slots := 6, locals := 120 }) (va_Pc [.ref h0, .int p0, .int p1, .ref o] (fun U => cP dC dI [(h0, .inr (8, [.ref a1, .ref a2, .ref a3, .ref a4, .ref a5, .ref a6, .ref a7, .ref a8, .ref a9, .int 0, .int 0, .int 0, .int 0, .int 0, .int 0])), (a5, .inl (k5, 60, .inr (.inr (.inr (.inr (fun _ => none))))))] [(k5, .object "YamRiders$Horse")] sz U ∧ XE 204 "no such horse, or nothing of the kind is told of horses" (va_A [(h0, .inr (8, [.ref a1, .ref a2, .ref a3, .ref a4, .ref a5, .ref a6, .ref a7, .ref a8, .ref a9, .int 0, .int 0, .int 0, .int 0, .int 0, .int 0])), (a5, .inl (k5, 60, .inr (.inr (.inr (.inr (fun _ => none))))))] sz) U)) (va_Qi (fun (r : Int32) (_ : Unit) => r = 1) (fun _ _ => True) (va_A [(h0, .inr (8, [.ref a1, .ref a2, .ref a3, .ref a4, .ref a5, .ref a6, .ref a7, .ref a8, .ref a9, .int 0, .int 0, .int 0, .int 0, .int 0, .int 0])), (a5, .inl (k5, 60, .inr (.inr (.inr (.inr (fun _ => none))))))] sz)) 1 6 (va_A [(h0, .inr (8, [.ref a1, .ref a2, .ref a3, .ref a4, .ref a5, .ref a6, .ref a7, .ref a8, .ref a9, .int 0, .int 0, .int 0, .int 0, .int 0, .int 0])), (a5, .inl (k5, 60, .inr (.inr (.inr (.inr (fun _ => none))))))] sz) := by
  refine va_MetW (hh := [(0, 10, 13, 13)]) (cc := cL_steed) (maxL := 5) (ret := (some .int)) (by decide) rfl ?_
  intro p e s m args below meth c s₁ B hml hv
  obtain ⟨rfl, ⟨hsz, hP, hK, hD0, hN⟩, hE⟩ := hv
  have hx := B.exec
  have hb := B.bytes
  have hr := B.returns
  have hts := atoms_spec (ws := wN_Lsteed) B.pre
  have hown : s.vm.findClass RL = some m.cls := findClass_of_methodNamed B.named
  have hlocks := B.notSynchronized
  have htab := vx_table (x := yL_steed) B (hts _ List.mem_cons_self)
  subst hsz
  have hD := hD0.self (sz := s.heap.size)
  have hA : ∀ q : Nat, s.heap.size ≤ q → (va_A [(h0, .inr (8, [.ref a1, .ref a2, .ref a3, .ref a4, .ref a5, .ref a6, .ref a7, .ref a8, .ref a9, .int 0, .int 0, .int 0, .int 0, .int 0, .int 0])), (a5, .inl (k5, 60, .inr (.inr (.inr (.inr (fun _ => none))))))] s.heap.size) q := fun q h => Or.inr h
  have hS : va_S (va_A [(h0, .inr (8, [.ref a1, .ref a2, .ref a3, .ref a4, .ref a5, .ref a6, .ref a7, .ref a8, .ref a9, .int 0, .int 0, .int 0, .int 0, .int 0, .int 0])), (a5, .inl (k5, 60, .inr (.inr (.inr (.inr (fun _ => none))))))] s.heap.size) s.heap s.heap [] := va_S.rf
  have hP : va_P (dC, dI) vwCl [(h0, .inr (8, [.ref a1, .ref a2, .ref a3, .ref a4, .ref a5, .ref a6, .ref a7, .ref a8, .ref a9, .int 0, .int 0, .int 0, .int 0, .int 0, .int 0])), (a5, .inl (k5, 60, .inr (.inr (.inr (.inr (fun _ => none))))))] s.heap := hP
  have hl := lv_entry ([.ref h0, .int p0, .int p1, .ref o]) (n := 5) (Nat.le_of_ble_eq_true rfl)
  rw [lg_entry_eq]
  generalize (lg_sl ([.ref h0, .int p0, .int p1, .ref o]) ++ List.replicate (5 - (lg_sl ([.ref h0, .int p0, .int p1, .ref o])).length) Slot.unset).toArray = ls at hl ⊢
  have hl : lv_has ls 5 [(0, .ref h0), (1, .int p0), (2, .int p1), (3, .ref o)] := hl
  refine lv_aload_n hx hb dL_steed_0 rfl (lv_at hl 3 rfl) ?_
  refine lv_iconst (v := 0) hx hb dL_steed_1 (by decide) ?_
  refine lv_aload_n hx hb dL_steed_2 rfl (lv_at hl 0 rfl) ?_
  refine lv_iload_n hx hb dL_steed_3 rfl (lv_at hl 1 rfl) ?_
  refine lv_iload_n hx hb dL_steed_4 rfl (lv_at hl 2 rfl) ?_
  have hFc := va_free (wc := [(h0, .inr (8, [.ref a1, .ref a2, .ref a3, .ref a4, .ref a5, .ref a6, .ref a7, .ref a8, .ref a9, .int 0, .int 0, .int 0, .int 0, .int 0, .int 0])), (a5, .inl (k5, 60, .inr (.inr (.inr (.inr (fun _ => none))))))]) hD hS hA [0, 1] rfl
  refine vx_calli (vx_runV (As := [.int p0, .int p1]) (rest := [.int 0, .ref o]) ⟨hx, hb, hml, hown, hts⟩ (c_X8_steed l hst dC dI h0 a1 a2 a3 a4 a5 a6 a7 a8 a9 k5 p0 p1 s.heap.size) (cwV 2 hts gN_Lsteed rfl rfl rfl (by decide +kernel) ⟨Nat.le_of_ble_eq_true rfl, Nat.le_of_ble_eq_true rfl⟩) ⟨x_blind, va_recv hK hP (ci := 8) (q0 := 0) rfl rfl, x_pre hP hK hD hN hE⟩ rfl rfl hl.1 rfl (lv_room (Nat.le_of_ble_eq_true rfl)) dL_steed_5 ⟨Nat.le_of_ble_eq_true rfl, Nat.le_of_ble_eq_true rfl⟩) hS (fun q _ h => hFc q h) hFc (fun q _ h => hFc q h) (fun E ce q9 u9 t9 H1 locs ht hal hpx hBX hz1 hk1 hS hce hcv hcl => ?_) (fun r u9 t9 H1 locs ht hvm hw hB hz1 hk1 hS => hw.elim)
  subst hBX
  refine vx_catch (name := nsN) hown [] { startPc := 0, endPc := 10, handlerPc := 13, catchType := 13 } [] htab (fun z hz => nomatch hz) (by decide) (by decide) (hts (.classLink RL 13 nsN) (List.mem_cons_of_mem _ (List.mem_append_right _ (by decide)))) (va_Nw.use (nbl_tab _ nbl_cast) (hE.1 _ nbl_cast)) hce hcv hcl ?_
  refine W.widen (k := 1) (n := 6) (Nat.le_of_ble_eq_true rfl) (Nat.le_of_ble_eq_true rfl) ?_
  refine lv_astore (lv' := [(4, .ref q9), (0, .ref h0), (1, .int p0), (2, .int p1), (3, .ref o)]) hx hb dL_steed_13 hl (by decide) rfl (fun ls hl => ?_)
  refine lv_iconst (v := 1) hx hb dL_steed_15 (by decide) ?_
  exact W.iret (v := 1) hx hb hr (fun t9 ht hW => ⟨⟨_, (), rfl, rfl, trivial⟩, hS.F ht⟩) hS.2.2 dL_steed_16

def XS_in : True := trivial
