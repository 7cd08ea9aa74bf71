def nwl : List Cond := [.fieldLinkNest RX8 70 "YamRiders$Tape" "length" "I" "YamRiders", .fieldLinkNest RX4 99 "YamRiders$Tape" "length" "I" "YamRiders", .fieldLinkNest RX8 82 "YamRiders$StatuteReader" "faultKind" "I" "YamRiders", .fieldLinkNest RX8 86 "YamRiders$StatuteReader" "faultPlace" "I" "YamRiders", .fieldLinkNest RX8 89 "YamRiders$StatuteReader" "told" "LYamRiders$Statutes;" "YamRiders", .fieldLinkNest RX8 92 "YamRiders$StatuteReader" "ruleCount" "I" "YamRiders", .fieldLinkNest RX8 134 "YamRiders$Tablet" "rank" "I" "YamRiders", .fieldLinkNest RX8 158 "YamRiders$Rider" "state" "I" "YamRiders", .fieldLinkNest RX8 184 "YamRiders$Rider" "came" "I" "YamRiders", .fieldLinkNest RX8 190 "YamRiders$Rider" "reached" "I" "YamRiders", .fieldLinkNest RX8 193 "YamRiders$Rider" "tablet" "I" "YamRiders", .fieldLinkNest RX8 206 "YamRiders$Horse" "strength" "I" "YamRiders", .fieldLinkNest RX8 209 "YamRiders$Horse" "station" "I" "YamRiders", .fieldLinkNest RX8 270 "YamRiders$Rider" "rank" "I" "YamRiders", .fieldLinkNest RX8 293 "YamRiders$Rider" "horse" "LYamRiders$Horse;" "YamRiders", .fieldLinkNest RX8 297 "YamRiders$Rider" "left" "I" "YamRiders", .fieldLinkNest RX8 300 "YamRiders$Rider" "time" "I" "YamRiders", .fieldLinkNest RX2 49 "YamRiders$Horse" "number" "I" "YamRiders", .castable "[I" "java/lang/Cloneable", .methodLinkNest RX8 9 yX7_init "YamRiders", .methodLinkNest RX8 18 yX3_init "YamRiders", .methodLinkNest RX8 25 yX1_init "YamRiders", .methodLinkNest RX8 57 yX5_init "YamRiders", .methodLinkNest RX4 11 yX5_init "YamRiders", .methodLinkNest RX3 30 yX8_isStation "YamRiders", .methodLinkNest RX1 26 yX8_isStation "YamRiders", .methodLinkNest RX2 41 yX8_isStation "YamRiders", .methodLinkNest RX6 25 yX8_isStation "YamRiders"]
def nw_ok : Cond → Bool
  | .fieldLinkNest .. => true
  | .methodLinkNest .. => true
  | .castable .. => true
  | _ => false
theorem nwl_ok : ∀ w ∈ nwl, nw_ok w = true := by decide +kernel
theorem nwl_tab : ∀ w ∈ nwl, w.onTables = true := by decide +kernel
def NW (U : State) : Prop := (∀ w ∈ nwl, va_Nw w U) ∧ va_AO "YamRiders$Horse" U ∧ va_AO "YamRiders$Tablet" U ∧ va_AO "YamRiders$Rider" U ∧ va_AOA .int U
theorem va_AOA.moved {t : FieldType} {u U : State} (hvm : u.vm.Alike U.vm) (h : va_AOA t u) : va_AOA t U := by
  obtain ⟨comp, c, k, h1, h2, h3, h4, h5⟩ := arrayOverA_spec h
  obtain ⟨k', hk', he⟩ := hvm.2.2 _ _ h3
  have e1 := va_idx_bare U.vm comp
  rw [hvm.bare_eq] at e1
  have hi := e1.symm.trans ((va_idx_bare u.vm comp).trans h2)
  have hkind : k'.kind = .array comp (.array t) := by rw [he]; exact h4
  have f1 : U.vm.findClass (FieldType.array t).toString = some comp := by rw [hvm.findClass]; exact h1
  have f2 : U.vm.findClass ("[" ++ (FieldType.array t).toString) = some c := by rw [hvm.findClass]; exact h5
  unfold va_AOA Cond.before Cond.holds
  simp only [Cond.value]
  rw [f1, Option.bind_some]
  refine Eq.trans (congrArg (fun o : Option Nat => (o.bind _ == some true)) hi) ?_
  simp [hk', hkind, f2]
theorem NW.warm {s U : State} (hW : s.WarmedH U.vm) (h : NW s) : NW U := by
  obtain ⟨h1, h2, h3, h4, h5⟩ := h
  refine ⟨fun w hw => ?_, va_AO.moved hW.alike h2, va_AO.moved hW.alike h3, va_AO.moved hW.alike h4, va_AOA.moved hW.alike h5⟩
  have hz := h1 w hw
  have ho := nwl_ok w hw
  cases w <;> first | exact va_Nw.warmF hW hz | exact va_Nw.warmM hW hz | exact va_Nw.warmC hW hz | cases ho
theorem NW.same {s U : State} (hv : s.vm = U.vm) (h : NW s) : NW U := NW.warm (hv ▸ State.WarmedH.refl s) h
theorem NW.nx {U : State} (h : NW U) {args : Array Value} (w : Cond) (hw : w ∈ nwl) : w.before args U = true := va_Nw.use (nwl_tab w hw) (h.1 w hw)
def cP (dC : Nat → ClassId) (dI : Nat → Nat → Nat) (ws : va_W) (tys : List (ClassId × FieldType)) (sz : Nat) : State → Prop := fun U => U.heap.size = sz ∧ va_P (dC, dI) vwCl ws U.heap ∧ va_K (dC, dI) vwCl tys U ∧ va_D (fun _ => True) ws ∧ NW U
def cQ (dC : Nat → ClassId) (dI : Nat → Nat → Nat) (ws : va_W) (tys : List (ClassId × FieldType)) (A : Nat → Prop) : State → Prop := fun t => va_P (dC, dI) vwCl ws t.heap ∧ va_K (dC, dI) vwCl tys t ∧ va_D A ws
theorem c_blind {av : List Value} {dC : Nat → ClassId} {dI : Nat → Nat → Nat} {ws : va_W} {tys : List (ClassId × FieldType)} {sz : Nat} : FrameBlind (va_Pc av (cP dC dI ws tys sz)) := fun a U g mk q => by
  obtain ⟨q0, q1, qP, qK, qD, qN⟩ := q
  exact ⟨q0, q1, qP, va_K.moved (u := U) (U := U.calling g mk a) (Vm.Alike.refl U.vm) qK, qD, NW.same (s := U) (U := U.calling g mk a) rfl qN⟩
theorem c_pre {av : List Value} {dC : Nat → ClassId} {dI : Nat → Nat → Nat} {ws : va_W} {tys : List (ClassId × FieldType)} {s : State} {H : Heap} {A : Nat → Prop} (hP : va_P (dC, dI) vwCl ws H) (hK : va_K (dC, dI) vwCl tys s) (hD : va_D A ws) (hN : NW s) : ∀ U : State, U.heap = H → s.WarmedH U.vm → va_Pc av (cP dC dI ws tys H.size) av.toArray U := fun U hU hW => ⟨rfl, by rw [hU], by rw [hU]; exact hP, va_K.moved hW.alike hK, hD.weaken (fun _ _ _ _ => trivial), NW.warm hW hN⟩
section CS
variable {p : Program} {l : Launch} {e : Env} {R : Room} {s : State} {m : MethodId} {args : Array Value} {below : List Frame} {meth : Method} {c : Code} {H : Heap} {locs : List Loc} {cells slots : Nat} {Q : State → Prop} {pc : Nat} {ls : Array Slot} {rest st0 : List Value} {a : Array Value}
theorem cs_i {post : Int32 → Prop} (hr : va_Run p l e R s m args below meth c H locs cells slots 0 0 (F0 m pc ls st0) rest (vp_Si post a) (fun _ => False))
    (kk : ∀ r : Int32, post r → W p l e R s m args below meth c H locs cells slots Q (F0 m (pc + 3) ls (.int r :: rest))) : W p l e R s m args below meth c H locs cells slots Q (F0 m pc ls st0) := by
  intro T hT X
  obtain ⟨v, st₀, t, T', L, h0, X', hL, e1, e2, ⟨r, hv, hp, hh⟩, st⟩ := hr T hT X
  cases hv
  obtain ⟨t2, a1, b1⟩ := kk r hp T' (by rw [e1, hh, h0]) (Stand.forget X' (fun q h => (hL q h).elim))
  exact ⟨t2, st t2 a1, b1⟩
theorem cs_v {post : Unit → Prop} (hr : va_Run p l e R s m args below meth c H locs cells slots 0 0 (F0 m pc ls st0) rest (va_Sv post a) (fun _ => False))
    (kk : post () → W p l e R s m args below meth c H locs cells slots Q (F0 m (pc + 3) ls rest)) : W p l e R s m args below meth c H locs cells slots Q (F0 m pc ls st0) := by
  intro T hT X
  obtain ⟨v, st₀, t, T', L, h0, X', hL, e1, e2, ⟨hv, hp, hh⟩, st⟩ := hr T hT X
  cases hv
  obtain ⟨t2, a1, b1⟩ := kk hp T' (by rw [e1, hh, h0]) (Stand.forget X' (fun q h => (hL q h).elim))
  exact ⟨t2, st t2 a1, b1⟩
theorem cs_n {post : Option Nat → Prop} (hr : va_Run p l e R s m args below meth c H locs cells slots 0 0 (F0 m pc ls st0) rest (va_Sq post a) (fun _ => False)) (hn : ∀ r, post r → r = none)
    (kk : W p l e R s m args below meth c H locs cells slots Q (F0 m (pc + 3) ls (.null :: rest))) : W p l e R s m args below meth c H locs cells slots Q (F0 m pc ls st0) := by
  intro T hT X
  obtain ⟨v, st₀, t, T', L, h0, X', hL, e1, e2, ⟨r, hv, hp, hh⟩, st⟩ := hr T hT X
  have hr0 := hn r hp
  subst hr0
  cases hv
  obtain ⟨t2, a1, b1⟩ := kk T' (by rw [e1, hh, h0]) (Stand.forget X' (fun q h => (hL q h).elim))
  exact ⟨t2, st t2 a1, b1⟩
end CS
theorem ka_int {args : Array Value} {s : State} {D : va_G} {cl : List vw_C} {tys : List (ClassId × FieldType)} (h : (Cond.arrayClass .int).before args s = true) (hK : va_K D cl tys s) : ∃ cy : ClassId, s.vm.findClass (FieldType.array .int).toString = some cy ∧ va_K D cl (tys ++ [(cy, .int)]) s := by
  obtain ⟨c, k, comp, h1, h2, h3⟩ := Cond.arrayClass_spec h
  refine ⟨c, h1, hK.1, fun j x hx => ?_⟩
  by_cases hl : j < tys.length
  · rw [List.getElem?_append_left hl] at hx
    exact hK.2 j x hx
  · rw [List.getElem?_append_right (by omega)] at hx
    have hz : j - tys.length < 1 := (List.getElem?_eq_some_iff.mp hx).1
    rw [show j - tys.length = 0 by omega] at hx
    cases hx
    exact ⟨fun n z => ⟨(fun k h => by cases h), k, h2, comp, h3⟩, h1⟩
theorem pl12 {r : Nat → Nat} {f : Nat → va_E} {e : va_E} : va_pl ([] ++ (List.range 12).map r) (vr_up f ((List.range 12).map r) e) = [(r 0, e), (r 1, e), (r 2, e), (r 3, e), (r 4, e), (r 5, e), (r 6, e), (r 7, e), (r 8, e), (r 9, e), (r 10, e), (r 11, e)] := by
  unfold va_pl
  rw [List.nil_append, List.map_map]
  have h : (List.range 12).map ((fun a => (a, vr_up f ((List.range 12).map r) e a)) ∘ r) = (List.range 12).map (fun i => (r i, e)) := List.map_congr_left (fun i hi => by
    show (r i, vr_up f ((List.range 12).map r) e (r i)) = (r i, e)
    rw [vr_up_in (List.mem_map.mpr ⟨i, hi, rfl⟩)])
  rw [h]
  rfl
section MN
variable {p : Program} {l : Launch} {e : Env} {R : Room} {s : State} {m : MethodId} {args : Array Value} {below : List Frame} {meth : Method} {c : Code} {H : Heap} {locs : List Loc} {cells slots : Nat} {Q : State → Prop}
variable {cc : ByteArray} {pc : Nat} {ls : Array Slot} {rest : List Value} {D : va_G} {cl : List vw_C} {A : Nat → Prop} {a : Nat} {tys : List (ClassId × FieldType)} {ws : va_W} {H0 : Heap}
theorem va_aldg (hexec : p.tables.exec = Jvm.exec) (hb : c.code = cc) (hK : va_K D cl tys s) (hP : va_P D cl ws H) (q0 t0 : Nat) {cA : ClassId} {ty : FieldType} {n : Nat} {f : Nat → Option Nat} (ha : ws[q0]? = some (a, .inl (cA, n, .inr (.inr (.inr (.inr f)))))) (ht : tys[t0]? = some (cA, .array ty)) {i : Int32} (hin : vp_in i n) {y : Nat} (hy : f i.toNatClampNeg = some y) (hdg : decode cc pc = .ok (.aaload, 1))
    (kk : W p l e R s m args below meth c H locs cells slots Q (F0 m (pc + 1) ls (.ref y :: rest))) : W p l e R s m args below meth c H locs cells slots Q (F0 m pc ls (.int i :: .ref a :: rest)) := by
  have hlt : i.toNatClampNeg < n := Nat.not_le.mp fun q => hin (Or.inr q)
  exact W.aald (v := .ref y) (ty := .array ty) hexec hb (hP q0 _ ha) ((hK.2 t0 _ ht).1 n (fun j => va_rf (f j))) rfl (fun q => by cases q) (by show ¬ (i < 0 ∨ (arrV _ _ _).slots.size ≤ _); rw [arrV_size]; exact hin) (by show (arrV _ _ _).slots[_]? = _; rw [arrV_read _ _ hlt, hy]; rfl) rfl rfl hdg kk
theorem mna12 (hexec : p.tables.exec = Jvm.exec) (hb : c.code = cc) {own : String} {index : Nat} {cy : ClassId} (hown : s.vm.findClass own = some m.cls) (hclink : (Cond.classLink own index "[[I").before args s = true) (hover : va_AOA .int s) (harr : (Cond.arrayClass .int).before args s = true) (hcy : s.vm.findClass (FieldType.array .int).toString = some cy)
    (hK : va_K D cl tys s) (hP : va_P D cl ws H) (hD : va_D A ws) (hS : va_S A H0 H locs) (hA : ∀ q, H0.size ≤ q → A q) (hcells : cells + (1 + 12) ≤ R.cells) (hslots : slots + (12 + 12 * 12) ≤ R.slots) (hdg : decode cc pc = .ok (.multianewarray index 2, 4))
    (kk : ∀ (q : Nat) (r : Nat → Nat) (cA : ClassId) (H1 : Heap), va_K D cl (tys ++ [(cA, .array .int)]) s →
      va_P D cl ((ws ++ [(q, .inl (cA, 12, .inr (.inr (.inr (.inr (fun i => if i < 12 then some (r i) else none))))))]) ++ [(r 0, .inl (cy, 12, .inl (fun _ => 0))), (r 1, .inl (cy, 12, .inl (fun _ => 0))), (r 2, .inl (cy, 12, .inl (fun _ => 0))), (r 3, .inl (cy, 12, .inl (fun _ => 0))), (r 4, .inl (cy, 12, .inl (fun _ => 0))), (r 5, .inl (cy, 12, .inl (fun _ => 0))), (r 6, .inl (cy, 12, .inl (fun _ => 0))), (r 7, .inl (cy, 12, .inl (fun _ => 0))), (r 8, .inl (cy, 12, .inl (fun _ => 0))), (r 9, .inl (cy, 12, .inl (fun _ => 0))), (r 10, .inl (cy, 12, .inl (fun _ => 0))), (r 11, .inl (cy, 12, .inl (fun _ => 0)))]) H1 →
      va_D A ((ws ++ [(q, .inl (cA, 12, .inr (.inr (.inr (.inr (fun i => if i < 12 then some (r i) else none))))))]) ++ [(r 0, .inl (cy, 12, .inl (fun _ => 0))), (r 1, .inl (cy, 12, .inl (fun _ => 0))), (r 2, .inl (cy, 12, .inl (fun _ => 0))), (r 3, .inl (cy, 12, .inl (fun _ => 0))), (r 4, .inl (cy, 12, .inl (fun _ => 0))), (r 5, .inl (cy, 12, .inl (fun _ => 0))), (r 6, .inl (cy, 12, .inl (fun _ => 0))), (r 7, .inl (cy, 12, .inl (fun _ => 0))), (r 8, .inl (cy, 12, .inl (fun _ => 0))), (r 9, .inl (cy, 12, .inl (fun _ => 0))), (r 10, .inl (cy, 12, .inl (fun _ => 0))), (r 11, .inl (cy, 12, .inl (fun _ => 0)))]) → va_S A H0 H1 locs →
      W p l e R s m args below meth c H1 locs (cells + 1 + 12) (slots + 12 + 12 * 12) Q (F0 m (pc + 4) ls (.ref q :: rest))) : W p l e R s m args below meth c H locs cells slots Q (F0 m pc ls (.int 12 :: .int 12 :: rest)) := by
  have e0 : ws ++ va_pl [] (fun _ => (.inl (cy, 12, .inl (fun _ => 0)) : va_E)) = ws := List.append_nil _
  refine va_mna (X := ws) (L := []) (f := fun _ => .inl (cy, 12, .inl (fun _ => 0))) (ty := .int) (cy := cy) (N' := 12) (K' := 12) (z := (12, .inl (fun _ => 0))) hexec hb hown hclink hover harr hcy hK (by rw [e0]; exact hP) (by rw [e0]; exact hD) hS hA (by decide) (by decide) (by decide) (by decide) (by decide) (by decide) (by decide) rfl rfl hcells hslots (fun _ => rfl) hdg (fun q r cA H1 _ _ hK hP hD hS => ?_)
  rw [pl12] at hP hD
  exact kk q r cA H1 hK hP hD hS
end MN
