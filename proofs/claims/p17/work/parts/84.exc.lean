def nsN : String := "java/util/NoSuchElementException"
def rtN : String := "java/lang/RuntimeException"
def nsB : ByteArray := ⟨#[0x2a, 0x2b, 0xb7, 0x00, 0x0d, 0xb1]⟩
theorem nsB_0 : decode nsB 0 = .ok (.aload_n 0, 1) := by decide +kernel
theorem nsB_1 : decode nsB 1 = .ok (.aload_n 1, 1) := by decide +kernel
theorem nsB_2 : decode nsB 2 = .ok (.invokespecial 13, 3) := by decide +kernel
theorem nsB_5 : decode nsB 5 = .ok (.return_, 1) := by decide +kernel
def nsTail (own : String) (ic : Nat) : List Cond := [.methodLink own ic (Bundle.initS nsN), .instantiable nsN 6, .selects nsN Bundle.tFill0 Bundle.tFill0, .selects nsN Bundle.tFill Bundle.tFill, .lays nsN Bundle.tN "cause" "Ljava/lang/Throwable;", .lays nsN Bundle.tN "stackTrace" Bundle.steD, .lays nsN Bundle.tN "suppressedExceptions" Bundle.listD, .lays nsN Bundle.tN "detailMessage" "Ljava/lang/String;", .fieldLink Bundle.tN 198 Bundle.tN "backtrace" "Ljava/lang/Object;", .lays Bundle.tN Bundle.tN "backtrace" "Ljava/lang/Object;", .lays nsN Bundle.tN "backtrace" "Ljava/lang/Object;"]
section NS
variable {p : Program} {l : Launch} {e : Env} {R : Room} {s : State} {m : MethodId} {args : Array Value} {below : List Frame} {meth : Method} {c : Code} {V : State} {cells slots : Nat}
theorem ns_throw (X : Stand p l e R s m args below meth c V [] cells slots) (hexec : p.tables.exec = Jvm.exec) (htr : e.platform.stackTraces = false) {own : String} {ic : Nat}
    (hown : s.vm.findClass own = some m.cls)
    (hT : ∀ w ∈ Bundle.throwableAtoms, w.before args s = true) (hTS : ∀ w ∈ Bundle.throwableSAtoms, w.before args s = true) (hPa : ∀ w ∈ Bundle.passSAtoms nsN rtN 13 nsB, w.before args s = true)
    (hCh : ∀ w ∈ Bundle.chainSAtoms rtN ["java/lang/Exception"], w.before args s = true) (h : ∀ w ∈ nsTail own ic, w.before args s = true)
    (hrU : (Cond.isRef (.static Bundle.tN "UNASSIGNED_STACK" Bundle.steD)).before args s = true) (hrS : (Cond.isRef (.static Bundle.tN "SUPPRESSED_SENTINEL" Bundle.listD)).before args s = true)
    {a : Addr} {cX : ClassId} {kX : Class} (hfoundX : s.vm.findClass nsN = some cX) (hkX : s.vm.classes[cX]? = some kX) (hcell : V.heap[a]? = some (freshCell cX kX)) (hnew : s.heap.size ≤ a)
    {msg : Value} (hmsg : msg.isRef = true)
    {g : JFrame} (hg : g.method = m) (hsize : g.locals.size = c.maxLocals) (hlocked : g.locked = none) (hentered : g.entered = []) {rest : List Value} (hstack : g.stack = msg :: .ref a :: .ref a :: rest)
    (hd6 : decode c.code g.pc = .ok (.invokespecial ic, 3)) (hd9 : decode c.code (g.pc + 3) = .ok (.athrow, 1)) (hout : ∀ x ∈ c.exceptionTable.toList, covers x (g.pc + 3) = false)
    (hRframes : 5 < R.frames) (hRlocals : 2 * g.monitorRoom + ((Value.ref a :: rest).map fun v => v.category).sum + (13 * 3 + 42) ≤ R.locals) (hlocks : meth.locks = false) :
    ∃ U : State, Steps p.tables e below (V.setTop g) U ∧ U.status = .running ∧ Ended U below (.threw a) ∧ s.WarmedH U.vm ∧ s.sameButNew ({ U with vm := s.vm } : State) [] cells slots ∧
      ∃ ce, U.heap[a]? = some ce ∧ ce.vm = .none ∧ s.vm.findClass nsN = some ce.cls := by
  have hpl : e.platform.magicAccessors = ({} : Platform).magicAccessors := by rw [X.admits.platform]
  obtain ⟨T, Z0, L, -, Y⟩ := ThrowableC.of_atoms (args := args) (by rw [X.admits.platform]) (by rw [X.admits.platform]) hpl hT
  obtain ⟨Z, M, LZ, LM, hnZ⟩ := Init0T.ofS_atoms (args := args) hpl L Y hTS
  obtain ⟨P1, L1, hm1, hs1⟩ := PassC.ofS_atoms (args := args) (s := s) hpl (X := nsN) (Y := rtN) (by decide) (by decide) nsB_0 nsB_1 nsB_2 nsB_5 hPa
  obtain ⟨P2, Ps, hlen, L2, hL, hm2, hlink2, hlink⟩ := Bundle.chainS (args := args) hpl hnZ ["java/lang/Exception"] rtN (by decide +kernel) (by decide +kernel) hCh
  have hlink1 : P1.sup = P2.m := Option.some.inj (hs1.symm.trans hm2)
  have hfound : s.vm.findClass nsN = some P1.m.cls := findClass_of_methodNamed hm1
  cases Option.some.inj (hfoundX.symm.trans hfound)
  obtain ⟨c1, kX', hc1, hk, hord, -, -, hn6⟩ := Cond.instantiable_spec (h (.instantiable nsN 6) (by simp [nsTail]))
  cases Option.some.inj (hc1.symm.trans hfound)
  cases Option.some.inj (hkX.symm.trans hk)
  have hsel0 : selectMethod e.platform s.vm P1.m.cls T.fill0 = .method T.fill0 := by
    obtain ⟨c2, r2, m2, q1, q2, q3, q4, -⟩ := Cond.selects_spec (h (.selects nsN Bundle.tFill0 Bundle.tFill0) (by simp [nsTail]))
    cases Option.some.inj (q1.symm.trans hfound)
    cases Option.some.inj (q2.symm.trans (State.methodFound?_of_named Y.fill0 (by decide)))
    cases Option.some.inj (q3.symm.trans Y.fill0)
    rw [Launch.admits_selectMethod X.admits]; exact q4
  have hselF : selectMethod e.platform s.vm P1.m.cls T.fill = .method T.fill := by
    obtain ⟨c2, r2, m2, q1, q2, q3, q4, -⟩ := Cond.selects_spec (h (.selects nsN Bundle.tFill Bundle.tFill) (by simp [nsTail]))
    cases Option.some.inj (q1.symm.trans hfound)
    cases Option.some.inj (q2.symm.trans (State.methodFound?_of_named Y.fill (by decide)))
    cases Option.some.inj (q3.symm.trans Y.fill)
    rw [Launch.admits_selectMethod X.admits]; exact q4
  obtain ⟨cS, hcS, hiss⟩ := Y.statics
  obtain ⟨u0, hu0⟩ := Cond.staticRefV Y.unassigned L.unassignedStatic L.statics hcS hiss hrU
  obtain ⟨sen, hsen⟩ := Cond.staticRefV Y.sentinel L.sentinelStatic L.statics hcS hiss hrS
  obtain ⟨ciB, iB, fB, hkB, hgB, haB, hsB, -, hnB, htB, hffB⟩ := Cond.ownField (t := .object "java/lang/Object") Y.found L.cls (by decide +kernel) (h (.fieldLink Bundle.tN 198 Bundle.tN "backtrace" "Ljava/lang/Object;") (by simp [nsTail])) (h (.lays Bundle.tN Bundle.tN "backtrace" "Ljava/lang/Object;") (by simp [nsTail])) e.platform hpl
  obtain ⟨cS', hcS', heS, -, hkeep⟩ := X.same.2.2.2.2.2 T.aS cS hcS
  have hcellS : V.heap[T.aS]? = some cS' := hcS'
  have hknS : cS'.vm ≠ .unknown := fun hu => by
    rw [heS] at hu
    rw [show cS.vm = .unknown from hu] at hiss
    cases hiss
  have hneS : T.aS ≠ a := Nat.ne_of_lt (Nat.lt_of_lt_of_le (Array.getElem?_eq_some_iff.mp hcS).1 hnew)
  obtain ⟨iM, hffM⟩ := Y.msg
  obtain ⟨tyC, dCc, hdC, hdnC⟩ := Cond.laysAt hfound hk Y.cause (h (.lays nsN Bundle.tN "cause" "Ljava/lang/Throwable;") (by simp [nsTail]))
  obtain ⟨tyS, dS, hdS, hdnS⟩ := Cond.laysAt hfound hk Y.stack (h (.lays nsN Bundle.tN "stackTrace" Bundle.steD) (by simp [nsTail]))
  obtain ⟨tyP, dP, hdP, hdnP⟩ := Cond.laysAt hfound hk Y.supp (h (.lays nsN Bundle.tN "suppressedExceptions" Bundle.listD) (by simp [nsTail]))
  obtain ⟨tyM, dM, hdM, hdnM⟩ := Cond.laysAt hfound hk hffM (h (.lays nsN Bundle.tN "detailMessage" "Ljava/lang/String;") (by simp [nsTail]))
  obtain ⟨tyB, dB, hdB, hdnB⟩ := Cond.laysAt hfound hk hffB (h (.lays nsN Bundle.tN "backtrace" "Ljava/lang/Object;") (by simp [nsTail]))
  have bC := Cond.laysApart hdB hdC hdnB hdnC (by rw [hnB, Y.causeName]; decide)
  have bS := Cond.laysApart hdB hdS hdnB hdnS (by rw [hnB, Y.stackName]; decide)
  have bP := Cond.laysApart hdB hdP hdnB hdnP (by rw [hnB, Y.suppName]; decide)
  have hskip : SkipFacts T e.platform s (fun u => u) u0 ((preparedCellV T.toThrowableT (freshCell P1.m.cls kX) a u0 sen).withEntry V.cur) :=
    ⟨{ ci198 := ciB, i198 := iB, fBack := fB }, ⟨hkB, hgB, haB, hsB⟩, by
      have h9 := fresh_default (c := P1.m.cls) tyB
      rw [htB] at h9
      simpa [preparedCellV, Cell.setSlot, Cell.withEntry, Array.getElem?_setIfInBounds, bC, bS, bP, bC.symm, bS.symm, bP.symm, defaultValue] using h9, fun _ _ => rfl⟩
  obtain ⟨tm, methC, cdC, kC, vm₁, hnC, -, -, -, -, -, -, -, hW₁, st1⟩ := Steps.initColdS (tb := p.tables) (e := e) (below := below) (s := s) (U := V) X.here hexec X.warmed hpl hown (t := Bundle.initS nsN) rfl rfl (by decide)
    (h (.methodLink own ic (Bundle.initS nsN)) (by simp [nsTail])) (hPa (.instanceMethod (Bundle.initS nsN)) (by simp [Bundle.passSAtoms])) (bytes := nsB) (maxL := 2) (hPa (.code (Bundle.initS nsN) nsB 2 none) (by simp [Bundle.passSAtoms]))
    (f := g) hg (a := a) (msg := msg) (rest := .ref a :: rest) hstack hd6
  cases Option.some.inj (hnC.symm.trans hm1)
  have X₁ := X.noted hW₁
  obtain ⟨vm₂, X₂, st2⟩ := X₁.ctorMessageOffV hexec (g := { g with stack := .ref a :: rest }) hg hsize T L Z LZ M LM (P1 :: P2 :: Ps)
    (fun P hP => by
      rcases List.mem_cons.mp hP with rfl | hP
      · exact L1
      · rcases List.mem_cons.mp hP with rfl | hP
        · exact L2
        · exact hL P hP) ⟨hlink1, hlink2, hlink⟩ (u0 := u0) (sen := sen) (self := a) hmsg (cell := freshCell P1.m.cls kX) (cellS := cS')
    hcell (fun _ => by simp) (by simp) rfl rfl hsel0 hselF hcellS hneS hknS (by rw [hkeep _ (fun q => nomatch q)]; exact hu0) (by rw [hkeep _ (fun q => nomatch q)]; exact hsen)
    (Takes.of_laid hk hord tyC (by rw [Y.causeType]; rfl)) (Takes.of_laid hk hord tyS (by rw [Y.stackType]; exact fits_refV_array _ u0)) (Takes.of_laid hk hord tyP (by rw [Y.suppType]; exact fits_refV_object _ sen))
    (Takes.of_laid hk hord tyM (by rw [Y.msgType]; exact fits_refV_object _ ⟨msg, hmsg⟩)) Y.objLocals hskip htr [] hd6
    (by simp only [List.length_cons, hlen, List.length_nil]; omega) (by simp only [List.length_cons, hlen, List.length_nil]; exact hRlocals)
  obtain ⟨hwalk, hrun, hended, hWU, hsame⟩ := X₂.athrowLeaves hexec (g := { g with stack := .ref a :: rest, pc := g.pc + 3 }) hg hlocked hentered hout (a := a) (rest := rest) rfl hd9 hlocks
  have hlt : a < ((V.setVm vm₁).setVm vm₂).heap.size := (Array.getElem?_eq_some_iff.mp hcell).1
  have hU := heapAt_setCell_self (s := (V.setVm vm₁).setVm vm₂) (plainBareV T.toThrowableT (freshCell P1.m.cls kX) a u0 sen msg) hlt
  refine ⟨_, st1 _ (fun acts => ?_), hrun, hended, hWU, hsame.weaken (fun y hy hlt' => ?_) (Nat.le_refl _) (Nat.le_refl _), _, hU, rfl, hfound⟩
  · rw [doInvoke_state]
    exact st2 _ hwalk
  · exfalso
    have hb : y.base = a := by
      simp only [List.nil_append, List.mem_cons, List.not_mem_nil, or_false] at hy
      rcases hy with rfl | rfl | rfl | rfl | rfl <;> rfl
    rw [hb] at hlt'
    exact Nat.not_lt.mpr hnew hlt'
end NS
def nsL (own : String) (ic : Nat) : List Cond := Bundle.throwableAtoms ++ (Bundle.throwableSAtoms ++ (Bundle.passSAtoms nsN rtN 13 nsB ++ (Bundle.chainSAtoms rtN ["java/lang/Exception"] ++ (nsTail own ic ++ [.isRef (.static Bundle.tN "UNASSIGNED_STACK" Bundle.steD), .isRef (.static Bundle.tN "SUPPRESSED_SENTINEL" Bundle.listD)]))))
def nsA (own : String) (ic : Nat) : List Cond := (nsL own ic).filter vx_no
def nbl : List Cond := [.declares (Bundle.initS rtN), .declares (Bundle.initS "java/lang/Exception"), .declares (Bundle.initS Bundle.tN)]
def nsG : List Cond := (nsA RX8 177).filter goodWord
theorem nsA_bad : ∀ w ∈ (nsA RX8 177).filter (fun w => !goodWord w), w ∈ nbl := by decide +kernel
theorem nsA_ot : ∀ w ∈ nsA RX8 177, vx_ot w = true := by decide +kernel
theorem ns_ot1 : vx_ot (.classLink RX8 173 nsN) = true := by decide +kernel
theorem ns_ot2 : vx_ot (.initialized nsN) = true := by decide +kernel
section NSW
variable {p : Program} {l : Launch} {e : Env} {R : Room} {s : State} {m : MethodId} {args : Array Value} {below : List Frame} {meth : Method} {c : Code} {H : Heap} {locs : List Loc} {cells slots : Nat} {free : Addr → Prop} {ls : Array Slot} {rest : List Value} {Qc : Array Value → State → Outcome → State → Prop} {XC : String → State → State → Prop}
theorem ns_W {cc : ByteArray} {pc : Nat} (hexec : p.tables.exec = Jvm.exec) (hb : c.code = cc) (hl : l.stackTraces = false) {own text : String} {ik is ic mc ms sa : Nat} {A : Nat → Prop}
    (hown : s.vm.findClass own = some m.cls) (hk : (Cond.classLink own ik nsN).before args s = true) (hini : (Cond.initialized nsN).before args s = true) (hstr : vk_R own is text sa s) (hat : ∀ w ∈ nsA own ic, w.before args s = true)
    (hg1 : vx_ot (.classLink own ik nsN) = true) (hg2 : vx_ot (.initialized nsN) = true) (hg3 : ∀ w ∈ nsA own ic, vx_ot w = true)
    (hU : vx_Zq Bundle.tN "UNASSIGNED_STACK" Bundle.steD A s s.heap) (hN : vx_Zq Bundle.tN "SUPPRESSED_SENTINEL" Bundle.listD A s s.heap) (hS : va_S A s.heap H locs) (hsize : ls.size = c.maxLocals)
    (d0 : decode cc pc = .ok (.new ik, 3)) (d3 : decode cc (pc + 3) = .ok (.dup, 1)) (d4 : decode cc (pc + 4) = .ok (.ldc is, 2)) (d6 : decode cc (pc + 6) = .ok (.invokespecial ic, 3)) (d9 : decode cc (pc + 9) = .ok (.athrow, 1))
    (hout : ∀ x ∈ c.exceptionTable.toList, covers x (pc + 9) = false)
    (hRframes : 5 < R.frames) (hRlocals : (rest.map fun v => v.category).sum + (13 * 3 + 43) ≤ R.locals) (hRcells : cells + 1 ≤ R.cells) (hRslots : slots + 6 ≤ R.slots) (hlocks : meth.locks = false)
    (hx : ∀ t : State, s.vm.Alike t.vm → H.size ≤ t.heap.size → (∀ q : Nat, q < H.size → t.heap[q]? = H[q]?) → XC nsN s t)
    (hf : ∀ z ∈ locs, free z.base) (hc : cells + 1 ≤ mc) (hs : slots + 6 ≤ ms) :
    W p l e R s m args below meth c H locs cells slots (vx_MQ below Qc XC args s mc ms free) (F0 m pc ls rest) := by
  intro T hT X
  have htr : e.platform.stackTraces = false := (show e.platform.stackTraces = l.stackTraces by rw [X.admits.platform]).trans hl
  have Y := vx_rebase X (R' := { frames := R.frames, locals := R.locals, cells := 1, slots := 6 }) (Nat.le_refl _) (Nat.le_refl _) hRcells hRslots
  obtain ⟨s', hA⟩ : ∃ z, z = (T.setVm s.vm).setFrames (.invoking m args :: below) := ⟨_, rfl⟩
  rw [← hA] at Y
  have hvm : s'.vm = s.vm := by rw [hA]; rfl
  have hhp : s'.heap = H := by rw [hA]; exact hT
  have hW0 : s.WarmedH s'.vm := by rw [hvm]; exact State.WarmedH.refl s
  have hat' : ∀ w ∈ nsA own ic, w.before args s' = true := fun w hw => vx_ot_at hW0 hvm.symm (hg3 w hw) (hat w hw)
  have hk' : (Cond.classLink own ik nsN).before args s' = true := vx_ot_at hW0 hvm.symm hg1 hk
  have hini' : (Cond.initialized nsN).before args s' = true := vx_ot_at hW0 hvm.symm hg2 hini
  have hU' : vx_Zq Bundle.tN "UNASSIGNED_STACK" Bundle.steD A s' s'.heap := by rw [hhp]; exact vx_Zq.moved hW0.alike (hU.kept hS.2.1)
  have hN' : vx_Zq Bundle.tN "SUPPRESSED_SENTINEL" Bundle.listD A s' s'.heap := by rw [hhp]; exact vx_Zq.moved hW0.alike (hN.kept hS.2.1)
  have h : ∀ w ∈ nsL own ic, w.before args s' = true := vx_own hat' (vx_isRefq hU'.1) (vx_isRefq hN'.1) hU'.2.word hN'.2.word
  have hown' : s'.vm.findClass own = some m.cls := by rw [hvm]; exact hown
  have hT1 : ∀ w ∈ Bundle.throwableAtoms, w.before args s' = true := fun w hw => h w (List.mem_append_left _ hw)
  have hT2 : ∀ w ∈ Bundle.throwableSAtoms, w.before args s' = true := fun w hw => h w (List.mem_append_right _ (List.mem_append_left _ hw))
  have hT3 : ∀ w ∈ Bundle.passSAtoms nsN rtN 13 nsB, w.before args s' = true := fun w hw => h w (List.mem_append_right _ (List.mem_append_right _ (List.mem_append_left _ hw)))
  have hT4 : ∀ w ∈ Bundle.chainSAtoms rtN ["java/lang/Exception"], w.before args s' = true := fun w hw => h w (List.mem_append_right _ (List.mem_append_right _ (List.mem_append_right _ (List.mem_append_left _ hw))))
  have hT5 : ∀ w ∈ nsTail own ic, w.before args s' = true := fun w hw => h w (List.mem_append_right _ (List.mem_append_right _ (List.mem_append_right _ (List.mem_append_right _ (List.mem_append_left _ hw)))))
  have hins : (Cond.instantiable nsN 6).before args s' = true := hT5 _ (by simp [nsTail])
  obtain ⟨vm₁, cX, kX, hfX, hkX, -, -, X₁, st1⟩ := Y.newCold hexec (own := own) (C := nsN) (index := ik) (n := 6) hown' hk' hins hini'
    (g := F0 m pc ls rest) rfl (by rw [hb]; exact d0) (Nat.le_refl _) (Nat.le_refl _)
  generalize hTe : (T.setVm vm₁).pushCell { cls := cX, slots := kX.instanceTypes.map defaultValue, vm := .none } = T1 at X₁ st1
  have hcellA : T1.heap[T.heap.size]? = some (freshCell cX kX) := by rw [← hTe]; exact State.heap_pushCell_size _ _
  have hcat : (Value.ref T.heap.size).category = 1 := rfl
  have d3' : decode c.code (pc + 3) = .ok (.dup, 1) := by rw [hb]; exact d3
  have d4' : decode c.code (pc + 4) = .ok (.ldc is, 2) := by rw [hb]; exact d4
  have hstr' : vk_R own is text sa s' := vk_R.warm hW0 hstr
  obtain ⟨U, hsteps, hrun, hend, hW, hsame, ce, hce, hvn, hcl'⟩ := ns_throw X₁ hexec htr (own := own) (ic := ic) hown' hT1 hT2 hT3 hT4 hT5 (vx_isRefq hU'.1) (vx_isRefq hN'.1) hfX hkX hcellA (by rw [hhp, hT]; exact Nat.le_refl _) (msg := .ref sa) rfl
    (g := { method := m, pc := pc + 6, locals := ls, stack := .ref sa :: .ref T.heap.size :: .ref T.heap.size :: rest, locked := none }) rfl hsize rfl rfl (rest := rest) rfl
    (by rw [hb]; exact d6) (by rw [hb]; exact d9) hout hRframes (by simp only [List.map_cons, List.sum_cons, hcat]; omega) hlocks
  obtain ⟨f1, f2⟩ := vx_frame hsame
  rw [hhp] at f1 f2
  have hWs : s.WarmedH U.vm := State.WarmedH.trans hW0 hW
  have hcl : s.vm.findClass nsN = some ce.cls := by rw [← hvm]; exact hcl'
  have hall : s.sameButNew ({ U with vm := s.vm } : State) locs mc ms := by
    subst hA
    obtain ⟨e1, e2⟩ := hsame
    rw [State.setFrames_setFrames] at e1
    have h2 : (T.setVm s.vm).sameButNew ({ U with vm := s.vm } : State) [] (0 + 1) (0 + 6) := ⟨e1, e2⟩
    have h3 := X.same.trans h2
    rw [List.append_nil] at h3
    exact h3.mono hc hs
  refine ⟨U, ?_, .threw T.heap.size, hrun, hend, Or.inr ⟨T.heap.size, rfl, nsN, ce, locs, hx U hWs.alike f1 (fun q hq => f2 q hq (fun z hz => nomatch hz)), hce, hvn, hcl, hWs, hall, hf⟩⟩
  refine st1 _ ?_
  show Steps p.tables e below (T1.setTop { method := m, pc := pc + 3, locals := ls, stack := .ref T.heap.size :: rest, locked := none }) _
  jvm_step X₁.here [X₁.here.top, hexec, d3', Value.category]
  exact X₁.ldcString hexec (own := own) (text := text) (index := is) (a := sa) hown' hstr'.1 hstr'.2
    (g := { method := m, pc := pc + 4, locals := ls, stack := .ref T.heap.size :: .ref T.heap.size :: rest, locked := none }) rfl d4' _ hsteps
end NSW

theorem nbl_tab : ∀ w ∈ nbl ++ [Cond.castable nsN nsN], w.onTables = true := by decide +kernel
theorem nbl_cast : Cond.castable nsN nsN ∈ nbl ++ [Cond.castable nsN nsN] := List.mem_append_right _ List.mem_cons_self
theorem mem_c {big l : List Cond} {a : Cond} (ha : a ∈ big) (hl : ∀ w ∈ l, w ∈ big) : ∀ w ∈ a :: l, w ∈ big := fun w h => (List.mem_cons.mp h).elim (fun e => by rw [e]; exact ha) (hl w)
set_option maxRecDepth 20000 in
theorem nsG_in : ∀ w ∈ nsG, w ∈ lw_tbl := by decide +kernel
def XE (is : Nat) (tx : String) (A : Nat → Prop) (U : State) : Prop := (∀ w ∈ nbl ++ [Cond.castable nsN nsN], va_Nw w U) ∧ (∃ sa : Nat, vk_R RX8 is tx sa U) ∧ vx_Zq Bundle.tN "UNASSIGNED_STACK" Bundle.steD A U U.heap ∧ vx_Zq Bundle.tN "SUPPRESSED_SENTINEL" Bundle.listD A U U.heap
theorem nb_warm {s U : State} (hW : s.WarmedH U.vm) (h : ∀ w ∈ nbl ++ [Cond.castable nsN nsN], va_Nw w s) : ∀ w ∈ nbl ++ [Cond.castable nsN nsN], va_Nw w U := by
  intro w hw
  have hz := h w hw
  have hw' : w = .declares (Bundle.initS rtN) ∨ w = .declares (Bundle.initS "java/lang/Exception") ∨ w = .declares (Bundle.initS Bundle.tN) ∨ w = .castable nsN nsN := by
    simpa [nbl] using hw
  rcases hw' with rfl | rfl | rfl | rfl
  · exact va_Nw.warmD hW hz
  · exact va_Nw.warmD hW hz
  · exact va_Nw.warmD hW hz
  · exact va_Nw.warmC hW hz
theorem XE.warm {is : Nat} {tx : String} {A : Nat → Prop} {s U : State} {H : Heap} (hU : U.heap = H) (hW : s.WarmedH U.vm) (h1 : ∀ w ∈ nbl ++ [Cond.castable nsN nsN], va_Nw w s) (h2 : ∃ sa : Nat, vk_R RX8 is tx sa s) (h3 : vx_Zq Bundle.tN "UNASSIGNED_STACK" Bundle.steD A s H) (h4 : vx_Zq Bundle.tN "SUPPRESSED_SENTINEL" Bundle.listD A s H) : XE is tx A U := by
  obtain ⟨sa, h2⟩ := h2
  exact ⟨nb_warm hW h1, ⟨sa, vk_R.warm hW h2⟩, by rw [hU]; exact vx_Zq.moved hW.alike h3, by rw [hU]; exact vx_Zq.moved hW.alike h4⟩
theorem x_blind {av : List Value} {dC : Nat → ClassId} {dI : Nat → Nat → Nat} {ws : va_W} {tys : List (ClassId × FieldType)} {sz is : Nat} {tx : String} {A : Nat → Prop} : FrameBlind (va_Pc av (fun U => cP dC dI ws tys sz U ∧ XE is tx A U)) := fun a U g mk q => by
  obtain ⟨q0, q1, q2⟩ := q
  have hc : va_Pc av (cP dC dI ws tys sz) a (U.calling g mk a) := c_blind a U g mk ⟨q0, q1⟩
  refine ⟨hc.1, hc.2, ?_⟩
  have hW : U.WarmedH (U.calling g mk a).vm := State.WarmedH.refl U
  exact XE.warm (H := U.heap) rfl hW q2.1 q2.2.1 q2.2.2.1 q2.2.2.2
theorem x_pre {av : List Value} {dC : Nat → ClassId} {dI : Nat → Nat → Nat} {ws : va_W} {tys : List (ClassId × FieldType)} {s : State} {A : Nat → Prop} {is : Nat} {tx : String} (hP : va_P (dC, dI) vwCl ws s.heap) (hK : va_K (dC, dI) vwCl tys s) (hD : va_D A ws) (hN : NW s) {A1 : Nat → Prop} (hE : XE is tx A1 s) : ∀ U : State, U.heap = s.heap → s.WarmedH U.vm → va_Pc av (fun U => cP dC dI ws tys s.heap.size U ∧ XE is tx A1 U) av.toArray U := fun U hU hW => by
  have hc := c_pre (av := av) hP hK hD hN U hU hW
  exact ⟨hc.1, hc.2, XE.warm hU hW hE.1 hE.2.1 hE.2.2.1 hE.2.2.2⟩
theorem x_preH {av : List Value} {dC : Nat → ClassId} {dI : Nat → Nat → Nat} {ws : va_W} {tys : List (ClassId × FieldType)} {s : State} {H : Heap} {A : Nat → Prop} {is : Nat} {tx : String} (hP : va_P (dC, dI) vwCl ws H) (hK : va_K (dC, dI) vwCl tys s) (hD : va_D A ws) (hN : NW s) {A1 : Nat → Prop} (h1 : ∀ w ∈ nbl ++ [Cond.castable nsN nsN], va_Nw w s) (h2 : ∃ sa : Nat, vk_R RX8 is tx sa s) (h3 : vx_Zq Bundle.tN "UNASSIGNED_STACK" Bundle.steD A1 s H) (h4 : vx_Zq Bundle.tN "SUPPRESSED_SENTINEL" Bundle.listD A1 s H) : ∀ U : State, U.heap = H → s.WarmedH U.vm → va_Pc av (fun U => cP dC dI ws tys H.size U ∧ XE is tx A1 U) av.toArray U := fun U hU hW => by
  have hc := c_pre (av := av) hP hK hD hN U hU hW
  exact ⟨hc.1, hc.2, XE.warm hU hW h1 h2 h3 h4⟩

theorem keepP {D : va_G} {cl : List vw_C} {ws : va_W} {H H1 : Heap} (h : va_P D cl ws H) (hq : ∀ q : Nat, q < H.size → ¬ H.size ≤ q → H1[q]? = H[q]?) : va_P D cl ws H1 := h.kept (fun k q hk => hq q.1 (h k q hk).lt (Nat.not_le.mpr (h k q hk).lt))

noncomputable def wN_rider : List Cond := .code yX8_rider cX8_rider 4 (some .int) :: (wsV RX8 150 RX8 yX8_riderOf wsX8_riderOf ++ (wsV RX8 180 RX2 yX2_lastStation wsX2_lastStation ++ (wsV RX8 187 RX2 yX2_horseRidden wsX2_horseRidden ++ (u_ws RX2 TX2 10 ++ (u_ws RX8 TX8 15 ++ ([.classLink RX8 173 nsN, .initialized nsN] ++ nsG))))))

set_option maxRecDepth 20000 in
theorem gN_rider_riderOf : GoodIn wN_rider (wsV RX8 150 RX8 yX8_riderOf wsX8_riderOf) := goodIn_sub (fun w h => List.mem_cons_of_mem _ (List.mem_append_left _ h)) (by decide +kernel)

set_option maxRecDepth 20000 in
theorem pN_rider_riderOf : ∀ w ∈ wsX8_riderOf, w ∈ lw_tbl := mem_pq [(3, 67), (1, 113), (1, 122), (1, 124), (1, 126), (1, 128), (1, 130), (1, 132), (1, 134), (1, 136), (1, 138), (1, 140), (1, 142), (1, 144), (1, 146), (1, 148), (1, 150)] rfl

set_option maxRecDepth 20000 in
theorem gN_rider_lastStation : GoodIn wN_rider (wsV RX8 180 RX2 yX2_lastStation wsX2_lastStation) := goodIn_sub (fun w h => List.mem_cons_of_mem _ (List.mem_append_right _ (List.mem_append_left _ h))) (by decide +kernel)

set_option maxRecDepth 20000 in
theorem pN_rider_lastStation : ∀ w ∈ wsX2_lastStation, w ∈ lw_tbl := mem_pq [(3, 110), (3, 7), (3, 46), (3, 47), (3, 48), (1, 17), (3, 49), (3, 3), (3, 17), (3, 19), (3, 21), (3, 23), (3, 25), (3, 27), (3, 29), (3, 31), (3, 33), (3, 35)] rfl

set_option maxRecDepth 20000 in
theorem gN_rider_horseRidden : GoodIn wN_rider (wsV RX8 187 RX2 yX2_horseRidden wsX2_horseRidden) := goodIn_sub (fun w h => List.mem_cons_of_mem _ (List.mem_append_right _ (List.mem_append_right _ (List.mem_append_left _ h)))) (by decide +kernel)

set_option maxRecDepth 20000 in
theorem pN_rider_horseRidden : ∀ w ∈ wsX2_horseRidden, w ∈ lw_tbl := mem_pq [(4, 82), (3, 5), (3, 11), (3, 17), (3, 19), (3, 21), (3, 23), (3, 25), (3, 27), (3, 29), (3, 31), (3, 33), (3, 35), (2, 148), (2, 150), (2, 152)] rfl

theorem uN_rider : ∀ w ∈ u_ws RX2 TX2 10, w ∈ wN_rider := fun w h => List.mem_cons_of_mem _ (List.mem_append_right _ (List.mem_append_right _ (List.mem_append_right _ (List.mem_append_left _ h))))

theorem uN8_rider : ∀ w ∈ u_ws RX8 TX8 15, w ∈ wN_rider := fun w h => List.mem_cons_of_mem _ (List.mem_append_right _ (List.mem_append_right _ (List.mem_append_right _ (List.mem_append_right _ (List.mem_append_left _ h)))))

set_option maxRecDepth 20000 in
theorem qN_rider : ∀ w ∈ u_ws RX2 TX2 10, w ∈ lw_tbl := mem_pq [(3, 17), (3, 19), (3, 21), (3, 23), (3, 25), (3, 27), (3, 29), (3, 31), (3, 33), (3, 35)] rfl

set_option maxRecDepth 20000 in
theorem qN8_rider : ∀ w ∈ u_ws RX8 TX8 15, w ∈ lw_tbl := mem_pq [(1, 122), (1, 124), (1, 126), (1, 128), (1, 130), (1, 132), (1, 134), (1, 136), (1, 138), (1, 140), (1, 142), (1, 144), (1, 146), (1, 148), (1, 150)] rfl

set_option maxRecDepth 20000 in
theorem wN_rider_in : ∀ w ∈ wN_rider, w ∈ lw_tbl := mem_c (List.mem_of_getElem? (i := 797) (by decide +kernel)) (mem_app (mem_app (mem_pq [(3, 64), (3, 66), (0, 16), (1, 1)] rfl) pN_rider_riderOf) (mem_app (mem_app (mem_pq [(3, 107), (3, 108), (3, 109), (1, 17)] rfl) pN_rider_lastStation) (mem_app (mem_app (mem_pq [(4, 79), (4, 80), (4, 81), (1, 17)] rfl) pN_rider_horseRidden) (mem_app qN_rider (mem_app qN8_rider (mem_app (mem_pq [(4, 14), (1, 21)] rfl) nsG_in))))))

noncomputable def wN_Lrider : List Cond := .codeWith yL_rider cL_rider 5 (some .int) [(0, 10, 13, 13)] :: (wsV RL 7 RX8 yX8_rider wN_rider ++ [.classLink RL 13 nsN])

set_option maxRecDepth 20000 in
theorem gN_Lrider : GoodIn wN_Lrider (wsV RL 7 RX8 yX8_rider wN_rider) := goodIn_sub (fun w h => List.mem_cons_of_mem _ (List.mem_append_left _ h)) (by decide +kernel)

set_option maxRecDepth 20000 in
theorem wN_Lrider_in : ∀ w ∈ wN_Lrider, w ∈ lw_tbl := mem_c (List.mem_of_getElem? (i := 792) (by decide +kernel)) (mem_app (mem_app (mem_pq [(4, 10), (4, 11), (4, 12), (1, 1)] rfl) wN_rider_in) (mem_pq [(4, 9)] rfl))

set_option maxRecDepth 20000 in
theorem gN_law_rider : GoodIn lw_tbl (va_wsS RL 81 yL_rider wN_Lrider) := goodIn_sub (mem_app (mem_pq [(4, 6), (4, 7), (1, 0)] rfl) wN_Lrider_in) (by decide +kernel)

set_option maxHeartbeats 4000000 in
set_option maxRecDepth 100000 in
theorem e_X8_rider (l : Launch) (hst : l.stackTraces = false) (dC : Nat → ClassId) (dI : Nat → Nat → Nat) (cs : Nat → ClassId) (L : List Nat) (ka : Nat → Nat) (ix : Nat → Nat) (ad : Nat → Nat → Nat) (n0 : Nat) (n6 : Nat) (n2 : Nat) (S : Nat → Nat → Nat → Int32) (f : Nat → va_E) (gq : Nat) (h0 : Nat) (a1 : Nat) (a2 : Nat) (a3 : Nat) (a4 : Nat) (a5 : Nat) (a6 : Nat) (a7 : Nat) (a8 : Nat) (a9 : Nat) (j_faultKind : Int32) (j_horseCount : Int32) (j_tabletCount : Int32) (j_riderCount : Int32) (j_lineLength : Int32) (j_hour : Int32) (p0 : Int32) (p1 : Int32) (sz : Nat) (hT : tB L ka ix ad cs n0 n6 n2 S f) (hY : yX L ka ix ad gq a2 a3 a4 a5 a6 a7 a8 a9) : vx_Met l yX8_rider wN_rider ({ frames := 6, cells := 1, slots := 6, locals := 100 }) (va_Pc [.ref h0, .int p0, .int p1] (fun U => cP dC dI ([(h0, .inr (8, [.ref a1, .ref a2, .ref a3, .ref a4, .ref a5, .ref a6, .ref a7, .ref a8, .ref a9, .int j_faultKind, .int j_horseCount, .int j_tabletCount, .int j_riderCount, .int j_lineLength, .int j_hour]))] ++ va_pl L f) (tyC cs) sz U ∧ XE 175 "no such rider, or nothing of the kind is told of riders" (fun q => sz ≤ q) U)) (va_Qi (fun (r : Int32) (_ : Unit) => OUy n2 5 p0 p1 (rdT S) r) (fun _ _ => True) (fun q => sz ≤ q)) (vx_X (fun (_ : Unit) => True) (fun E _ _ => E = nsN ∧ OUn n2 5 p0 p1) (fun q => sz ≤ q)) 1 6 (fun _ => False) := by
  refine vx_ofW (cc := cX8_rider) (maxL := 4) (ret := (some .int)) (by decide) rfl ?_
  intro p e s m args below meth c s₁ B hml htab hv
  obtain ⟨rfl, ⟨hsz, hP, hK, hD0, hN⟩, hE⟩ := hv
  have hx := B.exec
  have hb := B.bytes
  have hr := B.returns
  have hts := atoms_spec (ws := wN_rider) B.pre
  have hown : s.vm.findClass RX8 = some m.cls := findClass_of_methodNamed B.named
  have hlocks := B.notSynchronized
  subst hsz
  have hin2 := uN_rider
  have hin8 := uN8_rider
  have hD := hD0
  have hS : va_S (fun q => s.heap.size ≤ q) s.heap s.heap [] := va_S.rf
  have hP : va_P (dC, dI) vwCl ([(h0, .inr (8, [.ref a1, .ref a2, .ref a3, .ref a4, .ref a5, .ref a6, .ref a7, .ref a8, .ref a9, .int j_faultKind, .int j_horseCount, .int j_tabletCount, .int j_riderCount, .int j_lineLength, .int j_hour]))] ++ va_pl L f) s.heap := hP
  have hl := lv_entry ([.ref h0, .int p0, .int p1]) (n := 4) (Nat.le_of_ble_eq_true rfl)
  rw [lg_entry_eq]
  generalize (lg_sl ([.ref h0, .int p0, .int p1]) ++ List.replicate (4 - (lg_sl ([.ref h0, .int p0, .int p1])).length) Slot.unset).toArray = ls at hl ⊢
  have hl : lv_has ls 4 [(0, .ref h0), (1, .int p0), (2, .int p1)] := hl
  refine lv_aload_n hx hb dX8_rider_0 rfl (lv_at hl 0 rfl) ?_
  refine lv_iload_n hx hb dX8_rider_1 rfl (lv_at hl 1 rfl) ?_
  have hPc := hP.part (cx := [(h0, .inr (8, [.ref a1, .ref a2, .ref a3, .ref a4, .ref a5, .ref a6, .ref a7, .ref a8, .ref a9, .int j_faultKind, .int j_horseCount, .int j_tabletCount, .int j_riderCount, .int j_lineLength, .int j_hour]))]) [0] rfl
  have hDc := hD.part (cx := [(h0, .inr (8, [.ref a1, .ref a2, .ref a3, .ref a4, .ref a5, .ref a6, .ref a7, .ref a8, .ref a9, .int j_faultKind, .int j_horseCount, .int j_tabletCount, .int j_riderCount, .int j_lineLength, .int j_hour]))]) [0] (by decide) rfl
  have hKc := hK
  refine cs_q (va_runV (As := [.int p0]) (rest := []) ⟨hx, hb, hml, hown, hts⟩ (e_X8_riderOf l dC dI cs L ka ix ad n0 n6 n2 S f gq h0 a1 a2 a3 a4 a5 a6 a7 a8 a9 j_faultKind j_horseCount j_tabletCount j_riderCount j_lineLength j_hour p0 s.heap.size hT hY) (cwV 1 hts gN_rider_riderOf rfl rfl rfl (by decide +kernel) ⟨Nat.le_of_ble_eq_true rfl, Nat.le_of_ble_eq_true rfl⟩) ⟨c_blind, va_recv hKc hPc (ci := 8) (q0 := 0) rfl rfl, c_pre hPc hKc hDc hN⟩ rfl rfl hl.1 rfl (lv_room (Nat.le_of_ble_eq_true rfl)) dX8_rider_2 ⟨Nat.le_of_ble_eq_true rfl, Nat.le_of_ble_eq_true rfl⟩) (fun o_1 ho_1 => ?_)
  subst ho_1
  by_cases c_2 : hOf n2 p0 = -1
  · rw [show oq ad 2 (hOf n2 p0) = none from oq_n c_2]
    refine W.eq (g2 := F0 m 5 ls [.null]) rfl ?_
    refine lv_astore_nN (lv' := [(3, .null), (0, .ref h0), (1, .int p0), (2, .int p1)]) hx hb dX8_rider_5 rfl hl (by decide) rfl (fun ls hl => ?_)
    refine lv_aload_nN hx hb dX8_rider_6 rfl (lv_at hl 0 rfl) ?_
    refine lv_ifnullN (tgt := 19) hx hb dX8_rider_7 (by decide) ?_
    obtain ⟨hnb, ⟨sa, hsa⟩, hU, hNs⟩ := hE
    exact ns_W hx hb hst hown (hts (.classLink RX8 173 nsN) (List.mem_cons_of_mem _ (List.mem_append_right _ (List.mem_append_right _ (List.mem_append_right _ (List.mem_append_right _ (List.mem_append_right _ (List.mem_append_left _ (by decide))))))))) (hts (.initialized nsN) (List.mem_cons_of_mem _ (List.mem_append_right _ (List.mem_append_right _ (List.mem_append_right _ (List.mem_append_right _ (List.mem_append_right _ (List.mem_append_left _ (by decide))))))))) hsa (vx_hat (fun w hw => hts w (List.mem_cons_of_mem _ (List.mem_append_right _ (List.mem_append_right _ (List.mem_append_right _ (List.mem_append_right _ (List.mem_append_right _ (List.mem_append_right _ hw)))))))) nsA_bad (fun w hw => va_Nw.use (nbl_tab w (List.mem_append_left _ hw)) (hnb w (List.mem_append_left _ hw)))) ns_ot1 ns_ot2 nsA_ot hU hNs hS (by rw [hml]; exact hl.1) dX8_rider_19 dX8_rider_22 dX8_rider_23 dX8_rider_25 dX8_rider_28 (fun x hx => (htab x hx).elim) (Nat.le_of_ble_eq_true rfl) (Nat.le_of_ble_eq_true rfl) (Nat.le_of_ble_eq_true rfl) (Nat.le_of_ble_eq_true rfl) hlocks (fun t9 hal hle hk => ⟨(), trivial, ⟨rfl, (Or.inl c_2)⟩, hle, fun q hq _ => hk q hq⟩) (fun z hz => nomatch hz) (Nat.le_of_ble_eq_true rfl) (Nat.le_of_ble_eq_true rfl)
  · obtain ⟨u_3, hu_3, eu_3⟩ := hOf_o (by have h9 := hT.b2; omega) c_2
    have hn9 := hT.b2
    rw [show oq ad 2 (hOf n2 p0) = some (ad 2 u_3) from by rw [eu_3]; exact oq_s (by omega)]
    refine W.eq (g2 := F0 m 5 ls [.ref (ad 2 u_3)]) rfl ?_
    refine lv_astore_n (lv' := [(3, .ref (ad 2 u_3)), (0, .ref h0), (1, .int p0), (2, .int p1)]) hx hb dX8_rider_5 rfl hl (by decide) rfl (fun ls hl => ?_)
    refine lv_aload_n hx hb dX8_rider_6 rfl (lv_at hl 0 rfl) ?_
    refine lv_ifnull hx hb dX8_rider_7 ?_
    refine lv_iload_n hx hb dX8_rider_10 rfl (lv_at hl 3 rfl) ?_
    refine lv_if_lt (tgt := 19) hx hb dX8_rider_11 (by decide) (fun c_4 => ?_) (fun c_4 => ?_)
    · obtain ⟨hnb, ⟨sa, hsa⟩, hU, hNs⟩ := hE
      exact ns_W hx hb hst hown (hts (.classLink RX8 173 nsN) (List.mem_cons_of_mem _ (List.mem_append_right _ (List.mem_append_right _ (List.mem_append_right _ (List.mem_append_right _ (List.mem_append_right _ (List.mem_append_left _ (by decide))))))))) (hts (.initialized nsN) (List.mem_cons_of_mem _ (List.mem_append_right _ (List.mem_append_right _ (List.mem_append_right _ (List.mem_append_right _ (List.mem_append_right _ (List.mem_append_left _ (by decide))))))))) hsa (vx_hat (fun w hw => hts w (List.mem_cons_of_mem _ (List.mem_append_right _ (List.mem_append_right _ (List.mem_append_right _ (List.mem_append_right _ (List.mem_append_right _ (List.mem_append_right _ hw)))))))) nsA_bad (fun w hw => va_Nw.use (nbl_tab w (List.mem_append_left _ hw)) (hnb w (List.mem_append_left _ hw)))) ns_ot1 ns_ot2 nsA_ot hU hNs hS (by rw [hml]; exact hl.1) dX8_rider_19 dX8_rider_22 dX8_rider_23 dX8_rider_25 dX8_rider_28 (fun x hx => (htab x hx).elim) (Nat.le_of_ble_eq_true rfl) (Nat.le_of_ble_eq_true rfl) (Nat.le_of_ble_eq_true rfl) (Nat.le_of_ble_eq_true rfl) hlocks (fun t9 hal hle hk => ⟨(), trivial, ⟨rfl, (Or.inr (Or.inl c_4))⟩, hle, fun q hq _ => hk q hq⟩) (fun z hz => nomatch hz) (Nat.le_of_ble_eq_true rfl) (Nat.le_of_ble_eq_true rfl)
    · refine lv_iload_n hx hb dX8_rider_14 rfl (lv_at hl 3 rfl) ?_
      refine lv_iconst (v := 5) hx hb dX8_rider_15 (by decide) ?_
      refine lv_icmp_le (tgt := 29) hx hb dX8_rider_16 (by decide) (fun c_5 => ?_) (fun c_5 => ?_)
      · refine lv_iload_n hx hb dX8_rider_29 rfl (lv_at hl 3 rfl) ?_
        by_cases c_6 : p1 = 0
        · refine lv_tableIn (tgt := 64) (off := 34) hx hb dX8_rider_30 (by rw [c_6]; decide) (by rw [c_6]; decide) (by rw [c_6]; decide) (by decide) ?_
          refine lv_aload_n hx hb dX8_rider_64 rfl (lv_at hl 0 rfl) ?_
          have hf_7 : f (ad 2 u_3) = .inr (2, [.int (S 32 u_3 0), .int (S 33 u_3 0), .ref (ad 37 u_3), .ref (ad 36 u_3), .int (S 36 u_3 0), .int (S 37 u_3 0), .int (S 38 u_3 0), va_rf (oq ad 0 (S 39 u_3 0)), .int (S 40 u_3 0), .int (S 41 u_3 0)]) := hT.get (hT.k2 (i := u_3) (by omega))
          obtain ⟨q_8, hq_8⟩ := pl_at (X := [(h0, .inr (8, [.ref a1, .ref a2, .ref a3, .ref a4, .ref a5, .ref a6, .ref a7, .ref a8, .ref a9, .int j_faultKind, .int j_horseCount, .int j_tabletCount, .int j_riderCount, .int j_lineLength, .int j_hour]))]) (f := f) (e := .inr (2, [.int (S 32 u_3 0), .int (S 33 u_3 0), .ref (ad 37 u_3), .ref (ad 36 u_3), .int (S 36 u_3 0), .int (S 37 u_3 0), .int (S 38 u_3 0), va_rf (oq ad 0 (S 39 u_3 0)), .int (S 40 u_3 0), .int (S 41 u_3 0)])) (hT.k2 (i := u_3) (by omega)).1 hf_7
          refine va_getN (D := (dC, dI)) (ci := 2) (v := .int (S 36 u_3 0)) (C := RX2) (T := TX2) (N := 10) hx hb hts hin2 hown hK hP q_8 hq_8 rfl 4 (by decide) (hN.nx (.fieldLinkNest RX8 158 "YamRiders$Rider" "state" "I" "YamRiders") (by decide +kernel)) (fun _ h9 => h9) rfl dX8_rider_65 ?_
          refine vx_ret ?_
          refine W.widen (k := 1) (n := 6) (Nat.le_of_ble_eq_true rfl) (Nat.le_of_ble_eq_true rfl) ?_
          exact W.iret (v := S 36 u_3 0) hx hb hr (fun t9 ht hW => ⟨⟨_, (), rfl, ⟨u_3, hu_3, eu_3, c_4, c_5, by unfold rdT; rw [if_pos c_6]⟩, trivial⟩, hS.F ht⟩) (fun q h => nomatch h) dX8_rider_68
        by_cases c_9 : p1 = 1
        · refine lv_tableIn (tgt := 69) (off := 39) hx hb dX8_rider_30 (by rw [c_9]; decide) (by rw [c_9]; decide) (by rw [c_9]; decide) (by decide) ?_
          refine lv_aload_n hx hb dX8_rider_69 rfl (lv_at hl 0 rfl) ?_
          have hPc := hP.part (cx := []) [] rfl
          have hDc := hD.part (cx := []) [] (by decide) rfl
          have hKc := hK
          have hf_10 : f (ad 2 u_3) = .inr (2, [.int (S 32 u_3 0), .int (S 33 u_3 0), .ref (ad 37 u_3), .ref (ad 36 u_3), .int (S 36 u_3 0), .int (S 37 u_3 0), .int (S 38 u_3 0), va_rf (oq ad 0 (S 39 u_3 0)), .int (S 40 u_3 0), .int (S 41 u_3 0)]) := hT.get (hT.k2 (i := u_3) (by omega))
          obtain ⟨q_11, hq_11⟩ := pl_at (X := []) (f := f) (e := .inr (2, [.int (S 32 u_3 0), .int (S 33 u_3 0), .ref (ad 37 u_3), .ref (ad 36 u_3), .int (S 36 u_3 0), .int (S 37 u_3 0), .int (S 38 u_3 0), va_rf (oq ad 0 (S 39 u_3 0)), .int (S 40 u_3 0), .int (S 41 u_3 0)])) (hT.k2 (i := u_3) (by omega)).1 hf_10
          refine cs_i (va_runV (As := []) (rest := []) ⟨hx, hb, hml, hown, hts⟩ (e_X2_lastStation l dC dI cs L ka ix ad n0 n6 n2 S f u_3 (ad 2 u_3) s.heap.size hT (hT.k2 (i := u_3) (by omega)) (by omega)) (cwV 0 hts gN_rider_lastStation rfl rfl rfl (by decide +kernel) ⟨Nat.le_of_ble_eq_true rfl, Nat.le_of_ble_eq_true rfl⟩) ⟨c_blind, va_recv hKc hPc (ci := 2) (q0 := q_11) rfl hq_11, c_pre hPc hKc hDc hN⟩ rfl rfl hl.1 rfl (lv_room (Nat.le_of_ble_eq_true rfl)) dX8_rider_70 ⟨Nat.le_of_ble_eq_true rfl, Nat.le_of_ble_eq_true rfl⟩) (fun r_12 hr_12 => ?_)
          subst hr_12
          refine vx_ret ?_
          refine W.widen (k := 1) (n := 6) (Nat.le_of_ble_eq_true rfl) (Nat.le_of_ble_eq_true rfl) ?_
          exact W.iret (v := sSW S u_3 ((S 37 u_3 0) - 1)) hx hb hr (fun t9 ht hW => ⟨⟨_, (), rfl, ⟨u_3, hu_3, eu_3, c_4, c_5, by unfold rdT; rw [if_neg (by rw [c_9]; decide), if_pos c_9]⟩, trivial⟩, hS.F ht⟩) (fun q h => nomatch h) dX8_rider_73
        by_cases c_13 : p1 = 2
        · refine lv_tableIn (tgt := 74) (off := 44) hx hb dX8_rider_30 (by rw [c_13]; decide) (by rw [c_13]; decide) (by rw [c_13]; decide) (by decide) ?_
          refine lv_aload_n hx hb dX8_rider_74 rfl (lv_at hl 0 rfl) ?_
          have hf_14 : f (ad 2 u_3) = .inr (2, [.int (S 32 u_3 0), .int (S 33 u_3 0), .ref (ad 37 u_3), .ref (ad 36 u_3), .int (S 36 u_3 0), .int (S 37 u_3 0), .int (S 38 u_3 0), va_rf (oq ad 0 (S 39 u_3 0)), .int (S 40 u_3 0), .int (S 41 u_3 0)]) := hT.get (hT.k2 (i := u_3) (by omega))
          obtain ⟨q_15, hq_15⟩ := pl_at (X := [(h0, .inr (8, [.ref a1, .ref a2, .ref a3, .ref a4, .ref a5, .ref a6, .ref a7, .ref a8, .ref a9, .int j_faultKind, .int j_horseCount, .int j_tabletCount, .int j_riderCount, .int j_lineLength, .int j_hour]))]) (f := f) (e := .inr (2, [.int (S 32 u_3 0), .int (S 33 u_3 0), .ref (ad 37 u_3), .ref (ad 36 u_3), .int (S 36 u_3 0), .int (S 37 u_3 0), .int (S 38 u_3 0), va_rf (oq ad 0 (S 39 u_3 0)), .int (S 40 u_3 0), .int (S 41 u_3 0)])) (hT.k2 (i := u_3) (by omega)).1 hf_14
          refine va_getN (D := (dC, dI)) (ci := 2) (v := .int (S 38 u_3 0)) (C := RX2) (T := TX2) (N := 10) hx hb hts hin2 hown hK hP q_15 hq_15 rfl 6 (by decide) (hN.nx (.fieldLinkNest RX8 184 "YamRiders$Rider" "came" "I" "YamRiders") (by decide +kernel)) (fun _ h9 => h9) rfl dX8_rider_75 ?_
          refine vx_ret ?_
          refine W.widen (k := 1) (n := 6) (Nat.le_of_ble_eq_true rfl) (Nat.le_of_ble_eq_true rfl) ?_
          exact W.iret (v := S 38 u_3 0) hx hb hr (fun t9 ht hW => ⟨⟨_, (), rfl, ⟨u_3, hu_3, eu_3, c_4, c_5, by unfold rdT; rw [if_neg (by rw [c_13]; decide), if_neg (by rw [c_13]; decide), if_pos c_13]⟩, trivial⟩, hS.F ht⟩) (fun q h => nomatch h) dX8_rider_78
        by_cases c_16 : p1 = 3
        · refine lv_tableIn (tgt := 79) (off := 49) hx hb dX8_rider_30 (by rw [c_16]; decide) (by rw [c_16]; decide) (by rw [c_16]; decide) (by decide) ?_
          refine lv_aload_n hx hb dX8_rider_79 rfl (lv_at hl 0 rfl) ?_
          have hPc := hP.part (cx := []) [] rfl
          have hDc := hD.part (cx := []) [] (by decide) rfl
          have hKc := hK
          have hf_17 : f (ad 2 u_3) = .inr (2, [.int (S 32 u_3 0), .int (S 33 u_3 0), .ref (ad 37 u_3), .ref (ad 36 u_3), .int (S 36 u_3 0), .int (S 37 u_3 0), .int (S 38 u_3 0), va_rf (oq ad 0 (S 39 u_3 0)), .int (S 40 u_3 0), .int (S 41 u_3 0)]) := hT.get (hT.k2 (i := u_3) (by omega))
          obtain ⟨q_18, hq_18⟩ := pl_at (X := []) (f := f) (e := .inr (2, [.int (S 32 u_3 0), .int (S 33 u_3 0), .ref (ad 37 u_3), .ref (ad 36 u_3), .int (S 36 u_3 0), .int (S 37 u_3 0), .int (S 38 u_3 0), va_rf (oq ad 0 (S 39 u_3 0)), .int (S 40 u_3 0), .int (S 41 u_3 0)])) (hT.k2 (i := u_3) (by omega)).1 hf_17
          refine cs_i (va_runV (As := []) (rest := []) ⟨hx, hb, hml, hown, hts⟩ (e_X2_horseRidden l dC dI cs L ka ix ad n0 n6 n2 S f u_3 (ad 2 u_3) s.heap.size hT (hT.k2 (i := u_3) (by omega)) (by omega)) (cwV 0 hts gN_rider_horseRidden rfl rfl rfl (by decide +kernel) ⟨Nat.le_of_ble_eq_true rfl, Nat.le_of_ble_eq_true rfl⟩) ⟨c_blind, va_recv hKc hPc (ci := 2) (q0 := q_18) rfl hq_18, c_pre hPc hKc hDc hN⟩ rfl rfl hl.1 rfl (lv_room (Nat.le_of_ble_eq_true rfl)) dX8_rider_80 ⟨Nat.le_of_ble_eq_true rfl, Nat.le_of_ble_eq_true rfl⟩) (fun r_19 hr_19 => ?_)
          subst hr_19
          refine vx_ret ?_
          refine W.widen (k := 1) (n := 6) (Nat.le_of_ble_eq_true rfl) (Nat.le_of_ble_eq_true rfl) ?_
          exact W.iret (v := hrS S u_3) hx hb hr (fun t9 ht hW => ⟨⟨_, (), rfl, ⟨u_3, hu_3, eu_3, c_4, c_5, by unfold rdT; rw [if_neg (by rw [c_16]; decide), if_neg (by rw [c_16]; decide), if_neg (by rw [c_16]; decide), if_pos c_16]⟩, trivial⟩, hS.F ht⟩) (fun q h => nomatch h) dX8_rider_83
        by_cases c_20 : p1 = 4
        · refine lv_tableIn (tgt := 84) (off := 54) hx hb dX8_rider_30 (by rw [c_20]; decide) (by rw [c_20]; decide) (by rw [c_20]; decide) (by decide) ?_
          refine lv_aload_n hx hb dX8_rider_84 rfl (lv_at hl 0 rfl) ?_
          have hf_21 : f (ad 2 u_3) = .inr (2, [.int (S 32 u_3 0), .int (S 33 u_3 0), .ref (ad 37 u_3), .ref (ad 36 u_3), .int (S 36 u_3 0), .int (S 37 u_3 0), .int (S 38 u_3 0), va_rf (oq ad 0 (S 39 u_3 0)), .int (S 40 u_3 0), .int (S 41 u_3 0)]) := hT.get (hT.k2 (i := u_3) (by omega))
          obtain ⟨q_22, hq_22⟩ := pl_at (X := [(h0, .inr (8, [.ref a1, .ref a2, .ref a3, .ref a4, .ref a5, .ref a6, .ref a7, .ref a8, .ref a9, .int j_faultKind, .int j_horseCount, .int j_tabletCount, .int j_riderCount, .int j_lineLength, .int j_hour]))]) (f := f) (e := .inr (2, [.int (S 32 u_3 0), .int (S 33 u_3 0), .ref (ad 37 u_3), .ref (ad 36 u_3), .int (S 36 u_3 0), .int (S 37 u_3 0), .int (S 38 u_3 0), va_rf (oq ad 0 (S 39 u_3 0)), .int (S 40 u_3 0), .int (S 41 u_3 0)])) (hT.k2 (i := u_3) (by omega)).1 hf_21
          refine va_getN (D := (dC, dI)) (ci := 2) (v := .int (S 37 u_3 0)) (C := RX2) (T := TX2) (N := 10) hx hb hts hin2 hown hK hP q_22 hq_22 rfl 5 (by decide) (hN.nx (.fieldLinkNest RX8 190 "YamRiders$Rider" "reached" "I" "YamRiders") (by decide +kernel)) (fun _ h9 => h9) rfl dX8_rider_85 ?_
          refine vx_ret ?_
          refine W.widen (k := 1) (n := 6) (Nat.le_of_ble_eq_true rfl) (Nat.le_of_ble_eq_true rfl) ?_
          exact W.iret (v := S 37 u_3 0) hx hb hr (fun t9 ht hW => ⟨⟨_, (), rfl, ⟨u_3, hu_3, eu_3, c_4, c_5, by unfold rdT; rw [if_neg (by rw [c_20]; decide), if_neg (by rw [c_20]; decide), if_neg (by rw [c_20]; decide), if_neg (by rw [c_20]; decide), if_pos c_20]⟩, trivial⟩, hS.F ht⟩) (fun q h => nomatch h) dX8_rider_88
        refine lv_tableOut (tgt := 89) hx hb dX8_rider_30 (sw_out0_4 c_6 c_9 c_13 c_16 c_20) (by decide) ?_
        refine lv_aload_n hx hb dX8_rider_89 rfl (lv_at hl 0 rfl) ?_
        have hf_23 : f (ad 2 u_3) = .inr (2, [.int (S 32 u_3 0), .int (S 33 u_3 0), .ref (ad 37 u_3), .ref (ad 36 u_3), .int (S 36 u_3 0), .int (S 37 u_3 0), .int (S 38 u_3 0), va_rf (oq ad 0 (S 39 u_3 0)), .int (S 40 u_3 0), .int (S 41 u_3 0)]) := hT.get (hT.k2 (i := u_3) (by omega))
        obtain ⟨q_24, hq_24⟩ := pl_at (X := [(h0, .inr (8, [.ref a1, .ref a2, .ref a3, .ref a4, .ref a5, .ref a6, .ref a7, .ref a8, .ref a9, .int j_faultKind, .int j_horseCount, .int j_tabletCount, .int j_riderCount, .int j_lineLength, .int j_hour]))]) (f := f) (e := .inr (2, [.int (S 32 u_3 0), .int (S 33 u_3 0), .ref (ad 37 u_3), .ref (ad 36 u_3), .int (S 36 u_3 0), .int (S 37 u_3 0), .int (S 38 u_3 0), va_rf (oq ad 0 (S 39 u_3 0)), .int (S 40 u_3 0), .int (S 41 u_3 0)])) (hT.k2 (i := u_3) (by omega)).1 hf_23
        refine va_getN (D := (dC, dI)) (ci := 2) (v := .int (S 32 u_3 0)) (C := RX2) (T := TX2) (N := 10) hx hb hts hin2 hown hK hP q_24 hq_24 rfl 0 (by decide) (hN.nx (.fieldLinkNest RX8 193 "YamRiders$Rider" "tablet" "I" "YamRiders") (by decide +kernel)) (fun _ h9 => h9) rfl dX8_rider_90 ?_
        refine vx_ret ?_
        refine W.widen (k := 1) (n := 6) (Nat.le_of_ble_eq_true rfl) (Nat.le_of_ble_eq_true rfl) ?_
        exact W.iret (v := S 32 u_3 0) hx hb hr (fun t9 ht hW => ⟨⟨_, (), rfl, ⟨u_3, hu_3, eu_3, c_4, c_5, by unfold rdT; rw [if_neg c_6, if_neg c_9, if_neg c_13, if_neg c_16, if_neg c_20]⟩, trivial⟩, hS.F ht⟩) (fun q h => nomatch h) dX8_rider_93
      · obtain ⟨hnb, ⟨sa, hsa⟩, hU, hNs⟩ := hE
        exact ns_W hx hb hst hown (hts (.classLink RX8 173 nsN) (List.mem_cons_of_mem _ (List.mem_append_right _ (List.mem_append_right _ (List.mem_append_right _ (List.mem_append_right _ (List.mem_append_right _ (List.mem_append_left _ (by decide))))))))) (hts (.initialized nsN) (List.mem_cons_of_mem _ (List.mem_append_right _ (List.mem_append_right _ (List.mem_append_right _ (List.mem_append_right _ (List.mem_append_right _ (List.mem_append_left _ (by decide))))))))) hsa (vx_hat (fun w hw => hts w (List.mem_cons_of_mem _ (List.mem_append_right _ (List.mem_append_right _ (List.mem_append_right _ (List.mem_append_right _ (List.mem_append_right _ (List.mem_append_right _ hw)))))))) nsA_bad (fun w hw => va_Nw.use (nbl_tab w (List.mem_append_left _ hw)) (hnb w (List.mem_append_left _ hw)))) ns_ot1 ns_ot2 nsA_ot hU hNs hS (by rw [hml]; exact hl.1) dX8_rider_19 dX8_rider_22 dX8_rider_23 dX8_rider_25 dX8_rider_28 (fun x hx => (htab x hx).elim) (Nat.le_of_ble_eq_true rfl) (Nat.le_of_ble_eq_true rfl) (Nat.le_of_ble_eq_true rfl) (Nat.le_of_ble_eq_true rfl) hlocks (fun t9 hal hle hk => ⟨(), trivial, ⟨rfl, (Or.inr (Or.inr c_5))⟩, hle, fun q hq _ => hk q hq⟩) (fun z hz => nomatch hz) (Nat.le_of_ble_eq_true rfl) (Nat.le_of_ble_eq_true rfl)

set_option maxHeartbeats 4000000 in
set_option maxRecDepth 100000 in
theorem e_L_rider (l : Launch) (hst : l.stackTraces = false) (dC : Nat → ClassId) (dI : Nat → Nat → Nat) (cs : Nat → ClassId) (L : List Nat) (ka : Nat → Nat) (ix : Nat → Nat) (ad : Nat → Nat → Nat) (n0 : Nat) (n6 : Nat) (n2 : Nat) (S : Nat → Nat → Nat → Int32) (f : Nat → va_E) (gq : Nat) (h0 : Nat) (a1 : Nat) (a2 : Nat) (a3 : Nat) (a4 : Nat) (a5 : Nat) (a6 : Nat) (a7 : Nat) (a8 : Nat) (a9 : Nat) (j_faultKind : Int32) (j_horseCount : Int32) (j_tabletCount : Int32) (j_riderCount : Int32) (j_lineLength : Int32) (j_hour : Int32) (p0 : Int32) (p1 : Int32) (o : Nat) (kl : ClassId) (ol : Nat → Int64) (sz : Nat) (hT : tB L ka ix ad cs n0 n6 n2 S f) (hY : yX L ka ix ad gq a2 a3 a4 a5 a6 a7 a8 a9) : Met l yL_rider wN_Lrider ({ frames := 7, cells := 1, slots := 6, locals := 130 }) (va_Pc [.ref h0, .int p0, .int p1, .ref o] (fun U => cP dC dI ([(h0, .inr (8, [.ref a1, .ref a2, .ref a3, .ref a4, .ref a5, .ref a6, .ref a7, .ref a8, .ref a9, .int j_faultKind, .int j_horseCount, .int j_tabletCount, .int j_riderCount, .int j_lineLength, .int j_hour])), (o, .inl (kl, 1, .inr (.inl ol)))] ++ va_pl L f) [(cs 0, .int), (cs 1, .boolean), (cs 2, .array .int), (cs 3, .object "YamRiders$Horse"), (cs 4, .object "YamRiders$Tablet"), (cs 5, .object "YamRiders$Rider"), (kl, .long)] sz U ∧ XE 175 "no such rider, or nothing of the kind is told of riders" (fun q => sz ≤ q) U)) (va_Qi (fun (r : Int32) (ol2 : Nat → Int64) => OUx n2 5 p0 p1 (rdT S) r (ol2 0)) (fun (ol2 : Nat → Int64) t9 => cQ dC dI ([(h0, .inr (8, [.ref a1, .ref a2, .ref a3, .ref a4, .ref a5, .ref a6, .ref a7, .ref a8, .ref a9, .int j_faultKind, .int j_horseCount, .int j_tabletCount, .int j_riderCount, .int j_lineLength, .int j_hour])), (o, .inl (kl, 1, .inr (.inl ol2)))] ++ va_pl L f) [] (va_A ([(h0, .inr (8, [.ref a1, .ref a2, .ref a3, .ref a4, .ref a5, .ref a6, .ref a7, .ref a8, .ref a9, .int j_faultKind, .int j_horseCount, .int j_tabletCount, .int j_riderCount, .int j_lineLength, .int j_hour])), (o, .inl (kl, 1, .inr (.inl ol)))] ++ va_pl L f) sz) t9) (va_A ([(h0, .inr (8, [.ref a1, .ref a2, .ref a3, .ref a4, .ref a5, .ref a6, .ref a7, .ref a8, .ref a9, .int j_faultKind, .int j_horseCount, .int j_tabletCount, .int j_riderCount, .int j_lineLength, .int j_hour])), (o, .inl (kl, 1, .inr (.inl ol)))] ++ va_pl L f) sz)) 1 6 (va_A ([(h0, .inr (8, [.ref a1, .ref a2, .ref a3, .ref a4, .ref a5, .ref a6, .ref a7, .ref a8, .ref a9, .int j_faultKind, .int j_horseCount, .int j_tabletCount, .int j_riderCount, .int j_lineLength, .int j_hour])), (o, .inl (kl, 1, .inr (.inl ol)))] ++ va_pl L f) sz) := by
  refine va_MetW (hh := [(0, 10, 13, 13)]) (cc := cL_rider) (maxL := 5) (ret := (some .int)) (by decide) rfl ?_
  intro p e s m args below meth c s₁ B hml hv
  obtain ⟨rfl, ⟨hsz, hP, hK, hD0, hN⟩, hE⟩ := hv
  have hx := B.exec
  have hb := B.bytes
  have hr := B.returns
  have hts := atoms_spec (ws := wN_Lrider) B.pre
  have hown : s.vm.findClass RL = some m.cls := findClass_of_methodNamed B.named
  have hlocks := B.notSynchronized
  have htab := vx_table (x := yL_rider) B (hts _ List.mem_cons_self)
  subst hsz
  have hD := hD0.self (sz := s.heap.size)
  generalize hAe : va_A ([(h0, .inr (8, [.ref a1, .ref a2, .ref a3, .ref a4, .ref a5, .ref a6, .ref a7, .ref a8, .ref a9, .int j_faultKind, .int j_horseCount, .int j_tabletCount, .int j_riderCount, .int j_lineLength, .int j_hour])), (o, .inl (kl, 1, .inr (.inl ol)))] ++ va_pl L f) s.heap.size = A at hD ⊢
  have hA : ∀ q : Nat, s.heap.size ≤ q → A q := fun q h => by rw [← hAe]; exact Or.inr h
  have hS : va_S A s.heap s.heap [] := va_S.rf
  have hP : va_P (dC, dI) vwCl ([(h0, .inr (8, [.ref a1, .ref a2, .ref a3, .ref a4, .ref a5, .ref a6, .ref a7, .ref a8, .ref a9, .int j_faultKind, .int j_horseCount, .int j_tabletCount, .int j_riderCount, .int j_lineLength, .int j_hour])), (o, .inl (kl, 1, .inr (.inl ol)))] ++ va_pl L f) s.heap := hP
  have hl := lv_entry ([.ref h0, .int p0, .int p1, .ref o]) (n := 5) (Nat.le_of_ble_eq_true rfl)
  rw [lg_entry_eq]
  generalize (lg_sl ([.ref h0, .int p0, .int p1, .ref o]) ++ List.replicate (5 - (lg_sl ([.ref h0, .int p0, .int p1, .ref o])).length) Slot.unset).toArray = ls at hl ⊢
  have hl : lv_has ls 5 [(0, .ref h0), (1, .int p0), (2, .int p1), (3, .ref o)] := hl
  refine lv_aload_n hx hb dL_rider_0 rfl (lv_at hl 3 rfl) ?_
  refine lv_iconst (v := 0) hx hb dL_rider_1 (by decide) ?_
  refine lv_aload_n hx hb dL_rider_2 rfl (lv_at hl 0 rfl) ?_
  refine lv_iload_n hx hb dL_rider_3 rfl (lv_at hl 1 rfl) ?_
  refine lv_iload_n hx hb dL_rider_4 rfl (lv_at hl 2 rfl) ?_
  have hPc := hP.part (cx := [(h0, .inr (8, [.ref a1, .ref a2, .ref a3, .ref a4, .ref a5, .ref a6, .ref a7, .ref a8, .ref a9, .int j_faultKind, .int j_horseCount, .int j_tabletCount, .int j_riderCount, .int j_lineLength, .int j_hour]))]) [0] rfl
  have hDc := hD.part (cx := [(h0, .inr (8, [.ref a1, .ref a2, .ref a3, .ref a4, .ref a5, .ref a6, .ref a7, .ref a8, .ref a9, .int j_faultKind, .int j_horseCount, .int j_tabletCount, .int j_riderCount, .int j_lineLength, .int j_hour]))]) [0] (by decide) rfl
  have hKc := hK.sub (tys' := tyC cs) [0, 1, 2, 3, 4, 5] rfl
  refine vx_calli (vx_runV (As := [.int p0, .int p1]) (rest := [.int 0, .ref o]) ⟨hx, hb, hml, hown, hts⟩ (e_X8_rider l hst dC dI cs L ka ix ad n0 n6 n2 S f gq h0 a1 a2 a3 a4 a5 a6 a7 a8 a9 j_faultKind j_horseCount j_tabletCount j_riderCount j_lineLength j_hour p0 p1 s.heap.size hT hY) (cwV 2 hts gN_Lrider rfl rfl rfl (by decide +kernel) ⟨Nat.le_of_ble_eq_true rfl, Nat.le_of_ble_eq_true rfl⟩) ⟨x_blind, va_recv hKc hPc (ci := 8) (q0 := 0) rfl rfl, x_pre hPc hKc hDc hN hE⟩ rfl rfl hl.1 rfl (lv_room (Nat.le_of_ble_eq_true rfl)) dL_rider_5 ⟨Nat.le_of_ble_eq_true rfl, Nat.le_of_ble_eq_true rfl⟩) hS (fun q _ h => hA q h) (fun q h => h.elim) (fun q _ h => hA q h) (fun E ce q9 u9 t9 H1 locs ht hal hpx hBX hz1 hk1 hS hce hcv hcl => ?_) (fun r u9 t9 H1 locs ht hvm hw hB hz1 hk1 hS => ?_)
  · obtain ⟨hBX, hcn⟩ := hBX
    subst hBX
    have hP := keepP hP hk1
    refine vx_catch (name := nsN) hown [] { startPc := 0, endPc := 10, handlerPc := 13, catchType := 13 } [] htab (fun z hz => nomatch hz) (by decide) (by decide) (hts (.classLink RL 13 nsN) (List.mem_cons_of_mem _ (List.mem_append_right _ (by decide)))) (va_Nw.use (nbl_tab _ nbl_cast) (hE.1 _ nbl_cast)) hce hcv hcl ?_
    refine W.widen (k := 1) (n := 6) (Nat.le_of_ble_eq_true rfl) (Nat.le_of_ble_eq_true rfl) ?_
    refine lv_astore (lv' := [(4, .ref q9), (0, .ref h0), (1, .int p0), (2, .int p1), (3, .ref o)]) hx hb dL_rider_13 hl (by decide) rfl (fun ls hl => ?_)
    refine lv_iconst (v := 1) hx hb dL_rider_15 (by decide) ?_
    exact W.iret (v := 1) hx hb hr (fun t9 ht hW => ⟨⟨_, ol, rfl, Or.inl ⟨rfl, hcn⟩, by rw [ht]; exact hP, va_K.moved hW.alike (hK.sub (tys' := []) [] rfl), hD⟩, hS.F ht⟩) hS.2.2 dL_rider_16
  · have hP := keepP hP hk1
    refine lv_i2l hx hb dL_rider_8 rfl ?_
    refine lv_topl (fun w_1 ew_1 => ?_)
    refine va_last hx hb hK hP hD hS 1 6 rfl rfl (by unfold vp_in; decide) dL_rider_9 (fun H locs hP hD hS => ?_)
    refine lv_goto (tgt := 17) hx hb dL_rider_10 (by decide) ?_
    refine lv_iconst (v := 0) hx hb dL_rider_17 (by decide) ?_
    refine W.widen (k := 1) (n := 6) (Nat.le_of_ble_eq_true rfl) (Nat.le_of_ble_eq_true rfl) ?_
    exact W.iret (v := 0) hx hb hr (fun t9 ht hW => ⟨⟨_, vp_updL ol (0 : Int32).toNatClampNeg w_1, rfl, Or.inr ⟨rfl, r, hw, ew_1⟩, by rw [ht]; exact hP, va_K.moved hW.alike (hK.sub (tys' := []) [] rfl), hD⟩, hS.F ht⟩) hS.2.2 dL_rider_18

noncomputable def wN_steed : List Cond := .code yX8_steed cX8_steed 4 (some .int) :: (wsV RX8 200 RX8 yX8_horseOf wsX8_horseOf ++ (u_ws RX0 TX0 3 ++ (u_ws RX8 TX8 15 ++ ([.classLink RX8 173 nsN, .initialized nsN] ++ nsG))))

set_option maxRecDepth 20000 in
theorem gN_steed_horseOf : GoodIn wN_steed (wsV RX8 200 RX8 yX8_horseOf wsX8_horseOf) := goodIn_sub (fun w h => List.mem_cons_of_mem _ (List.mem_append_left _ h)) (by decide +kernel)

set_option maxRecDepth 20000 in
theorem pN_steed_horseOf : ∀ w ∈ wsX8_horseOf, w ∈ lw_tbl := mem_pq [(4, 93), (1, 111), (1, 122), (1, 124), (1, 126), (1, 128), (1, 130), (1, 132), (1, 134), (1, 136), (1, 138), (1, 140), (1, 142), (1, 144), (1, 146), (1, 148), (1, 150)] rfl

theorem uN_steed : ∀ w ∈ u_ws RX0 TX0 3, w ∈ wN_steed := fun w h => List.mem_cons_of_mem _ (List.mem_append_right _ (List.mem_append_left _ h))

theorem uN8_steed : ∀ w ∈ u_ws RX8 TX8 15, w ∈ wN_steed := fun w h => List.mem_cons_of_mem _ (List.mem_append_right _ (List.mem_append_right _ (List.mem_append_left _ h)))

set_option maxRecDepth 20000 in
theorem qN_steed : ∀ w ∈ u_ws RX0 TX0 3, w ∈ lw_tbl := mem_pq [(2, 148), (2, 150), (2, 152)] rfl

set_option maxRecDepth 20000 in
theorem qN8_steed : ∀ w ∈ u_ws RX8 TX8 15, w ∈ lw_tbl := mem_pq [(1, 122), (1, 124), (1, 126), (1, 128), (1, 130), (1, 132), (1, 134), (1, 136), (1, 138), (1, 140), (1, 142), (1, 144), (1, 146), (1, 148), (1, 150)] rfl

set_option maxRecDepth 20000 in
theorem wN_steed_in : ∀ w ∈ wN_steed, w ∈ lw_tbl := mem_c (List.mem_of_getElem? (i := 873) (by decide +kernel)) (mem_app (mem_app (mem_pq [(4, 90), (4, 92), (0, 38), (1, 1)] rfl) pN_steed_horseOf) (mem_app qN_steed (mem_app qN8_steed (mem_app (mem_pq [(4, 14), (1, 21)] rfl) nsG_in))))

noncomputable def wN_Lsteed : List Cond := .codeWith yL_steed cL_steed 5 (some .int) [(0, 10, 13, 13)] :: (wsV RL 15 RX8 yX8_steed wN_steed ++ [.classLink RL 13 nsN])

set_option maxRecDepth 20000 in
theorem gN_Lsteed : GoodIn wN_Lsteed (wsV RL 15 RX8 yX8_steed wN_steed) := goodIn_sub (fun w h => List.mem_cons_of_mem _ (List.mem_append_left _ h)) (by decide +kernel)

set_option maxRecDepth 20000 in
theorem wN_Lsteed_in : ∀ w ∈ wN_Lsteed, w ∈ lw_tbl := mem_c (List.mem_of_getElem? (i := 869) (by decide +kernel)) (mem_app (mem_app (mem_pq [(4, 86), (4, 87), (4, 88), (1, 1)] rfl) wN_steed_in) (mem_pq [(4, 9)] rfl))

set_option maxRecDepth 20000 in
theorem gN_law_steed : GoodIn lw_tbl (va_wsS RL 91 yL_steed wN_Lsteed) := goodIn_sub (mem_app (mem_pq [(4, 83), (4, 84), (1, 0)] rfl) wN_Lsteed_in) (by decide +kernel)

set_option maxHeartbeats 4000000 in
set_option maxRecDepth 100000 in
theorem e_X8_steed (l : Launch) (hst : l.stackTraces = false) (dC : Nat → ClassId) (dI : Nat → Nat → Nat) (cs : Nat → ClassId) (L : List Nat) (ka : Nat → Nat) (ix : Nat → Nat) (ad : Nat → Nat → Nat) (n0 : Nat) (n6 : Nat) (n2 : Nat) (S : Nat → Nat → Nat → Int32) (f : Nat → va_E) (gq : Nat) (h0 : Nat) (a1 : Nat) (a2 : Nat) (a3 : Nat) (a4 : Nat) (a5 : Nat) (a6 : Nat) (a7 : Nat) (a8 : Nat) (a9 : Nat) (j_faultKind : Int32) (j_horseCount : Int32) (j_tabletCount : Int32) (j_riderCount : Int32) (j_lineLength : Int32) (j_hour : Int32) (p0 : Int32) (p1 : Int32) (sz : Nat) (hT : tB L ka ix ad cs n0 n6 n2 S f) (hY : yX L ka ix ad gq a2 a3 a4 a5 a6 a7 a8 a9) : vx_Met l yX8_steed wN_steed ({ frames := 6, cells := 1, slots := 6, locals := 100 }) (va_Pc [.ref h0, .int p0, .int p1] (fun U => cP dC dI ([(h0, .inr (8, [.ref a1, .ref a2, .ref a3, .ref a4, .ref a5, .ref a6, .ref a7, .ref a8, .ref a9, .int j_faultKind, .int j_horseCount, .int j_tabletCount, .int j_riderCount, .int j_lineLength, .int j_hour]))] ++ va_pl L f) (tyC cs) sz U ∧ XE 204 "no such horse, or nothing of the kind is told of horses" (fun q => sz ≤ q) U)) (va_Qi (fun (r : Int32) (_ : Unit) => OUy n0 1 p0 p1 (sdT S) r) (fun _ _ => True) (fun q => sz ≤ q)) (vx_X (fun (_ : Unit) => True) (fun E _ _ => E = nsN ∧ OUn n0 1 p0 p1) (fun q => sz ≤ q)) 1 6 (fun _ => False) := by
  refine vx_ofW (cc := cX8_steed) (maxL := 4) (ret := (some .int)) (by decide) rfl ?_
  intro p e s m args below meth c s₁ B hml htab hv
  obtain ⟨rfl, ⟨hsz, hP, hK, hD0, hN⟩, hE⟩ := hv
  have hx := B.exec
  have hb := B.bytes
  have hr := B.returns
  have hts := atoms_spec (ws := wN_steed) B.pre
  have hown : s.vm.findClass RX8 = some m.cls := findClass_of_methodNamed B.named
  have hlocks := B.notSynchronized
  subst hsz
  have hin0 := uN_steed
  have hin8 := uN8_steed
  have hD := hD0
  have hS : va_S (fun q => s.heap.size ≤ q) s.heap s.heap [] := va_S.rf
  have hP : va_P (dC, dI) vwCl ([(h0, .inr (8, [.ref a1, .ref a2, .ref a3, .ref a4, .ref a5, .ref a6, .ref a7, .ref a8, .ref a9, .int j_faultKind, .int j_horseCount, .int j_tabletCount, .int j_riderCount, .int j_lineLength, .int j_hour]))] ++ va_pl L f) s.heap := hP
  have hl := lv_entry ([.ref h0, .int p0, .int p1]) (n := 4) (Nat.le_of_ble_eq_true rfl)
  rw [lg_entry_eq]
  generalize (lg_sl ([.ref h0, .int p0, .int p1]) ++ List.replicate (4 - (lg_sl ([.ref h0, .int p0, .int p1])).length) Slot.unset).toArray = ls at hl ⊢
  have hl : lv_has ls 4 [(0, .ref h0), (1, .int p0), (2, .int p1)] := hl
  refine lv_aload_n hx hb dX8_steed_0 rfl (lv_at hl 0 rfl) ?_
  refine lv_iload_n hx hb dX8_steed_1 rfl (lv_at hl 1 rfl) ?_
  have hPc := hP.part (cx := [(h0, .inr (8, [.ref a1, .ref a2, .ref a3, .ref a4, .ref a5, .ref a6, .ref a7, .ref a8, .ref a9, .int j_faultKind, .int j_horseCount, .int j_tabletCount, .int j_riderCount, .int j_lineLength, .int j_hour]))]) [0] rfl
  have hDc := hD.part (cx := [(h0, .inr (8, [.ref a1, .ref a2, .ref a3, .ref a4, .ref a5, .ref a6, .ref a7, .ref a8, .ref a9, .int j_faultKind, .int j_horseCount, .int j_tabletCount, .int j_riderCount, .int j_lineLength, .int j_hour]))]) [0] (by decide) rfl
  have hKc := hK
  refine cs_q (va_runV (As := [.int p0]) (rest := []) ⟨hx, hb, hml, hown, hts⟩ (e_X8_horseOf l dC dI cs L ka ix ad n0 n6 n2 S f gq h0 a1 a2 a3 a4 a5 a6 a7 a8 a9 j_faultKind j_horseCount j_tabletCount j_riderCount j_lineLength j_hour p0 s.heap.size hT hY) (cwV 1 hts gN_steed_horseOf rfl rfl rfl (by decide +kernel) ⟨Nat.le_of_ble_eq_true rfl, Nat.le_of_ble_eq_true rfl⟩) ⟨c_blind, va_recv hKc hPc (ci := 8) (q0 := 0) rfl rfl, c_pre hPc hKc hDc hN⟩ rfl rfl hl.1 rfl (lv_room (Nat.le_of_ble_eq_true rfl)) dX8_steed_2 ⟨Nat.le_of_ble_eq_true rfl, Nat.le_of_ble_eq_true rfl⟩) (fun o_1 ho_1 => ?_)
  subst ho_1
  by_cases c_2 : hOf n0 p0 = -1
  · rw [show oq ad 0 (hOf n0 p0) = none from oq_n c_2]
    refine W.eq (g2 := F0 m 5 ls [.null]) rfl ?_
    refine lv_astore_nN (lv' := [(3, .null), (0, .ref h0), (1, .int p0), (2, .int p1)]) hx hb dX8_steed_5 rfl hl (by decide) rfl (fun ls hl => ?_)
    refine lv_aload_nN hx hb dX8_steed_6 rfl (lv_at hl 0 rfl) ?_
    refine lv_ifnullN (tgt := 19) hx hb dX8_steed_7 (by decide) ?_
    obtain ⟨hnb, ⟨sa, hsa⟩, hU, hNs⟩ := hE
    exact ns_W hx hb hst hown (hts (.classLink RX8 173 nsN) (List.mem_cons_of_mem _ (List.mem_append_right _ (List.mem_append_right _ (List.mem_append_right _ (List.mem_append_left _ (by decide))))))) (hts (.initialized nsN) (List.mem_cons_of_mem _ (List.mem_append_right _ (List.mem_append_right _ (List.mem_append_right _ (List.mem_append_left _ (by decide))))))) hsa (vx_hat (fun w hw => hts w (List.mem_cons_of_mem _ (List.mem_append_right _ (List.mem_append_right _ (List.mem_append_right _ (List.mem_append_right _ hw)))))) nsA_bad (fun w hw => va_Nw.use (nbl_tab w (List.mem_append_left _ hw)) (hnb w (List.mem_append_left _ hw)))) ns_ot1 ns_ot2 nsA_ot hU hNs hS (by rw [hml]; exact hl.1) dX8_steed_19 dX8_steed_22 dX8_steed_23 dX8_steed_25 dX8_steed_28 (fun x hx => (htab x hx).elim) (Nat.le_of_ble_eq_true rfl) (Nat.le_of_ble_eq_true rfl) (Nat.le_of_ble_eq_true rfl) (Nat.le_of_ble_eq_true rfl) hlocks (fun t9 hal hle hk => ⟨(), trivial, ⟨rfl, (Or.inl c_2)⟩, hle, fun q hq _ => hk q hq⟩) (fun z hz => nomatch hz) (Nat.le_of_ble_eq_true rfl) (Nat.le_of_ble_eq_true rfl)
  · obtain ⟨u_3, hu_3, eu_3⟩ := hOf_o (by have h9 := hT.b0; omega) c_2
    have hn9 := hT.b0
    rw [show oq ad 0 (hOf n0 p0) = some (ad 0 u_3) from by rw [eu_3]; exact oq_s (by omega)]
    refine W.eq (g2 := F0 m 5 ls [.ref (ad 0 u_3)]) rfl ?_
    refine lv_astore_n (lv' := [(3, .ref (ad 0 u_3)), (0, .ref h0), (1, .int p0), (2, .int p1)]) hx hb dX8_steed_5 rfl hl (by decide) rfl (fun ls hl => ?_)
    refine lv_aload_n hx hb dX8_steed_6 rfl (lv_at hl 0 rfl) ?_
    refine lv_ifnull hx hb dX8_steed_7 ?_
    refine lv_iload_n hx hb dX8_steed_10 rfl (lv_at hl 3 rfl) ?_
    refine lv_if_lt (tgt := 19) hx hb dX8_steed_11 (by decide) (fun c_4 => ?_) (fun c_4 => ?_)
    · obtain ⟨hnb, ⟨sa, hsa⟩, hU, hNs⟩ := hE
      exact ns_W hx hb hst hown (hts (.classLink RX8 173 nsN) (List.mem_cons_of_mem _ (List.mem_append_right _ (List.mem_append_right _ (List.mem_append_right _ (List.mem_append_left _ (by decide))))))) (hts (.initialized nsN) (List.mem_cons_of_mem _ (List.mem_append_right _ (List.mem_append_right _ (List.mem_append_right _ (List.mem_append_left _ (by decide))))))) hsa (vx_hat (fun w hw => hts w (List.mem_cons_of_mem _ (List.mem_append_right _ (List.mem_append_right _ (List.mem_append_right _ (List.mem_append_right _ hw)))))) nsA_bad (fun w hw => va_Nw.use (nbl_tab w (List.mem_append_left _ hw)) (hnb w (List.mem_append_left _ hw)))) ns_ot1 ns_ot2 nsA_ot hU hNs hS (by rw [hml]; exact hl.1) dX8_steed_19 dX8_steed_22 dX8_steed_23 dX8_steed_25 dX8_steed_28 (fun x hx => (htab x hx).elim) (Nat.le_of_ble_eq_true rfl) (Nat.le_of_ble_eq_true rfl) (Nat.le_of_ble_eq_true rfl) (Nat.le_of_ble_eq_true rfl) hlocks (fun t9 hal hle hk => ⟨(), trivial, ⟨rfl, (Or.inr (Or.inl c_4))⟩, hle, fun q hq _ => hk q hq⟩) (fun z hz => nomatch hz) (Nat.le_of_ble_eq_true rfl) (Nat.le_of_ble_eq_true rfl)
    · refine lv_iload_n hx hb dX8_steed_14 rfl (lv_at hl 3 rfl) ?_
      refine lv_iconst (v := 1) hx hb dX8_steed_15 (by decide) ?_
      refine lv_icmp_le (tgt := 29) hx hb dX8_steed_16 (by decide) (fun c_5 => ?_) (fun c_5 => ?_)
      · refine lv_iload_n hx hb dX8_steed_29 rfl (lv_at hl 3 rfl) ?_
        refine lv_if_ne (tgt := 40) hx hb dX8_steed_30 (by decide) (fun c_6 => ?_) (fun c_6 => ?_)
        · refine lv_aload_n hx hb dX8_steed_40 rfl (lv_at hl 0 rfl) ?_
          have hf_7 : f (ad 0 u_3) = .inr (0, [.int (nI u_3), .int (S 1 u_3 0), .int (S 2 u_3 0)]) := hT.get (hT.k0 (i := u_3) (by omega))
          obtain ⟨q_8, hq_8⟩ := pl_at (X := [(h0, .inr (8, [.ref a1, .ref a2, .ref a3, .ref a4, .ref a5, .ref a6, .ref a7, .ref a8, .ref a9, .int j_faultKind, .int j_horseCount, .int j_tabletCount, .int j_riderCount, .int j_lineLength, .int j_hour]))]) (f := f) (e := .inr (0, [.int (nI u_3), .int (S 1 u_3 0), .int (S 2 u_3 0)])) (hT.k0 (i := u_3) (by omega)).1 hf_7
          refine va_getN (D := (dC, dI)) (ci := 0) (v := .int (S 1 u_3 0)) (C := RX0) (T := TX0) (N := 3) hx hb hts hin0 hown hK hP q_8 hq_8 rfl 1 (by decide) (hN.nx (.fieldLinkNest RX8 209 "YamRiders$Horse" "station" "I" "YamRiders") (by decide +kernel)) (fun _ h9 => h9) rfl dX8_steed_41 ?_
          refine vx_ret ?_
          refine W.widen (k := 1) (n := 6) (Nat.le_of_ble_eq_true rfl) (Nat.le_of_ble_eq_true rfl) ?_
          exact W.iret (v := S 1 u_3 0) hx hb hr (fun t9 ht hW => ⟨⟨_, (), rfl, ⟨u_3, hu_3, eu_3, c_4, c_5, by unfold sdT; rw [if_neg c_6]⟩, trivial⟩, hS.F ht⟩) (fun q h => nomatch h) dX8_steed_44
        · refine lv_aload_n hx hb dX8_steed_33 rfl (lv_at hl 0 rfl) ?_
          have hf_9 : f (ad 0 u_3) = .inr (0, [.int (nI u_3), .int (S 1 u_3 0), .int (S 2 u_3 0)]) := hT.get (hT.k0 (i := u_3) (by omega))
          obtain ⟨q_10, hq_10⟩ := pl_at (X := [(h0, .inr (8, [.ref a1, .ref a2, .ref a3, .ref a4, .ref a5, .ref a6, .ref a7, .ref a8, .ref a9, .int j_faultKind, .int j_horseCount, .int j_tabletCount, .int j_riderCount, .int j_lineLength, .int j_hour]))]) (f := f) (e := .inr (0, [.int (nI u_3), .int (S 1 u_3 0), .int (S 2 u_3 0)])) (hT.k0 (i := u_3) (by omega)).1 hf_9
          refine va_getN (D := (dC, dI)) (ci := 0) (v := .int (S 2 u_3 0)) (C := RX0) (T := TX0) (N := 3) hx hb hts hin0 hown hK hP q_10 hq_10 rfl 2 (by decide) (hN.nx (.fieldLinkNest RX8 206 "YamRiders$Horse" "strength" "I" "YamRiders") (by decide +kernel)) (fun _ h9 => h9) rfl dX8_steed_34 ?_
          refine lv_goto (tgt := 44) hx hb dX8_steed_37 (by decide) ?_
          refine vx_ret ?_
          refine W.widen (k := 1) (n := 6) (Nat.le_of_ble_eq_true rfl) (Nat.le_of_ble_eq_true rfl) ?_
          exact W.iret (v := S 2 u_3 0) hx hb hr (fun t9 ht hW => ⟨⟨_, (), rfl, ⟨u_3, hu_3, eu_3, c_4, c_5, by unfold sdT; rw [if_pos c_6]⟩, trivial⟩, hS.F ht⟩) (fun q h => nomatch h) dX8_steed_44
      · obtain ⟨hnb, ⟨sa, hsa⟩, hU, hNs⟩ := hE
        exact ns_W hx hb hst hown (hts (.classLink RX8 173 nsN) (List.mem_cons_of_mem _ (List.mem_append_right _ (List.mem_append_right _ (List.mem_append_right _ (List.mem_append_left _ (by decide))))))) (hts (.initialized nsN) (List.mem_cons_of_mem _ (List.mem_append_right _ (List.mem_append_right _ (List.mem_append_right _ (List.mem_append_left _ (by decide))))))) hsa (vx_hat (fun w hw => hts w (List.mem_cons_of_mem _ (List.mem_append_right _ (List.mem_append_right _ (List.mem_append_right _ (List.mem_append_right _ hw)))))) nsA_bad (fun w hw => va_Nw.use (nbl_tab w (List.mem_append_left _ hw)) (hnb w (List.mem_append_left _ hw)))) ns_ot1 ns_ot2 nsA_ot hU hNs hS (by rw [hml]; exact hl.1) dX8_steed_19 dX8_steed_22 dX8_steed_23 dX8_steed_25 dX8_steed_28 (fun x hx => (htab x hx).elim) (Nat.le_of_ble_eq_true rfl) (Nat.le_of_ble_eq_true rfl) (Nat.le_of_ble_eq_true rfl) (Nat.le_of_ble_eq_true rfl) hlocks (fun t9 hal hle hk => ⟨(), trivial, ⟨rfl, (Or.inr (Or.inr c_5))⟩, hle, fun q hq _ => hk q hq⟩) (fun z hz => nomatch hz) (Nat.le_of_ble_eq_true rfl) (Nat.le_of_ble_eq_true rfl)

set_option maxHeartbeats 4000000 in
set_option maxRecDepth 100000 in
theorem e_L_steed (l : Launch) (hst : l.stackTraces = false) (dC : Nat → ClassId) (dI : Nat → Nat → Nat) (cs : Nat → ClassId) (L : List Nat) (ka : Nat → Nat) (ix : Nat → Nat) (ad : Nat → Nat → Nat) (n0 : Nat) (n6 : Nat) (n2 : Nat) (S : Nat → Nat → Nat → Int32) (f : Nat → va_E) (gq : Nat) (h0 : Nat) (a1 : Nat) (a2 : Nat) (a3 : Nat) (a4 : Nat) (a5 : Nat) (a6 : Nat) (a7 : Nat) (a8 : Nat) (a9 : Nat) (j_faultKind : Int32) (j_horseCount : Int32) (j_tabletCount : Int32) (j_riderCount : Int32) (j_lineLength : Int32) (j_hour : Int32) (p0 : Int32) (p1 : Int32) (o : Nat) (kl : ClassId) (ol : Nat → Int64) (sz : Nat) (hT : tB L ka ix ad cs n0 n6 n2 S f) (hY : yX L ka ix ad gq a2 a3 a4 a5 a6 a7 a8 a9) : Met l yL_steed wN_Lsteed ({ frames := 7, cells := 1, slots := 6, locals := 130 }) (va_Pc [.ref h0, .int p0, .int p1, .ref o] (fun U => cP dC dI ([(h0, .inr (8, [.ref a1, .ref a2, .ref a3, .ref a4, .ref a5, .ref a6, .ref a7, .ref a8, .ref a9, .int j_faultKind, .int j_horseCount, .int j_tabletCount, .int j_riderCount, .int j_lineLength, .int j_hour])), (o, .inl (kl, 1, .inr (.inl ol)))] ++ va_pl L f) [(cs 0, .int), (cs 1, .boolean), (cs 2, .array .int), (cs 3, .object "YamRiders$Horse"), (cs 4, .object "YamRiders$Tablet"), (cs 5, .object "YamRiders$Rider"), (kl, .long)] sz U ∧ XE 204 "no such horse, or nothing of the kind is told of horses" (fun q => sz ≤ q) U)) (va_Qi (fun (r : Int32) (ol2 : Nat → Int64) => OUx n0 1 p0 p1 (sdT S) r (ol2 0)) (fun (ol2 : Nat → Int64) t9 => cQ dC dI ([(h0, .inr (8, [.ref a1, .ref a2, .ref a3, .ref a4, .ref a5, .ref a6, .ref a7, .ref a8, .ref a9, .int j_faultKind, .int j_horseCount, .int j_tabletCount, .int j_riderCount, .int j_lineLength, .int j_hour])), (o, .inl (kl, 1, .inr (.inl ol2)))] ++ va_pl L f) [] (va_A ([(h0, .inr (8, [.ref a1, .ref a2, .ref a3, .ref a4, .ref a5, .ref a6, .ref a7, .ref a8, .ref a9, .int j_faultKind, .int j_horseCount, .int j_tabletCount, .int j_riderCount, .int j_lineLength, .int j_hour])), (o, .inl (kl, 1, .inr (.inl ol)))] ++ va_pl L f) sz) t9) (va_A ([(h0, .inr (8, [.ref a1, .ref a2, .ref a3, .ref a4, .ref a5, .ref a6, .ref a7, .ref a8, .ref a9, .int j_faultKind, .int j_horseCount, .int j_tabletCount, .int j_riderCount, .int j_lineLength, .int j_hour])), (o, .inl (kl, 1, .inr (.inl ol)))] ++ va_pl L f) sz)) 1 6 (va_A ([(h0, .inr (8, [.ref a1, .ref a2, .ref a3, .ref a4, .ref a5, .ref a6, .ref a7, .ref a8, .ref a9, .int j_faultKind, .int j_horseCount, .int j_tabletCount, .int j_riderCount, .int j_lineLength, .int j_hour])), (o, .inl (kl, 1, .inr (.inl ol)))] ++ va_pl L f) sz) := by
  refine va_MetW (hh := [(0, 10, 13, 13)]) (cc := cL_steed) (maxL := 5) (ret := (some .int)) (by decide) rfl ?_
  intro p e s m args below meth c s₁ B hml hv
  obtain ⟨rfl, ⟨hsz, hP, hK, hD0, hN⟩, hE⟩ := hv
  have hx := B.exec
  have hb := B.bytes
  have hr := B.returns
  have hts := atoms_spec (ws := wN_Lsteed) B.pre
  have hown : s.vm.findClass RL = some m.cls := findClass_of_methodNamed B.named
  have hlocks := B.notSynchronized
  have htab := vx_table (x := yL_steed) B (hts _ List.mem_cons_self)
  subst hsz
  have hD := hD0.self (sz := s.heap.size)
  generalize hAe : va_A ([(h0, .inr (8, [.ref a1, .ref a2, .ref a3, .ref a4, .ref a5, .ref a6, .ref a7, .ref a8, .ref a9, .int j_faultKind, .int j_horseCount, .int j_tabletCount, .int j_riderCount, .int j_lineLength, .int j_hour])), (o, .inl (kl, 1, .inr (.inl ol)))] ++ va_pl L f) s.heap.size = A at hD ⊢
  have hA : ∀ q : Nat, s.heap.size ≤ q → A q := fun q h => by rw [← hAe]; exact Or.inr h
  have hS : va_S A s.heap s.heap [] := va_S.rf
  have hP : va_P (dC, dI) vwCl ([(h0, .inr (8, [.ref a1, .ref a2, .ref a3, .ref a4, .ref a5, .ref a6, .ref a7, .ref a8, .ref a9, .int j_faultKind, .int j_horseCount, .int j_tabletCount, .int j_riderCount, .int j_lineLength, .int j_hour])), (o, .inl (kl, 1, .inr (.inl ol)))] ++ va_pl L f) s.heap := hP
  have hl := lv_entry ([.ref h0, .int p0, .int p1, .ref o]) (n := 5) (Nat.le_of_ble_eq_true rfl)
  rw [lg_entry_eq]
  generalize (lg_sl ([.ref h0, .int p0, .int p1, .ref o]) ++ List.replicate (5 - (lg_sl ([.ref h0, .int p0, .int p1, .ref o])).length) Slot.unset).toArray = ls at hl ⊢
  have hl : lv_has ls 5 [(0, .ref h0), (1, .int p0), (2, .int p1), (3, .ref o)] := hl
  refine lv_aload_n hx hb dL_steed_0 rfl (lv_at hl 3 rfl) ?_
  refine lv_iconst (v := 0) hx hb dL_steed_1 (by decide) ?_
  refine lv_aload_n hx hb dL_steed_2 rfl (lv_at hl 0 rfl) ?_
  refine lv_iload_n hx hb dL_steed_3 rfl (lv_at hl 1 rfl) ?_
  refine lv_iload_n hx hb dL_steed_4 rfl (lv_at hl 2 rfl) ?_
  have hPc := hP.part (cx := [(h0, .inr (8, [.ref a1, .ref a2, .ref a3, .ref a4, .ref a5, .ref a6, .ref a7, .ref a8, .ref a9, .int j_faultKind, .int j_horseCount, .int j_tabletCount, .int j_riderCount, .int j_lineLength, .int j_hour]))]) [0] rfl
  have hDc := hD.part (cx := [(h0, .inr (8, [.ref a1, .ref a2, .ref a3, .ref a4, .ref a5, .ref a6, .ref a7, .ref a8, .ref a9, .int j_faultKind, .int j_horseCount, .int j_tabletCount, .int j_riderCount, .int j_lineLength, .int j_hour]))]) [0] (by decide) rfl
  have hKc := hK.sub (tys' := tyC cs) [0, 1, 2, 3, 4, 5] rfl
  refine vx_calli (vx_runV (As := [.int p0, .int p1]) (rest := [.int 0, .ref o]) ⟨hx, hb, hml, hown, hts⟩ (e_X8_steed l hst dC dI cs L ka ix ad n0 n6 n2 S f gq h0 a1 a2 a3 a4 a5 a6 a7 a8 a9 j_faultKind j_horseCount j_tabletCount j_riderCount j_lineLength j_hour p0 p1 s.heap.size hT hY) (cwV 2 hts gN_Lsteed rfl rfl rfl (by decide +kernel) ⟨Nat.le_of_ble_eq_true rfl, Nat.le_of_ble_eq_true rfl⟩) ⟨x_blind, va_recv hKc hPc (ci := 8) (q0 := 0) rfl rfl, x_pre hPc hKc hDc hN hE⟩ rfl rfl hl.1 rfl (lv_room (Nat.le_of_ble_eq_true rfl)) dL_steed_5 ⟨Nat.le_of_ble_eq_true rfl, Nat.le_of_ble_eq_true rfl⟩) hS (fun q _ h => hA q h) (fun q h => h.elim) (fun q _ h => hA q h) (fun E ce q9 u9 t9 H1 locs ht hal hpx hBX hz1 hk1 hS hce hcv hcl => ?_) (fun r u9 t9 H1 locs ht hvm hw hB hz1 hk1 hS => ?_)
  · obtain ⟨hBX, hcn⟩ := hBX
    subst hBX
    have hP := keepP hP hk1
    refine vx_catch (name := nsN) hown [] { startPc := 0, endPc := 10, handlerPc := 13, catchType := 13 } [] htab (fun z hz => nomatch hz) (by decide) (by decide) (hts (.classLink RL 13 nsN) (List.mem_cons_of_mem _ (List.mem_append_right _ (by decide)))) (va_Nw.use (nbl_tab _ nbl_cast) (hE.1 _ nbl_cast)) hce hcv hcl ?_
    refine W.widen (k := 1) (n := 6) (Nat.le_of_ble_eq_true rfl) (Nat.le_of_ble_eq_true rfl) ?_
    refine lv_astore (lv' := [(4, .ref q9), (0, .ref h0), (1, .int p0), (2, .int p1), (3, .ref o)]) hx hb dL_steed_13 hl (by decide) rfl (fun ls hl => ?_)
    refine lv_iconst (v := 1) hx hb dL_steed_15 (by decide) ?_
    exact W.iret (v := 1) hx hb hr (fun t9 ht hW => ⟨⟨_, ol, rfl, Or.inl ⟨rfl, hcn⟩, by rw [ht]; exact hP, va_K.moved hW.alike (hK.sub (tys' := []) [] rfl), hD⟩, hS.F ht⟩) hS.2.2 dL_steed_16
  · have hP := keepP hP hk1
    refine lv_i2l hx hb dL_steed_8 rfl ?_
    refine lv_topl (fun w_1 ew_1 => ?_)
    refine va_last hx hb hK hP hD hS 1 6 rfl rfl (by unfold vp_in; decide) dL_steed_9 (fun H locs hP hD hS => ?_)
    refine lv_goto (tgt := 17) hx hb dL_steed_10 (by decide) ?_
    refine lv_iconst (v := 0) hx hb dL_steed_17 (by decide) ?_
    refine W.widen (k := 1) (n := 6) (Nat.le_of_ble_eq_true rfl) (Nat.le_of_ble_eq_true rfl) ?_
    exact W.iret (v := 0) hx hb hr (fun t9 ht hW => ⟨⟨_, vp_updL ol (0 : Int32).toNatClampNeg w_1, rfl, Or.inr ⟨rfl, r, hw, ew_1⟩, by rw [ht]; exact hP, va_K.moved hW.alike (hK.sub (tys' := []) [] rfl), hD⟩, hS.F ht⟩) hS.2.2 dL_steed_18
