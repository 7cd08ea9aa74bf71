def tyC (cs : Nat → ClassId) : List (ClassId × FieldType) := [(cs 0, .int), (cs 1, .boolean), (cs 2, .array .int), (cs 3, .object "YamRiders$Horse"), (cs 4, .object "YamRiders$Tablet"), (cs 5, .object "YamRiders$Rider")]
def tp (L : List Nat) (ka : Nat → Nat) (k a : Nat) : Prop := a ∈ L ∧ ka a = k
def tq (L : List Nat) (ka : Nat → Nat) (k : Nat) (o : Option Nat) : Prop := ∀ a, o = some a → tp L ka k a
def tC (L : List Nat) (ka : Nat → Nat) (cs : Nat → ClassId) (k : Nat) (e : va_E) : Prop :=
  match k with
  | 0 => ∃ x y z : Int32, e = .inr (0, [.int x, .int y, .int z])
  | 1 => ∃ a b c d : Nat, e = .inr (1, [.ref a, .ref b, .ref c, .ref d]) ∧ tp L ka 10 a ∧ tp L ka 20 b ∧ tp L ka 10 c ∧ tp L ka 10 d
  | 2 => ∃ (x1 x2 : Int32) (a b : Nat) (x3 x4 x5 : Int32) (o : Option Nat) (x6 x7 : Int32), e = .inr (2, [.int x1, .int x2, .ref a, .ref b, .int x3, .int x4, .int x5, va_rf o, .int x6, .int x7]) ∧ tp L ka 11 a ∧ tp L ka 10 b ∧ tq L ka 0 o
  | 3 => ∃ a b c d g : Nat, e = .inr (3, [.ref a, .ref b, .ref c, .ref d, .ref g]) ∧ tp L ka 20 a ∧ tp L ka 20 b ∧ tp L ka 10 c ∧ tp L ka 12 d ∧ tp L ka 10 g
  | 5 => ∃ a : Nat, e = .inr (5, [.ref a]) ∧ tp L ka 14 a
  | 6 => ∃ (x : Int32) (a : Nat), e = .inr (6, [.int x, .ref a]) ∧ tp L ka 10 a
  | 10 => ∃ g : Nat → Int32, e = .inl (cs 0, 12, .inl g)
  | 11 => ∃ (n : Nat) (g : Nat → Int32), n ≤ 12 ∧ e = .inl (cs 0, n, .inl g)
  | 12 => ∃ g : Nat → Int32, e = .inl (cs 1, 12, .inl g)
  | 14 => ∃ g : Nat → Int32, e = .inl (cs 0, 6, .inl g)
  | 20 => ∃ r : Nat → Option Nat, e = .inl (cs 2, 12, .inr (.inr (.inr (.inr r)))) ∧ ∀ i, i < 12 → ∃ a, r i = some a ∧ tp L ka 10 a
  | 21 => ∃ r : Nat → Option Nat, e = .inl (cs 3, 60, .inr (.inr (.inr (.inr r)))) ∧ ∀ i, tq L ka 0 (r i)
  | 22 => ∃ r : Nat → Option Nat, e = .inl (cs 4, 20, .inr (.inr (.inr (.inr r)))) ∧ ∀ i, tq L ka 6 (r i)
  | 23 => ∃ r : Nat → Option Nat, e = .inl (cs 5, 60, .inr (.inr (.inr (.inr r)))) ∧ ∀ i, tq L ka 2 (r i)
  | _ => False
def tO (L : List Nat) (ka : Nat → Nat) (cs : Nat → ClassId) (f : Nat → va_E) : Prop := ∀ a ∈ L, tC L ka cs (ka a) (f a)
def tX (L : List Nat) (ka : Nat → Nat) (L2 : List Nat) (ka2 : Nat → Nat) : Prop := ∀ a ∈ L, a ∈ L2 ∧ ka2 a = ka a
theorem tX.rf {L : List Nat} {ka : Nat → Nat} : tX L ka L ka := fun _ h => ⟨h, rfl⟩
theorem tX.tr {L L2 L3 : List Nat} {ka ka2 ka3 : Nat → Nat} (h : tX L ka L2 ka2) (g : tX L2 ka2 L3 ka3) : tX L ka L3 ka3 := fun a ha => ⟨(g a (h a ha).1).1, (g a (h a ha).1).2.trans (h a ha).2⟩
theorem tX.tp {L L2 : List Nat} {ka ka2 : Nat → Nat} {k a : Nat} (h : tX L ka L2 ka2) (g : tp L ka k a) : tp L2 ka2 k a := ⟨(h a g.1).1, (h a g.1).2.trans g.2⟩
theorem tX.tq {L L2 : List Nat} {ka ka2 : Nat → Nat} {k : Nat} {o : Option Nat} (h : tX L ka L2 ka2) (g : tq L ka k o) : tq L2 ka2 k o := fun a ha => h.tp (g a ha)
theorem tC.up {L L2 : List Nat} {ka ka2 : Nat → Nat} {cs : Nat → ClassId} {k : Nat} {e : va_E} (h : tX L ka L2 ka2) (g : tC L ka cs k e) : tC L2 ka2 cs k e := by
  unfold tC at g ⊢
  split at g
  · exact g
  · obtain ⟨a, b, c, d, h0, h1, h2, h3, h4⟩ := g
    exact ⟨a, b, c, d, h0, h.tp h1, h.tp h2, h.tp h3, h.tp h4⟩
  · obtain ⟨x1, x2, a, b, x3, x4, x5, o, x6, x7, h0, h1, h2, h3⟩ := g
    exact ⟨x1, x2, a, b, x3, x4, x5, o, x6, x7, h0, h.tp h1, h.tp h2, h.tq h3⟩
  · obtain ⟨a, b, c, d, g, h0, h1, h2, h3, h4, h5⟩ := g
    exact ⟨a, b, c, d, g, h0, h.tp h1, h.tp h2, h.tp h3, h.tp h4, h.tp h5⟩
  · obtain ⟨a, h0, h1⟩ := g
    exact ⟨a, h0, h.tp h1⟩
  · obtain ⟨x, a, h0, h1⟩ := g
    exact ⟨x, a, h0, h.tp h1⟩
  · exact g
  · exact g
  · exact g
  · exact g
  · obtain ⟨r, h0, h1⟩ := g
    refine ⟨r, h0, fun i hi => ?_⟩
    obtain ⟨a, ha, hk⟩ := h1 i hi
    exact ⟨a, ha, h.tp hk⟩
  · obtain ⟨r, h0, h1⟩ := g
    exact ⟨r, h0, fun i => h.tq (h1 i)⟩
  · obtain ⟨r, h0, h1⟩ := g
    exact ⟨r, h0, fun i => h.tq (h1 i)⟩
  · obtain ⟨r, h0, h1⟩ := g
    exact ⟨r, h0, fun i => h.tq (h1 i)⟩
  · exact g
theorem tO.get {L : List Nat} {ka : Nat → Nat} {cs : Nat → ClassId} {f : Nat → va_E} {k a : Nat} (h : tO L ka cs f) (ha : tp L ka k a) : tC L ka cs k (f a) := ha.2 ▸ h a ha.1
theorem tO.put {L : List Nat} {ka : Nat → Nat} {cs : Nat → ClassId} {f : Nat → va_E} {k a : Nat} {e : va_E} (h : tO L ka cs f) (ha : tp L ka k a) (he : tC L ka cs k e) : tO L ka cs (va_up f a e) := fun b hb => by
  by_cases q : b = a
  · subst q; rw [va_up_self, ha.2]; exact he
  · rw [va_up_ne _ _ q]; exact h b hb
theorem t_push {A : Nat → Prop} {D : va_G} {cl : List vw_C} {X : va_W} {H : Heap} {q : Nat} {e : va_E} {L : List Nat} {ka : Nat → Nat} {cs : Nat → ClassId} {f : Nat → va_E} (k : Nat) (hT : tO L ka cs f) (hP : va_P D cl ((X ++ [(q, e)]) ++ va_pl L f) H) (hD : va_D A ((X ++ [(q, e)]) ++ va_pl L f)) (he : ∀ (L2 : List Nat) (ka2 : Nat → Nat), tX L ka L2 ka2 → tC L2 ka2 cs k e) : ∃ (L2 : List Nat) (ka2 : Nat → Nat) (f2 : Nat → va_E), tX L ka L2 ka2 ∧ tO L2 ka2 cs f2 ∧ tp L2 ka2 k q ∧ va_P D cl (X ++ va_pl L2 f2) H ∧ va_D A (X ++ va_pl L2 f2) := by
  have hP := hP.swap
  have hD := hD.swap
  have hq : q ∉ L := va_pl_fresh2 hD
  have e1 : (X ++ va_pl L f) ++ [(q, e)] = X ++ va_pl (L ++ [q]) (va_up f q e) := by rw [List.append_assoc, va_pl_push hq]
  rw [e1] at hP hD
  have hx : tX L ka (L ++ [q]) (va_up ka q k) := fun a ha => ⟨List.mem_append_left _ ha, va_up_ne _ _ (fun z => hq (z ▸ ha))⟩
  refine ⟨L ++ [q], va_up ka q k, va_up f q e, hx, fun a ha => ?_, ⟨List.mem_append_right _ (List.mem_singleton.mpr rfl), va_up_self _ _ _⟩, hP, hD⟩
  by_cases z : a = q
  · subst z; rw [va_up_self, va_up_self]; exact he _ _ hx
  · rw [va_up_ne _ _ z, va_up_ne _ _ z]
    have ha' : a ∈ L := by
      rcases List.mem_append.mp ha with h | h
      · exact h
      · exact absurd (List.mem_singleton.mp h) z
    exact tC.up hx (hT a ha')
theorem pl_at {X : va_W} {L : List Nat} {f : Nat → va_E} {a : Nat} {e : va_E} (h : a ∈ L) (he : f a = e) : ∃ k : Nat, (X ++ va_pl L f)[k]? = some (a, e) := by
  rw [← he]; exact va_pl_get h
theorem pl_st {A : Nat → Prop} {X : va_W} {L : List Nat} {f : Nat → va_E} {a k : Nat} {e : va_E} (e2 : va_E) (hD : va_D A (X ++ va_pl L f)) (h : a ∈ L) (he : f a = e) (hk : (X ++ va_pl L f)[k]? = some (a, e)) : (X ++ va_pl L f).set k (a, e2) = X ++ va_pl L (va_up f a e2) := va_pl_set hD h (by rw [he]; exact hk)
theorem in_lt {i : Int32} {n : Nat} (h : vp_in i n) : i.toNatClampNeg < n := Nat.not_le.mp fun q => h (Or.inr q)
theorem in_nI {i : Int32} {n : Nat} (h0 : ¬ i < 0) (h1 : ¬ nI n ≤ i) (hn : n < 2 ^ 31) : vp_in i n := by
  obtain ⟨j, hj, rfl⟩ := nI_of h0
  exact vp_in_nI (Decidable.byContradiction fun q => h1 (nI_le (by omega) hj)) hn
def yK (L : List Nat) (ka : Nat → Nat) (a2 a3 a4 a5 a6 a7 a8 a9 : Nat) : Prop := tp L ka 3 a2 ∧ tp L ka 1 a3 ∧ tp L ka 10 a4 ∧ tp L ka 21 a5 ∧ tp L ka 22 a6 ∧ tp L ka 23 a7 ∧ tp L ka 23 a8 ∧ tp L ka 5 a9
theorem yK.up {L L2 : List Nat} {ka ka2 : Nat → Nat} {a2 a3 a4 a5 a6 a7 a8 a9 : Nat} (h : tX L ka L2 ka2) (g : yK L ka a2 a3 a4 a5 a6 a7 a8 a9) : yK L2 ka2 a2 a3 a4 a5 a6 a7 a8 a9 := ⟨h.tp g.1, h.tp g.2.1, h.tp g.2.2.1, h.tp g.2.2.2.1, h.tp g.2.2.2.2.1, h.tp g.2.2.2.2.2.1, h.tp g.2.2.2.2.2.2.1, h.tp g.2.2.2.2.2.2.2⟩
section CQ
variable {p : Program} {l : Launch} {e : Env} {R : Room} {s : State} {m : MethodId} {args : Array Value} {below : List Frame} {meth : Method} {c : Code} {H : Heap} {locs : List Loc} {cells slots : Nat} {Q : State → Prop} {pc : Nat} {ls : Array Slot} {rest st0 : List Value} {a : Array Value}
theorem cs_q {post : Option Nat → Prop} (hr : va_Run p l e R s m args below meth c H locs cells slots 0 0 (F0 m pc ls st0) rest (va_Sq post a) (fun _ => False))
    (kk : ∀ r : Option Nat, post r → W p l e R s m args below meth c H locs cells slots Q (F0 m (pc + 3) ls (va_rf r :: rest))) : W p l e R s m args below meth c H locs cells slots Q (F0 m pc ls st0) := by
  intro T hT X
  obtain ⟨v, st₀, t, T', L, h0, X', hL, e1, e2, ⟨r, hv, hp, hh⟩, st⟩ := hr T hT X
  cases hv
  obtain ⟨t2, a1, b1⟩ := kk r hp T' (by rw [e1, hh, h0]) (Stand.forget X' (fun q h => (hL q h).elim))
  exact ⟨t2, st t2 a1, b1⟩
end CQ
theorem nz01 {r : Int32} (h : r = 0 ∨ r = 1) : narrow .boolean (.int r) = .int r := by
  rcases h with h | h <;> (subst h; rfl)
theorem tq_up {L : List Nat} {ka : Nat → Nat} {k v i : Nat} {r : Nat → Option Nat} (h : ∀ j, tq L ka k (r j)) (hv : tp L ka k v) : ∀ j, tq L ka k (va_up r i (some v) j) := fun j a ha => by
  by_cases q : j = i
  · subst q; rw [va_up_self] at ha; exact Option.some.inj ha ▸ hv
  · rw [va_up_ne _ _ q] at ha; exact h j a ha
theorem k_in9 {n : Int32} (h1 : ¬ n < 1) (h2 : n ≤ 3) : vp_in (2 + n) 6 := by
  rw [Int32.lt_iff_toInt_lt] at h1
  rw [Int32.le_iff_toInt_le] at h2
  have e1 : (1 : Int32).toInt = 1 := by decide
  have e3 : (3 : Int32).toInt = 3 := by decide
  rw [e1] at h1
  rw [e3] at h2
  have hn : n = nI n.toInt.toNat := by
    apply Int32.toInt_inj.mp
    rw [nI_toInt (by omega)]
    omega
  rw [hn, show (2 : Int32) = nI 2 from rfl, nI_add]
  exact vp_in_nI (by omega) (by decide)
theorem kf_in9 {x : Int32} (h1 : ¬ x < 1) (h2 : x ≤ 3) : vp_in (3 + x - 1) 6 := by
  have h := k_in9 h1 h2
  have e : 3 + x - 1 = 2 + x := by
    apply Int32.toBitVec_inj.mp
    simp
    bv_omega
  rw [e]; exact h
