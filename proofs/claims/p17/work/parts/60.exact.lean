def tyC (cs : Nat → ClassId) : List (ClassId × FieldType) := [(cs 0, .int), (cs 1, .boolean), (cs 2, .array .int), (cs 3, .object "YamRiders$Horse"), (cs 4, .object "YamRiders$Tablet"), (cs 5, .object "YamRiders$Rider")]
theorem pl_at {X : va_W} {L : List Nat} {f : Nat → va_E} {a : Nat} {e : va_E} (h : a ∈ L) (he : f a = e) : ∃ k : Nat, (X ++ va_pl L f)[k]? = some (a, e) := by
  rw [← he]; exact va_pl_get h
theorem pl_st {A : Nat → Prop} {X : va_W} {L : List Nat} {f : Nat → va_E} {a k : Nat} {e : va_E} (e2 : va_E) (hD : va_D A (X ++ va_pl L f)) (h : a ∈ L) (he : f a = e) (hk : (X ++ va_pl L f)[k]? = some (a, e)) : (X ++ va_pl L f).set k (a, e2) = X ++ va_pl L (va_up f a e2) := va_pl_set hD h (by rw [he]; exact hk)
theorem in_lt {i : Int32} {n : Nat} (h : vp_in i n) : i.toNatClampNeg < n := Nat.not_le.mp fun q => h (Or.inr q)
theorem in_nI {i : Int32} {n : Nat} (h0 : ¬ i < 0) (h1 : ¬ nI n ≤ i) (hn : n < 2 ^ 31) : vp_in i n := by
  obtain ⟨j, hj, rfl⟩ := nI_of h0
  exact vp_in_nI (Decidable.byContradiction fun q => h1 (nI_le (by omega) hj)) hn
section CQ
variable {p : Program} {l : Launch} {e : Env} {R : Room} {s : State} {m : MethodId} {args : Array Value} {below : List Frame} {meth : Method} {c : Code} {H : Heap} {locs : List Loc} {cells slots : Nat} {Q : State → Prop} {pc : Nat} {ls : Array Slot} {rest st0 : List Value} {a : Array Value}
theorem cs_q {post : Option Nat → Prop} (hr : va_Run p l e R s m args below meth c H locs cells slots 0 0 (F0 m pc ls st0) rest (va_Sq post a) (fun _ => False))
    (kk : ∀ r : Option Nat, post r → W p l e R s m args below meth c H locs cells slots Q (F0 m (pc + 3) ls (va_rf r :: rest))) : W p l e R s m args below meth c H locs cells slots Q (F0 m pc ls st0) := by
  intro T hT X
  obtain ⟨v, st₀, t, T', L, h0, X', hL, e1, e2, ⟨r, hv, hp, hh⟩, st⟩ := hr T hT X
  cases hv
  obtain ⟨t2, a1, b1⟩ := kk r hp T' (by rw [e1, hh, h0]) (Stand.forget X' (fun q h => (hL q h).elim))
  exact ⟨t2, st t2 a1, b1⟩
end CQ
theorem nz01 {r : Int32} (h : r = 0 ∨ r = 1) : narrow .boolean (.int r) = .int r := by
  rcases h with h | h <;> (subst h; rfl)
theorem k_in9 {n : Int32} (h1 : ¬ n < 1) (h2 : n ≤ 3) : vp_in (2 + n) 6 := by
  rw [Int32.lt_iff_toInt_lt] at h1
  rw [Int32.le_iff_toInt_le] at h2
  have e1 : (1 : Int32).toInt = 1 := by decide
  have e3 : (3 : Int32).toInt = 3 := by decide
  rw [e1] at h1
  rw [e3] at h2
  have hn : n = nI n.toInt.toNat := by
    apply Int32.toInt_inj.mp
    rw [nI_toInt (by omega)]
    omega
  rw [hn, show (2 : Int32) = nI 2 from rfl, nI_add]
  exact vp_in_nI (by omega) (by decide)
theorem kf_in9 {x : Int32} (h1 : ¬ x < 1) (h2 : x ≤ 3) : vp_in (3 + x - 1) 6 := by
  have h := k_in9 h1 h2
  have e : 3 + x - 1 = 2 + x := by
    apply Int32.toBitVec_inj.mp
    simp
    bv_omega
  rw [e]; exact h
def oq (ad : Nat → Nat → Nat) (k : Nat) (x : Int32) : Option Nat := if x = -1 then none else some (ad k x.toNatClampNeg)
def gl (ad : Nat → Nat → Nat) (k n : Nat) : Nat → Option Nat := fun i => if i < n then some (ad k i) else none
def up3 (S : Nat → Nat → Nat → Int32) (c i j : Nat) (v : Int32) : Nat → Nat → Nat → Int32 := fun c' i' j' => if c' = c ∧ i' = i ∧ j' = j then v else S c' i' j'
def EN (ad : Nat → Nat → Nat) (cs : Nat → ClassId) (n0 n6 n2 : Nat) (S : Nat → Nat → Nat → Int32) (k i : Nat) : va_E :=
  match k with
  | 0 => .inr (0, [.int (nI i), .int (S 1 i 0), .int (S 2 i 0)])
  | 1 => .inr (1, [.ref (ad 41 0), .ref (ad 42 0), .ref (ad 43 0), .ref (ad 44 0)])
  | 2 => .inr (2, [.int (S 32 i 0), .int (S 33 i 0), .ref (ad 37 i), .ref (ad 36 i), .int (S 36 i 0), .int (S 37 i 0), .int (S 38 i 0), va_rf (oq ad 0 (S 39 i 0)), .int (S 40 i 0), .int (S 41 i 0)])
  | 3 => .inr (3, [.ref (ad 24 0), .ref (ad 25 0), .ref (ad 31 0), .ref (ad 32 0), .ref (ad 33 0)])
  | 5 => .inr (5, [.ref (ad 14 i)])
  | 6 => .inr (6, [.int (S 96 i 0), .ref (ad 35 i)])
  | 14 => .inl (cs 0, 6, .inl (S 224 i))
  | 21 => .inl (cs 3, 60, .inr (.inr (.inr (.inr (gl ad 0 n0)))))
  | 22 => .inl (cs 4, 20, .inr (.inr (.inr (.inr (gl ad 6 n6)))))
  | 23 => .inl (cs 5, 60, .inr (.inr (.inr (.inr (gl ad 2 n2)))))
  | 24 => .inl (cs 2, 12, .inr (.inr (.inr (.inr (gl ad 26 12)))))
  | 25 => .inl (cs 2, 12, .inr (.inr (.inr (.inr (gl ad 27 12)))))
  | 26 => .inl (cs 0, 12, .inl (S 416 i))
  | 27 => .inl (cs 0, 12, .inl (S 432 i))
  | 28 => .inl (cs 5, 60, .inr (.inr (.inr (.inr (fun j => oq ad 2 (S 448 i j))))))
  | 30 => .inl (cs 0, 12, .inl (S 480 i))
  | 31 => .inl (cs 0, 12, .inl (S 496 i))
  | 32 => .inl (cs 1, 12, .inl (S 512 i))
  | 33 => .inl (cs 0, 12, .inl (S 528 i))
  | 35 => .inl (cs 0, 12, .inl (S 560 i))
  | 36 => .inl (cs 0, 12, .inl (S 576 i))
  | 37 => .inl (cs 0, (S 593 i 0).toNatClampNeg, .inl (S 592 i))
  | 38 => .inl (cs 0, (S 609 i 0).toNatClampNeg, .inl (S 608 i))
  | 41 => .inl (cs 0, 12, .inl (S 656 i))
  | 42 => .inl (cs 2, 12, .inr (.inr (.inr (.inr (gl ad 45 12)))))
  | 43 => .inl (cs 0, 12, .inl (S 688 i))
  | 44 => .inl (cs 0, 12, .inl (S 704 i))
  | 45 => .inl (cs 0, 12, .inl (S 720 i))
  | _ => .inr (0, [])
theorem oq_n {ad : Nat → Nat → Nat} {k : Nat} {x : Int32} (h : x = -1) : oq ad k x = none := if_pos h
theorem nI_m {h : Nat} (hh : h < 2 ^ 31) : ¬ nI h = -1 := fun q => by
  have e := congrArg Int32.toInt q
  rw [nI_toInt hh, show (-1 : Int32).toInt = -1 from rfl] at e
  omega
theorem oq_s {ad : Nat → Nat → Nat} {k h : Nat} (hh : h < 2 ^ 31) : oq ad k (nI h) = some (ad k h) := by
  unfold oq
  rw [if_neg (nI_m hh), nI_clamp hh]
theorem gl_p {ad : Nat → Nat → Nat} {k n i : Nat} (h : i < n) : gl ad k n i = some (ad k i) := if_pos h
theorem gl_n {ad : Nat → Nat → Nat} {k n i : Nat} (h : ¬ i < n) : gl ad k n i = none := if_neg h
theorem up3_o {S : Nat → Nat → Nat → Int32} {c i j c' i' : Nat} {v : Int32} (h : ¬ (c' = c ∧ i' = i)) : up3 S c i j v c' i' = S c' i' := funext fun _ => if_neg (fun q => h ⟨q.1, q.2.1⟩)
theorem up3_c {S : Nat → Nat → Nat → Int32} {c i j c' : Nat} {v : Int32} (h : ¬ c' = c) : up3 S c i j v c' = S c' := funext fun _ => up3_o (fun q => h q.1)
theorem up3_s {S : Nat → Nat → Nat → Int32} {c i j : Nat} {v : Int32} : up3 S c i j v c i j = v := if_pos ⟨rfl, rfl, rfl⟩
theorem up3_a {S : Nat → Nat → Nat → Int32} {c i j : Nat} {v : Int32} : up3 S c i j v c i = upd (S c i) j v := funext fun j' => by
  show (if c = c ∧ i = i ∧ j' = j then v else S c i j') = if j' = j then v else S c i j'
  by_cases q : j' = j
  · rw [if_pos ⟨rfl, rfl, q⟩, if_pos q]
  · rw [if_neg (fun z => q z.2.2), if_neg q]
theorem EN_cg {ad : Nat → Nat → Nat} {cs : Nat → ClassId} {n0 n6 n2 : Nat} {S T : Nat → Nat → Nat → Int32} {k i : Nat} (h : ∀ c, c / 16 = k → T c i = S c i) : EN ad cs n0 n6 n2 T k i = EN ad cs n0 n6 n2 S k i := by
  unfold EN
  split
  · rw [h 1 (by decide), h 2 (by decide)]
  · rfl
  · rw [h 32 (by decide), h 33 (by decide), h 36 (by decide), h 37 (by decide), h 38 (by decide), h 39 (by decide), h 40 (by decide), h 41 (by decide)]
  · rfl
  · rfl
  · rw [h 96 (by decide)]
  · rw [h 224 (by decide)]
  · rfl
  · rfl
  · rfl
  · rfl
  · rfl
  · rw [h 416 (by decide)]
  · rw [h 432 (by decide)]
  · rw [h 448 (by decide)]
  · rw [h 480 (by decide)]
  · rw [h 496 (by decide)]
  · rw [h 512 (by decide)]
  · rw [h 528 (by decide)]
  · rw [h 560 (by decide)]
  · rw [h 576 (by decide)]
  · rw [h 592 (by decide), h 593 (by decide)]
  · rw [h 608 (by decide), h 609 (by decide)]
  · rw [h 656 (by decide)]
  · rfl
  · rw [h 688 (by decide)]
  · rw [h 704 (by decide)]
  · rw [h 720 (by decide)]
  · rfl
theorem EN_up {ad : Nat → Nat → Nat} {cs : Nat → ClassId} {n0 n6 n2 : Nat} {S : Nat → Nat → Nat → Int32} {k i c i0 j : Nat} {v : Int32} (h : ¬ (k = c / 16 ∧ i = i0)) : EN ad cs n0 n6 n2 (up3 S c i0 j v) k i = EN ad cs n0 n6 n2 S k i := EN_cg fun c' e => up3_o (fun q => h ⟨by rw [← e, q.1], q.2⟩)
def tpx (L : List Nat) (ka ix : Nat → Nat) (k i a : Nat) : Prop := a ∈ L ∧ ka a = k ∧ ix a = i
def dm (n0 n6 n2 k i : Nat) : Prop := (k = 0 ∧ i < n0) ∨ ((k = 6 ∨ k = 35) ∧ i < n6) ∨ ((k = 2 ∨ k = 36 ∨ k = 37) ∧ i < n2) ∨ ((k = 26 ∨ k = 27 ∨ k = 45) ∧ i < 12) ∨ (i = 0 ∧ k ∈ [1, 3, 21, 22, 23, 24, 25, 28, 30, 31, 32, 33, 41, 42, 43, 44])
def tE (L : List Nat) (ka ix : Nat → Nat) (ad : Nat → Nat → Nat) (cs : Nat → ClassId) (n0 n6 n2 : Nat) (S : Nat → Nat → Nat → Int32) (f : Nat → va_E) : Prop := ∀ a ∈ L, f a = EN ad cs n0 n6 n2 S (ka a) (ix a)
def kd (n0 n6 n2 k i : Nat) : Prop := dm n0 n6 n2 k i ∨ k = 5 ∨ k = 14 ∨ k = 38
def tM (L : List Nat) (ka ix : Nat → Nat) (ad : Nat → Nat → Nat) (n0 n6 n2 : Nat) : Prop := (∀ a ∈ L, a = ad (ka a) (ix a) ∧ kd n0 n6 n2 (ka a) (ix a)) ∧ ∀ k i, dm n0 n6 n2 k i → tpx L ka ix k i (ad k i)
def wf (n0 n6 n2 : Nat) (S : Nat → Nat → Nat → Int32) : Prop := (n0 ≤ 60 ∧ n6 ≤ 20 ∧ n2 ≤ 60) ∧ (∀ r, r < n2 → (∃ w, w ≤ 12 ∧ S 593 r 0 = nI w) ∧ (S 39 r 0 = -1 ∨ ∃ h, h < n0 ∧ S 39 r 0 = nI h)) ∧ ∀ j, S 448 0 j = -1 ∨ ∃ r, r < n2 ∧ S 448 0 j = nI r
def tB (L : List Nat) (ka ix : Nat → Nat) (ad : Nat → Nat → Nat) (cs : Nat → ClassId) (n0 n6 n2 : Nat) (S : Nat → Nat → Nat → Int32) (f : Nat → va_E) : Prop := tE L ka ix ad cs n0 n6 n2 S f ∧ tM L ka ix ad n0 n6 n2 ∧ wf n0 n6 n2 S
section TB
variable {ad : Nat → Nat → Nat} {cs : Nat → ClassId} {n0 n6 n2 : Nat} {S : Nat → Nat → Nat → Int32} {L : List Nat} {ka ix : Nat → Nat} {f : Nat → va_E}
theorem tB.get {k i a : Nat} (h : tB L ka ix ad cs n0 n6 n2 S f) (ha : tpx L ka ix k i a) : f a = EN ad cs n0 n6 n2 S k i := by
  have e := h.1 a ha.1
  rw [ha.2.1, ha.2.2] at e
  exact e
theorem tB.adr {k i a : Nat} (h : tB L ka ix ad cs n0 n6 n2 S f) (ha : tpx L ka ix k i a) : a = ad k i := by
  have e := (h.2.1.1 a ha.1).1
  rw [ha.2.1, ha.2.2] at e
  exact e
theorem tB.k0 {i : Nat} (h : tB L ka ix ad cs n0 n6 n2 S f) (hi : i < n0) : tpx L ka ix 0 i (ad 0 i) := h.2.1.2 _ _ (Or.inl ⟨rfl, hi⟩)
theorem tB.k6 {i : Nat} (h : tB L ka ix ad cs n0 n6 n2 S f) (hi : i < n6) : tpx L ka ix 6 i (ad 6 i) := h.2.1.2 _ _ (Or.inr (Or.inl ⟨by decide, hi⟩))
theorem tB.k35 {i : Nat} (h : tB L ka ix ad cs n0 n6 n2 S f) (hi : i < n6) : tpx L ka ix 35 i (ad 35 i) := h.2.1.2 _ _ (Or.inr (Or.inl ⟨by decide, hi⟩))
theorem tB.k2 {i : Nat} (h : tB L ka ix ad cs n0 n6 n2 S f) (hi : i < n2) : tpx L ka ix 2 i (ad 2 i) := h.2.1.2 _ _ (Or.inr (Or.inr (Or.inl ⟨by decide, hi⟩)))
theorem tB.k36 {i : Nat} (h : tB L ka ix ad cs n0 n6 n2 S f) (hi : i < n2) : tpx L ka ix 36 i (ad 36 i) := h.2.1.2 _ _ (Or.inr (Or.inr (Or.inl ⟨by decide, hi⟩)))
theorem tB.k37 {i : Nat} (h : tB L ka ix ad cs n0 n6 n2 S f) (hi : i < n2) : tpx L ka ix 37 i (ad 37 i) := h.2.1.2 _ _ (Or.inr (Or.inr (Or.inl ⟨by decide, hi⟩)))
theorem tB.k26 {i : Nat} (h : tB L ka ix ad cs n0 n6 n2 S f) (hi : i < 12) : tpx L ka ix 26 i (ad 26 i) := h.2.1.2 _ _ (Or.inr (Or.inr (Or.inr (Or.inl ⟨by decide, hi⟩))))
theorem tB.k27 {i : Nat} (h : tB L ka ix ad cs n0 n6 n2 S f) (hi : i < 12) : tpx L ka ix 27 i (ad 27 i) := h.2.1.2 _ _ (Or.inr (Or.inr (Or.inr (Or.inl ⟨by decide, hi⟩))))
theorem tB.k45 {i : Nat} (h : tB L ka ix ad cs n0 n6 n2 S f) (hi : i < 12) : tpx L ka ix 45 i (ad 45 i) := h.2.1.2 _ _ (Or.inr (Or.inr (Or.inr (Or.inl ⟨by decide, hi⟩))))
theorem tB.kf {k : Nat} (h : tB L ka ix ad cs n0 n6 n2 S f) (hk : k ∈ [1, 3, 21, 22, 23, 24, 25, 28, 30, 31, 32, 33, 41, 42, 43, 44]) : tpx L ka ix k 0 (ad k 0) := h.2.1.2 _ _ (Or.inr (Or.inr (Or.inr (Or.inr ⟨rfl, hk⟩))))
theorem tB.b0 (h : tB L ka ix ad cs n0 n6 n2 S f) : n0 ≤ 60 := h.2.2.1.1
theorem tB.b6 (h : tB L ka ix ad cs n0 n6 n2 S f) : n6 ≤ 20 := h.2.2.1.2.1
theorem tB.b2 (h : tB L ka ix ad cs n0 n6 n2 S f) : n2 ≤ 60 := h.2.2.1.2.2
theorem tB.wl {r : Nat} (h : tB L ka ix ad cs n0 n6 n2 S f) (hr : r < n2) : ∃ w, w ≤ 12 ∧ S 593 r 0 = nI w := (h.2.2.2.1 r hr).1
theorem tB.ho {r : Nat} (h : tB L ka ix ad cs n0 n6 n2 S f) (hr : r < n2) (c : ¬ S 39 r 0 = -1) : ∃ h8, h8 < n0 ∧ S 39 r 0 = nI h8 := (h.2.2.2.1 r hr).2.resolve_left c
theorem tB.li {j : Nat} (h : tB L ka ix ad cs n0 n6 n2 S f) (c : ¬ S 448 0 j = -1) : ∃ r8, r8 < n2 ∧ S 448 0 j = nI r8 := (h.2.2.2.2 j).resolve_left c
theorem tB.put {T : Nat → Nat → Nat → Int32} {k i a : Nat} {e : va_E} (h : tB L ka ix ad cs n0 n6 n2 S f) (ha : tpx L ka ix k i a) (hw : wf n0 n6 n2 T) (hT : ∀ k' i', ¬ (k' = k ∧ i' = i) → EN ad cs n0 n6 n2 T k' i' = EN ad cs n0 n6 n2 S k' i') (he : EN ad cs n0 n6 n2 T k i = e) : tB L ka ix ad cs n0 n6 n2 T (va_up f a e) := by
  refine ⟨fun b hb => ?_, h.2.1, hw⟩
  by_cases q : b = a
  · subst q; rw [va_up_self, ha.2.1, ha.2.2]; exact he.symm
  · rw [va_up_ne _ _ q, hT _ _ (fun z => q ?_)]
    · exact h.1 b hb
    · rw [(h.2.1.1 b hb).1, z.1, z.2]; exact (h.adr ha).symm
theorem tB.up {k i a c j : Nat} {v : Int32} {e : va_E} (h : tB L ka ix ad cs n0 n6 n2 S f) (ha : tpx L ka ix k i a) (hc : c / 16 = k) (hw : wf n0 n6 n2 (up3 S c i j v)) (he : EN ad cs n0 n6 n2 (up3 S c i j v) k i = e) : tB L ka ix ad cs n0 n6 n2 (up3 S c i j v) (va_up f a e) := h.put ha hw (fun k' i' q => EN_up (fun z => q ⟨z.1.trans hc, z.2⟩)) he
theorem wf.up {c i j : Nat} {v : Int32} (h : wf n0 n6 n2 S) (h1 : ¬ 593 = c) (h2 : ¬ 39 = c) (h3 : ¬ 448 = c) : wf n0 n6 n2 (up3 S c i j v) := by
  refine ⟨h.1, fun r hr => ?_, fun j => ?_⟩
  · rw [up3_c h1, up3_c h2]; exact h.2.1 r hr
  · rw [up3_c h3]; exact h.2.2 j
theorem wf.ho {r0 : Nat} {v : Int32} (h : wf n0 n6 n2 S) (hv : v = -1 ∨ ∃ h8, h8 < n0 ∧ v = nI h8) : wf n0 n6 n2 (up3 S 39 r0 0 v) := by
  refine ⟨h.1, fun r hr => ?_, fun j => ?_⟩
  · rw [up3_c (by decide)]
    refine ⟨(h.2.1 r hr).1, ?_⟩
    by_cases q : r = r0
    · subst q; rw [up3_s]; exact hv
    · rw [up3_o (fun z => q z.2)]; exact (h.2.1 r hr).2
  · rw [up3_c (by decide)]; exact h.2.2 j
theorem wf.li {j0 : Nat} {v : Int32} (h : wf n0 n6 n2 S) (hv : v = -1 ∨ ∃ r8, r8 < n2 ∧ v = nI r8) : wf n0 n6 n2 (up3 S 448 0 j0 v) := by
  refine ⟨h.1, fun r hr => ?_, fun j => ?_⟩
  · rw [up3_c (by decide), up3_c (by decide)]; exact h.2.1 r hr
  · by_cases q : j = j0
    · subst q; rw [up3_s]; exact hv
    · rw [up3_a]
      show (if j = j0 then v else S 448 0 j) = -1 ∨ ∃ r8, r8 < n2 ∧ (if j = j0 then v else S 448 0 j) = nI r8
      rw [if_neg q]; exact h.2.2 j
theorem oq_m1 {k : Nat} : oq ad k (-1) = none := if_pos rfl
theorem li_e {j0 r : Nat} (hr : r < 2 ^ 31) : EN ad cs n0 n6 n2 (up3 S 448 0 j0 (nI r)) 28 0 = .inl (cs 5, 60, .inr (.inr (.inr (.inr (va_up (fun j => oq ad 2 (S 448 0 j)) j0 (some (ad 2 r))))))) := by
  have e : (fun j => oq ad 2 (up3 S 448 0 j0 (nI r) 448 0 j)) = va_up (fun j => oq ad 2 (S 448 0 j)) j0 (some (ad 2 r)) := funext fun j => by
    by_cases q : j = j0
    · subst q; rw [va_up_self, up3_s, oq_s hr]
    · rw [va_up_ne _ _ q, up3_a]
      show oq ad 2 (if j = j0 then nI r else S 448 0 j) = _
      rw [if_neg q]
  show Sum.inl (cs 5, 60, Sum.inr (Sum.inr (Sum.inr (Sum.inr (fun j => oq ad 2 (up3 S 448 0 j0 (nI r) 448 0 j)))))) = _
  rw [e]
end TB
theorem st_nz {k : Nat} (h : k < 12) : ¬ sp_st (nI k) = 0 := by
  unfold sp_st
  rw [if_neg (nI_pos (by omega)), if_neg (show ¬ (12 : Int32) ≤ nI k from nI_ge h (by decide))]
  decide
def FR (S T : Nat → Nat → Nat → Int32) : Prop := T 416 = S 416 ∧ T 432 = S 432
theorem FR.rf {S : Nat → Nat → Nat → Int32} : FR S S := ⟨rfl, rfl⟩
theorem FR.tr {S T U : Nat → Nat → Nat → Int32} (h : FR S T) (g : FR T U) : FR S U := ⟨g.1.trans h.1, g.2.trans h.2⟩
theorem FR.up {S T : Nat → Nat → Nat → Int32} {c i j : Nat} {v : Int32} (h : FR S T) (h1 : ¬ 416 = c) (h2 : ¬ 432 = c) : FR S (up3 T c i j v) := ⟨(up3_c h1).trans h.1, (up3_c h2).trans h.2⟩
def eX (L : List Nat) (ka ix : Nat → Nat) (L2 : List Nat) (ka2 ix2 : Nat → Nat) : Prop := ∀ k i a, ¬ k = 38 → tpx L ka ix k i a → tpx L2 ka2 ix2 k i a
def eS (L : List Nat) (ka ix : Nat → Nat) (L2 : List Nat) (ka2 ix2 : Nat → Nat) : Prop := ∀ k i a, tpx L ka ix k i a → tpx L2 ka2 ix2 k i a
theorem eS.x {L L2 : List Nat} {ka ix ka2 ix2 : Nat → Nat} (h : eS L ka ix L2 ka2 ix2) : eX L ka ix L2 ka2 ix2 := fun k i a _ => h k i a
theorem eX.tr {L L2 L3 : List Nat} {ka ix ka2 ix2 ka3 ix3 : Nat → Nat} (h : eX L ka ix L2 ka2 ix2) (g : eX L2 ka2 ix2 L3 ka3 ix3) : eX L ka ix L3 ka3 ix3 := fun k i a z q => g k i a z (h k i a z q)
def yX (L : List Nat) (ka ix : Nat → Nat) (ad : Nat → Nat → Nat) (gq a2 a3 a4 a5 a6 a7 a8 a9 : Nat) : Prop := tpx L ka ix 3 0 a2 ∧ tpx L ka ix 1 0 a3 ∧ tpx L ka ix 30 0 a4 ∧ tpx L ka ix 21 0 a5 ∧ tpx L ka ix 22 0 a6 ∧ tpx L ka ix 23 0 a7 ∧ tpx L ka ix 28 0 a8 ∧ tpx L ka ix 5 gq a9 ∧ tpx L ka ix 14 gq (ad 14 gq)
theorem yX.up {L L2 : List Nat} {ka ix ka2 ix2 : Nat → Nat} {ad ad2 : Nat → Nat → Nat} {cs : Nat → ClassId} {n0 n6 n2 : Nat} {S : Nat → Nat → Nat → Int32} {f : Nat → va_E} {gq a2 a3 a4 a5 a6 a7 a8 a9 : Nat} (h : eX L ka ix L2 ka2 ix2) (hT : tB L2 ka2 ix2 ad2 cs n0 n6 n2 S f) (g : yX L ka ix ad gq a2 a3 a4 a5 a6 a7 a8 a9) : yX L2 ka2 ix2 ad2 gq a2 a3 a4 a5 a6 a7 a8 a9 := by
  obtain ⟨g1, g2, g3, g4, g5, g6, g7, g8, g9⟩ := g
  have e := h _ _ _ (by decide) g9
  refine ⟨h _ _ _ (by decide) g1, h _ _ _ (by decide) g2, h _ _ _ (by decide) g3, h _ _ _ (by decide) g4, h _ _ _ (by decide) g5, h _ _ _ (by decide) g6, h _ _ _ (by decide) g7, h _ _ _ (by decide) g8, ?_⟩
  rw [hT.adr e] at e
  exact e
theorem nat_lt2 {x : Int32} {n : Nat} (h0 : ¬ x < 0) (h1 : ¬ nI n ≤ x) (hn : n < 2 ^ 31) : ∃ j : Nat, j < n ∧ x = nI j := by
  obtain ⟨j, hj, rfl⟩ := nI_of h0
  exact ⟨j, Decidable.byContradiction fun q => h1 (nI_le (by omega) hj), rfl⟩
theorem vin_n {x : Int32} {n : Nat} (h : vp_in x n) : ∃ j : Nat, j < n ∧ x = nI j := by
  have h' := vp_in_iff.mp h
  have h2 := Int32.toInt_lt x
  refine ⟨x.toInt.toNat, by omega, ?_⟩
  apply Int32.toInt_inj.mp
  rw [nI_toInt (by omega)]
  omega
def hOf (n : Nat) (p : Int32) : Int32 := if p < 0 then -1 else if nI n ≤ p then -1 else p
theorem hOf_a {ad : Nat → Nat → Nat} {k n : Nat} {p : Int32} (c : p < 0) : none = oq ad k (hOf n p) := by
  unfold hOf; rw [if_pos c]; exact oq_m1.symm
theorem hOf_b {ad : Nat → Nat → Nat} {k n N : Nat} {p : Int32} (hn : n ≤ N) (hN : N < 2 ^ 31) (c : nI N ≤ p) : none = oq ad k (hOf n p) := by
  unfold hOf
  by_cases h : p < 0
  · rw [if_pos h]; exact oq_m1.symm
  · rw [if_neg h, if_pos (Int32.le_trans (nI_le hn hN) c)]; exact oq_m1.symm
theorem hOf_c {ad : Nat → Nat → Nat} {k n u : Nat} (hu : u < 2 ^ 31) (c : ¬ u < n) : none = oq ad k (hOf n (nI u)) := by
  unfold hOf
  rw [if_neg (nI_pos hu), if_pos (nI_le (by omega) hu)]; exact oq_m1.symm
theorem hOf_d {ad : Nat → Nat → Nat} {k n u : Nat} (hn : n < 2 ^ 31) (c : u < n) : some (ad k u) = oq ad k (hOf n (nI u)) := by
  unfold hOf
  rw [if_neg (nI_pos (by omega)), if_neg (nI_ge c hn)]
  exact (oq_s (by omega)).symm
theorem hOf_o {n : Nat} {p : Int32} (hn : n < 2 ^ 31) (c : ¬ hOf n p = -1) : ∃ u, u < n ∧ hOf n p = nI u := by
  unfold hOf at c ⊢
  by_cases h : p < 0
  · rw [if_pos h] at c; exact absurd rfl c
  · rw [if_neg h] at c ⊢
    by_cases h2 : nI n ≤ p
    · rw [if_pos h2] at c; exact absurd rfl c
    · rw [if_neg h2]
      exact nat_lt2 h h2 hn
