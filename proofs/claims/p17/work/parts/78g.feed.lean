def mb (p k : Int32) : Int32 := vp_nar .byte ((p >>> (k &&& 31)).toInt8.toInt32)
def cb (p k : Int32) : Int32 := (p.toUInt32 >>> (k.toUInt32 &&& Int32.toUInt32 31)).toInt32 &&& 255
def up4 (a : Nat → Int32) (n : Nat) (b : Int32 → Int32) : Nat → Int32 := upd (upd (upd (upd a n (b 24)) (n + 1) (b 16)) (n + 1 + 1) (b 8)) (n + 1 + 1 + 1) (b 0)
def fd5 (w : Int32 → Int32 → Int32) (a : Nat → Int32) (n : Nat) (p0 p1 p2 p3 p4 : Int32) : Nat → Int32 := up4 (up4 (up4 (up4 (up4 a n (w p0)) (n + 4) (w p1)) (n + 8) (w p2)) (n + 12) (w p3)) (n + 16) (w p4)
def TPr (a t : Nat → Int32) : Prop := ∀ i, a i = t i &&& 255
theorem hi255 : ∀ j, j < 32 → ¬ j < 8 → (255 : Int32).toBitVec.getLsbD j = false := by decide
theorem bx8 (x : Int32) : x.toInt8.toInt32 &&& 255 = x &&& 255 := Int32.toBitVec_inj.mp (BitVec.eq_of_getLsbD_eq fun i hi => by
  rw [Int32.toBitVec_and, Int32.toBitVec_and, BitVec.getLsbD_and, BitVec.getLsbD_and]
  by_cases c : i < 8
  · rw [Int8.toBitVec_toInt32, Int32.toBitVec_toInt8, BitVec.getLsbD_signExtend, BitVec.getLsbD_signExtend]
    simp [c, hi]
  · rw [hi255 i hi c]; simp)
theorem sx8 (x : Int32) (n : Nat) (hn : n = 24 ∨ n = 16 ∨ n = 8 ∨ n = 0) : (x >>> (nI n &&& 31)) &&& 255 = (x.toUInt32 >>> ((nI n).toUInt32 &&& Int32.toUInt32 31)).toInt32 &&& 255 := Int32.toBitVec_inj.mp (BitVec.eq_of_getLsbD_eq fun i hi => by
  rw [Int32.toBitVec_and, Int32.toBitVec_and, BitVec.getLsbD_and, BitVec.getLsbD_and]
  by_cases c : i < 8
  · have e1 : ((nI n &&& 31).toBitVec.smod 32).toNat = n := by rcases hn with h | h | h | h <;> subst h <;> decide +kernel
    have e2 : (((nI n).toUInt32 &&& Int32.toUInt32 31).toBitVec % 32).toNat = n := by rcases hn with h | h | h | h <;> subst h <;> decide +kernel
    have a1 : (x >>> (nI n &&& 31)).toBitVec.getLsbD i = x.toBitVec.getLsbD (n + i) := by
      rw [Int32.toBitVec_shiftRight]
      show (x.toBitVec.sshiftRight ((nI n &&& 31).toBitVec.smod 32).toNat).getLsbD i = _
      rw [e1, BitVec.getLsbD_sshiftRight]
      have z : n + i < 32 := by omega
      simp [hi, z]
    have a2 : (x.toUInt32 >>> ((nI n).toUInt32 &&& Int32.toUInt32 31)).toInt32.toBitVec.getLsbD i = x.toBitVec.getLsbD (n + i) := by
      show (x.toUInt32 >>> ((nI n).toUInt32 &&& Int32.toUInt32 31)).toBitVec.getLsbD i = x.toUInt32.toBitVec.getLsbD (n + i)
      rw [UInt32.toBitVec_shiftRight]
      show (x.toUInt32.toBitVec >>> (((nI n).toUInt32 &&& Int32.toUInt32 31).toBitVec % 32).toNat).getLsbD i = _
      rw [e2, BitVec.getLsbD_ushiftRight]
    rw [a1, a2]
  · rw [hi255 i hi c]; simp)
theorem mb_cb (p : Int32) (n : Nat) (hn : n = 24 ∨ n = 16 ∨ n = 8 ∨ n = 0) : mb p (nI n) &&& 255 = cb p (nI n) := by
  show (p >>> (nI n &&& 31)).toInt8.toInt32.toInt8.toInt32 &&& 255 = _
  rw [bx8, bx8, sx8 p n hn]
  rfl
theorem cb_a (p k : Int32) : cb p k &&& 255 = cb p k := by
  unfold cb
  rw [Int32.and_assoc, show (255 : Int32) &&& 255 = 255 from by decide]
theorem TP_u {a t : Nat → Int32} {n : Nat} {x y : Int32} (h : TPr a t) (e : x = y &&& 255) : TPr (upd a n x) (upd t n y) := fun i => by
  by_cases q : i = n
  · rw [q, up_s, up_s]; exact e
  · rw [up_n q, up_n q]; exact h i
theorem TP_4 {a t : Nat → Int32} {n : Nat} {p : Int32} (h : TPr a t) : TPr (up4 a n (cb p)) (up4 t n (mb p)) :=
  TP_u (TP_u (TP_u (TP_u h (mb_cb p 24 (Or.inl rfl)).symm) (mb_cb p 16 (Or.inr (Or.inl rfl))).symm) (mb_cb p 8 (Or.inr (Or.inr (Or.inl rfl)))).symm) (mb_cb p 0 (Or.inr (Or.inr (Or.inr rfl)))).symm
theorem TP_5 {a t : Nat → Int32} {n : Nat} {p0 p1 p2 p3 p4 : Int32} (h : TPr a t) : TPr (fd5 cb a n p0 p1 p2 p3 p4) (fd5 mb t n p0 p1 p2 p3 p4) := TP_4 (TP_4 (TP_4 (TP_4 (TP_4 h))))
def FDx (w : Int32 → Int32 → Int32) (a b : Nat → Int32) (n n2 : Nat) (p0 p1 p2 p3 p4 : Int32) : Prop := (n2 = n ∧ b = a) ∨ (n2 = n + 20 ∧ b = fd5 w a n p0 p1 p2 p3 p4)
theorem FD_u {a t b f : Nat → Int32} {n m n2 m2 : Nat} {p0 p1 p2 p3 p4 : Int32} (h : TPr a t) (e : n = m) (e2 : n2 = m2) (C : FDx cb a b n n2 p0 p1 p2 p3 p4) (M : FDx mb t f m m2 p0 p1 p2 p3 p4) : TPr b f := by
  subst e; subst e2
  rcases C with ⟨c1, c2⟩ | ⟨c1, c2⟩
  · rcases M with ⟨m1, m2⟩ | ⟨m1, m2⟩
    · rw [c2, m2]; exact h
    · omega
  · rcases M with ⟨m1, m2⟩ | ⟨m1, m2⟩
    · omega
    · rw [c2, m2]; exact TP_5 h
