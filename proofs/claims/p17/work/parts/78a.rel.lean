def bt (x : Int32) (i : Nat) : Bool := x.toBitVec.getLsbD i
theorem b_ext {x y : Int32} (h : ∀ i, i < 32 → bt x i = bt y i) : x = y := Int32.toBitVec_inj.mp (BitVec.eq_of_getLsbD_eq (fun i hi => h i hi))
theorem b_or (x y : Int32) (i : Nat) : bt (x ||| y) i = (bt x i || bt y i) := by unfold bt; rw [Int32.toBitVec_or, BitVec.getLsbD_or]
theorem b_and (x y : Int32) (i : Nat) : bt (x &&& y) i = (bt x i && bt y i) := by unfold bt; rw [Int32.toBitVec_and, BitVec.getLsbD_and]
theorem b_0 (i : Nat) : bt 0 i = false := BitVec.getLsbD_zero
theorem s_l : ∀ n, n < 32 → ((nI n &&& 31).toBitVec.smod 32).toNat = n := by decide +kernel
theorem b_shl (n : Nat) (hn : n < 32) (x : Int32) {i : Nat} (hi : i < 32) : bt (x <<< (nI n &&& 31)) i = (decide (n ≤ i) && bt x (i - n)) := by
  unfold bt
  rw [Int32.toBitVec_shiftLeft]
  show (x.toBitVec <<< ((nI n &&& 31).toBitVec.smod 32).toNat).getLsbD i = _
  rw [s_l n hn, BitVec.getLsbD_shiftLeft]
  rcases Nat.lt_or_ge i n with h | h
  · simp [h, Nat.not_le.mpr h]
  · simp [hi, h, Nat.not_lt.mpr h]
theorem b_sshr (n : Nat) (hn : n < 32) (x : Int32) {i : Nat} (hi : i < 32) : bt (x >>> (nI n &&& 31)) i = if n + i < 32 then bt x (n + i) else bt x 31 := by
  unfold bt
  rw [Int32.toBitVec_shiftRight]
  show (x.toBitVec.sshiftRight ((nI n &&& 31).toBitVec.smod 32).toNat).getLsbD i = _
  rw [s_l n hn, BitVec.getLsbD_sshiftRight, BitVec.msb_eq_getLsbD_last]
  simp [hi]
theorem b_1 : ∀ i, i < 32 → bt 1 i = decide (i = 0) := by decide +kernel
theorem bit_q {x : Int32} {k : Nat} (hk : k < 32) : (x >>> (nI k &&& 31)) &&& 1 = 1 ↔ bt x k = true := by
  have e0 : bt ((x >>> (nI k &&& 31)) &&& 1) 0 = bt x k := by
    rw [b_and, b_sshr k hk x (by decide), b_1 0 (by decide), if_pos (by omega), Nat.add_zero]; simp
  constructor
  · intro h; rw [← e0, h]; decide
  · intro h
    apply b_ext
    intro i hi
    by_cases q : i = 0
    · subst q; rw [e0, h]; decide
    · rw [b_and, b_1 i hi, decide_eq_false q, Bool.and_false]
theorem bit_or {x : Int32} {k i : Nat} (hk : k < 32) (hi : i < 32) : bt (x ||| (1 <<< (nI k &&& 31))) i = (bt x i || decide (i = k)) := by
  rw [b_or, b_shl k hk 1 hi]
  by_cases q : i = k
  · subst q
    rw [Nat.sub_self, b_1 0 (by decide)]; simp
  · rw [decide_eq_false q]
    by_cases z : k ≤ i
    · rw [b_1 (i - k) (by omega), decide_eq_false (show ¬ i - k = 0 by omega)]; simp
    · rw [decide_eq_false z]; simp
theorem upd_id {f : Nat → Int32} {k : Nat} : upd f k (f k) = f := funext fun j => by
  by_cases q : j = k
  · rw [q, up_s]
  · rw [up_n q]
def RH (S : Nat → Nat → Nat → Int32) (n : Nat) (sd sg : Nat → Int32) : Prop := ∀ h, h < n → sd h = S 1 h 0 ∧ sg h = S 2 h 0
def RFo (S : Nat → Nat → Nat → Int32) (fo : Nat → Int32) : Prop := ∀ s, s < 12 → fo s = S 480 0 s
def RT (S : Nat → Nat → Nat → Int32) (n : Nat) (rk vs : Nat → Int32) : Prop := ∀ t, t < n → rk t = S 96 t 0 ∧ ∀ s, s < 12 → vs (12 * t + s) = S 560 t s
def RLw (S : Nat → Nat → Nat → Int32) (g : Nat) (lw : Nat → Int32) : Prop := ∀ k, k < 6 → lw k = S 224 g k
def RQr (S : Nat → Nat → Nat → Int32) (r : Nat) (tb sa co ci ho du ti wm lo : Int32) : Prop := tb = S 32 r 0 ∧ sa = S 36 r 0 ∧ co = S 37 r 0 ∧ ci = S 38 r 0 ∧ ho = S 39 r 0 ∧ (¬ S 39 r 0 = -1 → du = S 40 r 0 + S 41 r 0) ∧ (¬ S 39 r 0 = -1 → ti = S 41 r 0) ∧ wm = S 593 r 0 ∧ ((¬ lo = 0) ↔ (S 36 r 0 = 4 ∧ ¬ S 39 r 0 = -1))
def RQ (S : Nat → Nat → Nat → Int32) (n : Nat) (tb sa co ci ho du ti wm lo : Nat → Int32) : Prop := ∀ r, r < n → RQr S r (tb r) (sa r) (co r) (ci r) (ho r) (du r) (ti r) (wm r) (lo r)
def RWy (S : Nat → Nat → Nat → Int32) (n : Nat) (wa ns : Nat → Int32) : Prop := ∀ r, r < n → (∀ k, k < 12 → nI k < S 593 r 0 → wa (12 * r + k) = S 592 r k) ∧ ∀ s, s < 12 → ns (12 * r + s) = S 576 r s
def RBr (S : Nat → Nat → Nat → Int32) (n2 n6 : Nat) (br : Nat → Int32) : Prop := ∀ r, r < n2 → S 36 r 0 = 1 → ∀ k, k < 20 → (bt (br r) k = true ↔ k < n6 ∧ ¬ wvS S k (sSW S r (S 37 r 0 - 1)) (S 40 r 0) = 0)
theorem RH.s2 {S : Nat → Nat → Nat → Int32} {n h : Nat} {sd sg : Nat → Int32} {v : Int32} (H : RH S n sd sg) : RH (up3 S 2 h 0 v) n sd (upd sg h v) := fun x hx => by
  rw [up3_c (by decide)]
  refine ⟨(H x hx).1, ?_⟩
  by_cases q : x = h
  · rw [q, up_s, up3_s]
  · rw [up_n q, up3_o (fun w => q w.2)]; exact (H x hx).2
theorem RH.s1 {S : Nat → Nat → Nat → Int32} {n h : Nat} {sd sg : Nat → Int32} {v : Int32} (H : RH S n sd sg) : RH (up3 S 1 h 0 v) n (upd sd h v) sg := fun x hx => by
  rw [up3_c (c' := 2) (by decide)]
  refine ⟨?_, (H x hx).2⟩
  by_cases q : x = h
  · rw [q, up_s, up3_s]
  · rw [up_n q, up3_o (fun w => q w.2)]; exact (H x hx).1
theorem RH.c {S T : Nat → Nat → Nat → Int32} {n : Nat} {sd sg : Nat → Int32} (H : RH S n sd sg) (h1 : T 1 = S 1) (h2 : T 2 = S 2) : RH T n sd sg := fun x hx => by rw [h1, h2]; exact H x hx
theorem RFo.u {S : Nat → Nat → Nat → Int32} {s : Nat} {fo : Nat → Int32} {v : Int32} (H : RFo S fo) : RFo (up3 S 480 0 s v) (upd fo s v) := fun x hx => by
  rw [up3_a]
  by_cases q : x = s
  · rw [q, up_s, up_s]
  · rw [up_n q, up_n q]; exact H x hx
theorem RFo.c {S T : Nat → Nat → Nat → Int32} {fo : Nat → Int32} (H : RFo S fo) (h : T 480 = S 480) : RFo T fo := fun x hx => by rw [h]; exact H x hx
theorem RLw.c {S T : Nat → Nat → Nat → Int32} {g : Nat} {lw : Nat → Int32} (H : RLw S g lw) (h : T 224 = S 224) : RLw T g lw := fun x hx => by rw [h]; exact H x hx
theorem RT.c {S T : Nat → Nat → Nat → Int32} {n : Nat} {rk vs : Nat → Int32} (H : RT S n rk vs) (h1 : T 96 = S 96) (h2 : T 560 = S 560) : RT T n rk vs := fun x hx => by rw [h1, h2]; exact H x hx
theorem RT.u {S : Nat → Nat → Nat → Int32} {n t s : Nat} {rk vs : Nat → Int32} {v : Int32} (H : RT S n rk vs) (hs : s < 12) : RT (up3 S 560 t s v) n rk (upd vs (12 * t + s) v) := fun x hx => by
  rw [up3_c (c' := 96) (by decide)]
  refine ⟨(H x hx).1, fun y hy => ?_⟩
  by_cases q : 12 * x + y = 12 * t + s
  · have e1 : x = t := by omega
    have e2 : y = s := by omega
    rw [e1, e2, up_s, up3_s]
  · rw [up_n q, (H x hx).2 y hy]
    by_cases z : x = t
    · subst z; rw [up3_n (by omega)]
    · rw [up3_o (fun w => z w.2)]
theorem RQ.c {S T : Nat → Nat → Nat → Int32} {n : Nat} {tb sa co ci ho du ti wm lo : Nat → Int32} (H : RQ S n tb sa co ci ho du ti wm lo) (h : ∀ c, c / 16 = 2 ∨ c / 16 = 37 → T c = S c) : RQ T n tb sa co ci ho du ti wm lo := fun r hr => by
  unfold RQr
  rw [h 32 (by decide), h 36 (by decide), h 37 (by decide), h 38 (by decide), h 39 (by decide), h 40 (by decide), h 41 (by decide), h 593 (by decide)]
  exact H r hr
theorem RQ.u {S T : Nat → Nat → Nat → Int32} {n r0 : Nat} {tb sa co ci ho du ti wm lo : Nat → Int32} {s1 c1 i1 h1 d1 t1 l1 : Int32} (H : RQ S n tb sa co ci ho du ti wm lo) (hT : ∀ r, ¬ r = r0 → ∀ c, c / 16 = 2 ∨ c / 16 = 37 → T c r = S c r) (h0 : RQr T r0 (tb r0) s1 c1 i1 h1 d1 t1 (wm r0) l1) : RQ T n tb (upd sa r0 s1) (upd co r0 c1) (upd ci r0 i1) (upd ho r0 h1) (upd du r0 d1) (upd ti r0 t1) wm (upd lo r0 l1) := fun r hr => by
  by_cases q : r = r0
  · subst q; rw [up_s, up_s, up_s, up_s, up_s, up_s, up_s]; exact h0
  · rw [up_n q, up_n q, up_n q, up_n q, up_n q, up_n q, up_n q]
    unfold RQr
    rw [hT r q 32 (by decide), hT r q 36 (by decide), hT r q 37 (by decide), hT r q 38 (by decide), hT r q 39 (by decide), hT r q 40 (by decide), hT r q 41 (by decide), hT r q 593 (by decide)]
    exact H r hr
theorem RWy.c {S T : Nat → Nat → Nat → Int32} {n : Nat} {wa ns : Nat → Int32} (H : RWy S n wa ns) (h1 : T 592 = S 592) (h2 : T 593 = S 593) (h3 : T 576 = S 576) : RWy T n wa ns := fun r hr => by rw [h1, h2, h3]; exact H r hr
theorem RWy.n {S : Nat → Nat → Nat → Int32} {n r0 s : Nat} {wa ns : Nat → Int32} {v : Int32} (H : RWy S n wa ns) (hs : s < 12) : RWy (up3 S 576 r0 s v) n wa (upd ns (12 * r0 + s) v) := fun r hr => by
  rw [up3_c (c' := 592) (by decide), up3_c (c' := 593) (by decide)]
  refine ⟨(H r hr).1, fun y hy => ?_⟩
  by_cases q : 12 * r + y = 12 * r0 + s
  · have e1 : r = r0 := by omega
    have e2 : y = s := by omega
    rw [e1, e2, up_s, up3_s]
  · rw [up_n q, (H r hr).2 y hy]
    by_cases z : r = r0
    · subst z; rw [up3_n (by omega)]
    · rw [up3_o (fun w => z w.2)]
theorem fe_sp {S : Nat → Nat → Nat → Int32} {g n k s : Nat} (hk : k < n) (hs : s < 12) (e : S 1 k 0 = nI s) : cr1 S g n k = crS S g k s := by
  unfold cr1; rw [if_pos hk, e, if_neg (st_nz hs), nI_clamp (by omega)]
theorem fe_no {S : Nat → Nat → Nat → Int32} {g n k : Nat} {sd sg : Nat → Int32} (H : RH S n sd sg) (hk : k < n) (c : sd k < 0) : cr1 S g n k = S := by
  unfold cr1
  rw [if_pos hk, ← (H k hk).1, show sp_st (sd k) = 0 by unfold sp_st; rw [if_pos c]]; exact if_pos rfl
theorem fe_1 {S : Nat → Nat → Nat → Int32} {g n k s : Nat} {sd sg fo lw : Nat → Int32} {v : Int32} (H : RH S n sd sg) (F : RFo S fo) (L : RLw S g lw) (hk : k < n) (hs : s < 12) (e : sd k = nI s) (c : ¬ fo s ≤ 0) (hv : v = if 100 < sg k + lw 1 then 100 else sg k + lw 1) : RH (cr1 S g n k) n sd (upd sg k v) ∧ RFo (cr1 S g n k) (upd fo s (fo s - 1)) := by
  have e1 : S 1 k 0 = nI s := by rw [← (H k hk).1]; exact e
  rw [fe_sp hk hs e1]
  unfold crS
  rw [if_neg (by rw [← F s hs]; exact c)]
  have hx : v = if (up3 S 480 0 s (S 480 0 s - 1)) 2 k 0 + (up3 S 480 0 s (S 480 0 s - 1)) 224 g 1 < 100 then (up3 S 480 0 s (S 480 0 s - 1)) 2 k 0 + (up3 S 480 0 s (S 480 0 s - 1)) 224 g 1 else 100 := by
    rw [up3_c (c' := 2) (by decide), up3_c (c' := 224) (by decide), ← (H k hk).2, ← L 1 (by decide), hv]
    generalize sg k + lw 1 = x
    by_cases a : 100 < x
    · rw [if_pos a, if_neg (fun b => by rw [lt_i] at a b; omega)]
    · rw [if_neg a]
      by_cases b : x < 100
      · rw [if_pos b]
      · rw [if_neg b]
        apply Int32.toInt_inj.mp
        rw [lt_i] at a b; omega
  rw [hx, F s hs]
  unfold cr2
  refine ⟨RH.s2 (RH.c H (up3_c (by decide)) (up3_c (by decide))), RFo.c (RFo.u F) (up3_c (by decide))⟩
theorem fe_2 {S : Nat → Nat → Nat → Int32} {g n k s : Nat} {sd sg fo lw : Nat → Int32} {v : Int32} (H : RH S n sd sg) (F : RFo S fo) (L : RLw S g lw) (hk : k < n) (hs : s < 12) (e : sd k = nI s) (c : fo s ≤ 0) (h1 : 0 ≤ (S 2 k 0).toInt ∧ (S 2 k 0).toInt ≤ 100) (h2 : 0 ≤ (S 224 g 2).toInt ∧ (S 224 g 2).toInt ≤ 50) (hv : v = if lw 2 < sg k then sg k - lw 2 else 0) : RH (cr1 S g n k) n sd (upd sg k v) ∧ RFo (cr1 S g n k) fo := by
  have e1 : S 1 k 0 = nI s := by rw [← (H k hk).1]; exact e
  rw [fe_sp hk hs e1]
  unfold crS
  rw [if_pos (by rw [← F s hs]; exact c)]
  unfold wkS
  have hx : v = if 0 < S 2 k 0 - S 224 g 2 then S 2 k 0 - S 224 g 2 else 0 := by
    rw [hv, (H k hk).2, L 2 (by decide)]
    have es : (S 2 k 0 - S 224 g 2).toInt = (S 2 k 0).toInt - (S 224 g 2).toInt := s_i (by omega) (by omega)
    by_cases a : S 224 g 2 < S 2 k 0
    · rw [if_pos a, if_pos (by rw [lt_i, es, Int32.toInt_zero]; rw [lt_i] at a; omega)]
    · rw [if_neg a, if_neg (fun b => by rw [lt_i, es, Int32.toInt_zero] at b; rw [lt_i] at a; omega)]
  rw [hx]
  exact ⟨RH.s2 H, RFo.c F (up3_c (by decide))⟩
def IVr (S : Nat → Nat → Nat → Int32) (n0 n6 r : Nat) (a b : Int) : Prop := (∃ t, t < n6 ∧ S 32 r 0 = nI t ∧ S 33 r 0 = S 96 t 0) ∧ (∃ w c, S 593 r 0 = nI w ∧ S 37 r 0 = nI c ∧ 1 ≤ c ∧ c ≤ w ∧ w ≤ 12 ∧ (∀ k, k < w → ∃ s, s < 12 ∧ S 592 r k = nI s) ∧ (∀ i j, i < j → j < w → ¬ S 592 r i = S 592 r j) ∧ (∀ s, s < 12 → ¬ S 576 r s = -1 → ∃ i, i < c ∧ S 592 r i = nI s) ∧ ((S 36 r 0 = 0 ∨ ¬ S 39 r 0 = -1) → c < w)) ∧ (S 36 r 0 = 1 → ¬ S 39 r 0 = -1) ∧ (¬ S 39 r 0 = -1 → (S 36 r 0 = 1 ∨ S 36 r 0 = 4) ∧ (∃ h, h < n0 ∧ S 39 r 0 = nI h) ∧ 0 ≤ (S 40 r 0).toInt ∧ (S 40 r 0).toInt ≤ a ∧ 1 ≤ (S 41 r 0).toInt ∧ (S 41 r 0).toInt ≤ 48 ∧ b ≤ (S 40 r 0).toInt + (S 41 r 0).toInt)
def IVt (S : Nat → Nat → Nat → Int32) (t : Nat) (a : Int) : Prop := (1 ≤ (S 96 t 0).toInt ∧ (S 96 t 0).toInt ≤ 3) ∧ ∀ s, s < 12 → S 560 t s = -1 ∨ (0 ≤ (S 560 t s).toInt ∧ (S 560 t s).toInt ≤ a)
def IVh (S : Nat → Nat → Nat → Int32) (h : Nat) : Prop := (S 1 h 0 = -1 ∨ ∃ s, s < 12 ∧ S 1 h 0 = nI s) ∧ 0 ≤ (S 2 h 0).toInt ∧ (S 2 h 0).toInt ≤ 100
def IVl (S : Nat → Nat → Nat → Int32) (g : Nat) : Prop := (1 ≤ (S 224 g 0).toInt ∧ (S 224 g 0).toInt ≤ 9) ∧ ∀ k, k < 6 → 0 ≤ (S 224 g k).toInt ∧ (S 224 g k).toInt ≤ 50
theorem hOf_i {n u : Nat} (hu : u < n) (hn : n < 2 ^ 31) : hOf n (nI u) = nI u := by
  unfold hOf; rw [if_neg (nI_pos (by omega)), if_neg (nI_ge hu hn)]
theorem vd_i {S : Nat → Nat → Nat → Int32} {t s : Nat} (hs : s < 12) : vdS S t (nI s) = S 560 t s := by
  unfold vdS; rw [if_neg (st_nz hs), nI_clamp (by omega)]
theorem vdT_i {S : Nat → Nat → Nat → Int32} {n t s : Nat} (ht : t < n) (hn : n < 2 ^ 31) (hs : s < 12) : vdT S n (nI t) (nI s) = S 560 t s := by
  unfold vdT; rw [hOf_i ht hn, if_neg (nI_m (by omega)), nI_clamp (by omega), vd_i hs]
theorem tmG_i {S : Nat → Nat → Nat → Int32} {u v : Nat} (hu : u < 12) (hv : v < 12) : tmG S (nI u) (nI v) = tmN S u v := by
  unfold tmG; rw [if_neg (st_nz hu), if_neg (st_nz hv), nI_clamp (by omega), nI_clamp (by omega)]
theorem kp_i {S : Nat → Nat → Nat → Int32} {g k : Nat} (h1 : 1 ≤ k) (h3 : k ≤ 3) : kpS S g (nI k) = S 224 g (2 + k) := by
  have e : 3 + nI k - 1 = nI (2 + k) := by
    rw [show (3 : Int32) = nI 3 from rfl, nI_add, show 3 + k = (2 + k) + 1 by omega]
    rw [← nI_1 (2 + k)]
    exact Int32.add_sub_cancel _ 1
  unfold kpS
  rw [if_neg (fun q => ?_), if_neg (fun q => ?_), e, nI_clamp (by omega)]
  · have := lt_i.mp q
    rw [nI_toInt (by omega)] at this
    have e1 : (1 : Int32).toInt = 1 := by decide
    have z3 : (3 : Int32).toInt = 3 := by decide
    omega
  · have := lt_i.mp q
    rw [nI_toInt (by omega)] at this
    have e1 : (3 : Int32).toInt = 3 := by decide
    have z1 : (1 : Int32).toInt = 1 := by decide
    omega
theorem m1_neg {x : Int32} (h : x = -1 ∨ 0 ≤ x.toInt) : (x < 0) ↔ x = -1 := by
  constructor
  · intro q
    rcases h with h | h
    · exact h
    · rw [lt_i, Int32.toInt_zero] at q; omega
  · intro q; rw [q]; decide
theorem lv_vd {S : Nat → Nat → Nat → Int32} {g n0 n6 rr t s : Nat} {hr : Int32} (ht : t < n6) (hn : n6 < 2 ^ 31) (hs : s < 12) (e32 : S 32 rr 0 = nI t) (es : sSW S rr (S 37 rr 0 - 1) = nI s) (c : ¬ S 560 t s = -1) : sdS S g n0 n6 hr rr = up3 S 36 rr 0 3 := by
  unfold sdS; rw [e32, es, vdT_i ht hn hs, if_neg c]
theorem lv_sd {S : Nat → Nat → Nat → Int32} {g n0 n6 rr t s o : Nat} {hr : Int32} (ht : t < n6) (hn : n6 < 2 ^ 31) (hs : s < 12) (ho : o < 12) (e32 : S 32 rr 0 = nI t) (es : sSW S rr (S 37 rr 0 - 1) = nI s) (eo : sSW S rr (S 37 rr 0) = nI o) (c : S 560 t s = -1) : sdS S g n0 n6 hr rr = sd2 S g n0 rr hr (nI s) (tmN S s o) (bst S (nI s) n0) := by
  unfold sdS; rw [e32, es, vdT_i ht hn hs, if_pos c, eo, tmG_i hs ho]
theorem lv_no {S : Nat → Nat → Nat → Int32} {g n0 rr k : Nat} {hr fr tm x : Int32} (h1 : 1 ≤ k) (h3 : k ≤ 3) (ek : S 33 rr 0 = nI k) (c : tm = -1 ∨ x = -1 ∨ nI (cn (pH S fr) n0) ≤ S 224 g (2 + k) ∨ S 2 x.toNatClampNeg 0 < S 224 g 0 * tm) : sd2 S g n0 rr hr fr tm x = S := by
  unfold sd2
  rw [ek, kp_i h1 h3]
  by_cases a : x = -1
  · rw [if_pos a]
  · rw [if_neg a]
    by_cases b : tm = -1
    · rw [if_pos b]
    · rw [if_neg b]
      by_cases d : nI (cn (pH S fr) n0) ≤ S 224 g (2 + k)
      · rw [if_pos d]
      · rw [if_neg d, if_neg]
        rcases c with c | c | c | c
        · exact absurd c b
        · exact absurd c a
        · exact absurd c d
        · exact Int32.not_le.mpr c
theorem lv_go {S : Nat → Nat → Nat → Int32} {g n0 rr k b : Nat} {hr fr tm : Int32} (h1 : 1 ≤ k) (h3 : k ≤ 3) (ek : S 33 rr 0 = nI k) (hb : b < 2 ^ 31) (c1 : ¬ tm = -1) (c2 : ¬ nI (cn (pH S fr) n0) ≤ S 224 g (2 + k)) (c3 : ¬ S 2 b 0 < S 224 g 0 * tm) : sd2 S g n0 rr hr fr tm (nI b) = lvS (up3 S 1 b 0 (-1)) rr b hr tm := by
  unfold sd2
  rw [ek, kp_i h1 h3, if_neg (nI_m hb), if_neg c1, if_neg c2, nI_clamp hb, if_pos (Int32.not_lt.mp c3)]
theorem lvS_c {S : Nat → Nat → Nat → Int32} {r h c : Nat} {t d : Int32} (h1 : ¬ c = 36) (h2 : ¬ c = 39) (h3 : ¬ c = 40) (h4 : ¬ c = 41) : lvS S r h t d c = S c := by
  unfold lvS; rw [up3_c h1, up3_c h4, up3_c h3, up3_c h2]
theorem lvS_o {S : Nat → Nat → Nat → Int32} {r h c i : Nat} {t d : Int32} (hi : ¬ i = r) : lvS S r h t d c i = S c i := by
  unfold lvS; rw [up3_o (fun w => hi w.2), up3_o (fun w => hi w.2), up3_o (fun w => hi w.2), up3_o (fun w => hi w.2)]
theorem lvS_36 {S : Nat → Nat → Nat → Int32} {r h : Nat} {t d : Int32} : lvS S r h t d 36 r 0 = 1 := up3_s
theorem lvS_39 {S : Nat → Nat → Nat → Int32} {r h : Nat} {t d : Int32} : lvS S r h t d 39 r 0 = nI h := by
  unfold lvS; rw [up3_c (by decide), up3_c (by decide), up3_c (by decide), up3_s]
theorem lvS_40 {S : Nat → Nat → Nat → Int32} {r h : Nat} {t d : Int32} : lvS S r h t d 40 r 0 = t := by
  unfold lvS; rw [up3_c (by decide), up3_c (by decide), up3_s]
theorem lvS_41 {S : Nat → Nat → Nat → Int32} {r h : Nat} {t d : Int32} : lvS S r h t d 41 r 0 = d := by
  unfold lvS; rw [up3_c (by decide), up3_s]
theorem RQ_s3 {S : Nat → Nat → Nat → Int32} {n r0 : Nat} {tb sa co ci ho du ti wm lo : Nat → Int32} (H : RQ S n tb sa co ci ho du ti wm lo) (hr : r0 < n) (hl : lo r0 = 0) : RQ (up3 S 36 r0 0 3) n tb (upd sa r0 3) co ci ho du ti wm lo := by
  have h := H r0 hr
  have R := RQ.u (T := up3 S 36 r0 0 3) (r0 := r0) (s1 := 3) (c1 := co r0) (i1 := ci r0) (h1 := ho r0) (d1 := du r0) (t1 := ti r0) (l1 := lo r0) H (fun r q c _ => up3_o (fun w => q w.2)) (by
    obtain ⟨a1, a2, a3, a4, a5, a6, a7, a8, a9⟩ := h
    unfold RQr
    rw [up3_c (c' := 32) (by decide), up3_s, up3_c (c' := 37) (by decide), up3_c (c' := 38) (by decide), up3_c (c' := 39) (by decide), up3_c (c' := 40) (by decide), up3_c (c' := 41) (by decide), up3_c (c' := 593) (by decide)]
    exact ⟨a1, rfl, a3, a4, a5, a6, a7, a8, fun w => absurd hl w, fun w => absurd w.1 (by decide)⟩)
  rw [upd_id, upd_id, upd_id, upd_id, upd_id, upd_id] at R
  exact R
theorem RQ_lv {S : Nat → Nat → Nat → Int32} {n r0 b : Nat} {hr tm : Int32} {tb sa co ci ho du ti wm lo : Nat → Int32} (H : RQ S n tb sa co ci ho du ti wm lo) (hr0 : r0 < n) (hl : lo r0 = 0) : RQ (lvS S r0 b hr tm) n tb (upd sa r0 1) co ci (upd ho r0 (nI b)) (upd du r0 (hr + tm)) (upd ti r0 tm) wm lo := by
  have h := H r0 hr0
  have R := RQ.u (T := lvS S r0 b hr tm) (r0 := r0) (s1 := 1) (c1 := co r0) (i1 := ci r0) (h1 := nI b) (d1 := hr + tm) (t1 := tm) (l1 := lo r0) H (fun r q c _ => lvS_o q) (by
    obtain ⟨a1, a2, a3, a4, a5, a6, a7, a8, a9⟩ := h
    unfold RQr
    rw [lvS_c (c := 32) (by decide) (by decide) (by decide) (by decide), lvS_36, lvS_c (c := 37) (by decide) (by decide) (by decide) (by decide), lvS_c (c := 38) (by decide) (by decide) (by decide) (by decide), lvS_39, lvS_40, lvS_41, lvS_c (c := 593) (by decide) (by decide) (by decide) (by decide)]
    exact ⟨a1, rfl, a3, a4, rfl, fun _ => rfl, fun _ => rfl, a8, fun w => absurd hl w, fun w => absurd w.1 (by decide)⟩)
  rw [upd_id, upd_id, upd_id] at R
  exact R
theorem sSW_i {S : Nat → Nat → Nat → Int32} {r w k : Nat} (ew : S 593 r 0 = nI w) (hw : w ≤ 12) (hk : k < w) : sSW S r (nI k) = S 592 r k := by
  unfold sSW; rw [if_neg (nI_pos (by omega)), ew, if_neg (nI_ge hk (by omega)), nI_clamp (by omega)]
theorem wv_q {S : Nat → Nat → Nat → Int32} {k s : Nat} {d : Int32} (hs : s < 12) : (¬ wvS S k (nI s) d = 0) ↔ (¬ S 560 k s = -1 ∧ ¬ d < S 560 k s) := by
  unfold wvS
  rw [vd_i hs]
  by_cases a : S 560 k s = -1
  · rw [if_pos a]; exact ⟨fun w => absurd rfl w, fun w => absurd a w.1⟩
  · rw [if_neg a]
    by_cases b : d < S 560 k s
    · rw [if_pos b]; exact ⟨fun w => absurd rfl w, fun w => absurd b w.2⟩
    · rw [if_neg b]; exact ⟨fun _ => ⟨a, b⟩, fun _ => by decide⟩
def BrK (S : Nat → Nat → Nat → Int32) (s k : Nat) (b : Int32) : Prop := ∀ i, i < 20 → (bt b i = true ↔ i < k ∧ ¬ S 560 i s = -1)
theorem BrK_0 {S : Nat → Nat → Nat → Int32} {s : Nat} : BrK S s 0 0 := fun i _ => ⟨fun w => by rw [b_0] at w; exact absurd w (by decide), fun w => absurd w.1 (by omega)⟩
theorem BrK_n {S : Nat → Nat → Nat → Int32} {s k : Nat} {b : Int32} (h : BrK S s k b) (c : S 560 k s = -1) : BrK S s (k + 1) b := fun i hi => ⟨fun w => ⟨by have := ((h i hi).mp w).1; omega, ((h i hi).mp w).2⟩, fun w => (h i hi).mpr ⟨by
  rcases Nat.lt_or_ge i k with q | q
  · exact q
  · have : i = k := by omega
    subst this; exact absurd c w.2, w.2⟩⟩
theorem BrK_y {S : Nat → Nat → Nat → Int32} {s k : Nat} {b : Int32} (h : BrK S s k b) (hk : k < 20) (c : ¬ S 560 k s = -1) : BrK S s (k + 1) (b ||| (1 <<< (nI k &&& 31))) := fun i hi => by
  rw [bit_or (by omega) (by omega)]
  by_cases q : i = k
  · subst q
    simp only [decide_true, Bool.or_true, true_iff]
    exact ⟨by omega, c⟩
  · rw [decide_eq_false q, Bool.or_false, h i hi]
    exact ⟨fun w => ⟨by omega, w.2⟩, fun w => ⟨by omega, w.2⟩⟩
theorem RBr_o {S T : Nat → Nat → Nat → Int32} {n2 n6 r0 : Nat} {br : Nat → Int32} {x : Int32} (H : RBr S n2 n6 br) (h : ∀ r, r < n2 → ¬ r = r0 → ∀ c, c / 16 = 2 ∨ c / 16 = 37 → T c r = S c r) (h5 : T 560 = S 560) (h0 : T 36 r0 0 = 1 → ∀ k, k < 20 → (bt x k = true ↔ k < n6 ∧ ¬ wvS T k (sSW T r0 (T 37 r0 0 - 1)) (T 40 r0 0) = 0)) : RBr T n2 n6 (upd br r0 x) := fun r hr => by
  by_cases q : r = r0
  · subst q; rw [up_s]; exact h0
  · rw [up_n q]
    have e : ∀ k, wvS T k (sSW T r (T 37 r 0 - 1)) (T 40 r 0) = wvS S k (sSW S r (S 37 r 0 - 1)) (S 40 r 0) := fun k => by
      unfold wvS vdS sSW
      rw [h r hr q 37 (by decide), h r hr q 40 (by decide), h r hr q 593 (by decide), h r hr q 592 (by decide), h5]
    rw [h r hr q 36 (by decide)]
    intro z k hk
    rw [e k]; exact H r hr z k hk
theorem RBr_c {S T : Nat → Nat → Nat → Int32} {n2 n6 : Nat} {br : Nat → Int32} (H : RBr S n2 n6 br) (h : ∀ r, r < n2 → ∀ c, c / 16 = 2 ∨ c / 16 = 37 → T c r = S c r) (h5 : T 560 = S 560) : RBr T n2 n6 br := fun r hr => by
  have e : ∀ k, wvS T k (sSW T r (T 37 r 0 - 1)) (T 40 r 0) = wvS S k (sSW S r (S 37 r 0 - 1)) (S 40 r 0) := fun k => by
    unfold wvS vdS sSW
    rw [h r hr 37 (by decide), h r hr 40 (by decide), h r hr 593 (by decide), h r hr 592 (by decide), h5]
  rw [h r hr 36 (by decide)]
  intro z k hk
  rw [e k]; exact H r hr z k hk
