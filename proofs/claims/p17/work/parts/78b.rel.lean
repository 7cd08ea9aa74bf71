theorem cv1_c {T : Nat → Nat → Nat → Int32} {n k c : Nat} {a b lf hr : Int32} (h : ¬ c = 560) : cv1 T n a b lf hr k c = T c := by
  unfold cv1
  split
  · split
    · rfl
    · unfold tvS
      split
      · rfl
      · split
        · rw [up3_c h]
        · rfl
  · rfl
theorem cv1_o {T : Nat → Nat → Nat → Int32} {n k t : Nat} {a b lf hr : Int32} (h : ¬ t = k) : cv1 T n a b lf hr k 560 t = T 560 t := by
  unfold cv1
  split
  · split
    · rfl
    · unfold tvS
      split
      · rfl
      · split
        · rw [up3_o (fun w => h w.2)]
        · rfl
  · rfl
theorem cvK_c {T : Nat → Nat → Nat → Int32} {n c : Nat} {a b lf hr : Int32} (h : ¬ c = 560) : ∀ k, cvK T n a b lf hr k c = T c
  | 0 => rfl
  | k + 1 => by
    show cv1 (cvK T n a b lf hr k) n a b lf hr k c = _
    rw [cv1_c h, cvK_c h k]
theorem cvK_o {T : Nat → Nat → Nat → Int32} {n t : Nat} {a b lf hr : Int32} : ∀ k, k ≤ t → cvK T n a b lf hr k 560 t = T 560 t
  | 0, _ => rfl
  | k + 1, h => by
    show cv1 (cvK T n a b lf hr k) n a b lf hr k 560 t = _
    rw [cv1_o (by omega), cvK_o k (by omega)]
theorem cvK_e {T : Nat → Nat → Nat → Int32} {n : Nat} {a b lf hr : Int32} : ∀ k, cvK T n a b lf hr (n + k) = cvK T n a b lf hr n
  | 0 => rfl
  | k + 1 => by
    show cv1 (cvK T n a b lf hr (n + k)) n a b lf hr (n + k) = _
    unfold cv1
    rw [if_neg (by omega), cvK_e k]
theorem cvK_20 {T : Nat → Nat → Nat → Int32} {n : Nat} {a b lf hr : Int32} (h : n ≤ 20) : cvK T n a b lf hr 20 = cvK T n a b lf hr n := by
  have e := cvK_e (T := T) (n := n) (a := a) (b := b) (lf := lf) (hr := hr) (20 - n)
  rw [show n + (20 - n) = 20 by omega] at e
  exact e
theorem wv_cg {S T : Nat → Nat → Nat → Int32} {k : Nat} {p d : Int32} (h : T 560 k = S 560 k) : wvS T k p d = wvS S k p d := by
  unfold wvS vdS; rw [h]
theorem cv_n {T : Nat → Nat → Nat → Int32} {n k s o : Nat} {rk vs : Nat → Int32} {lf hr : Int32} (H : RT (cvK T n (nI s) (nI o) lf hr k) n rk vs) (hk : k < n) (hs : s < 12) (ho : o < 12) (c : wvS T k (nI s) lf = 0 ∨ ¬ vs (12 * k + o) < 0) : RT (cvK T n (nI s) (nI o) lf hr (k + 1)) n rk vs := by
  have e : cvK T n (nI s) (nI o) lf hr (k + 1) = cvK T n (nI s) (nI o) lf hr k := by
    show cv1 (cvK T n (nI s) (nI o) lf hr k) n (nI s) (nI o) lf hr k = _
    unfold cv1
    rw [if_pos hk, wv_cg (cvK_o k (Nat.le_refl _))]
    by_cases z : wvS T k (nI s) lf = 0
    · rw [if_pos z]
    · rw [if_neg z]
      unfold tvS
      rw [if_neg (st_nz ho), nI_clamp (by omega), if_neg]
      intro q
      rcases c with c | c
      · exact z c
      · rw [(H k hk).2 o ho, q] at c; exact c (by decide)
  rw [e]; exact H
theorem cv_y {T : Nat → Nat → Nat → Int32} {n k s o : Nat} {rk vs : Nat → Int32} {lf hr : Int32} (H : RT (cvK T n (nI s) (nI o) lf hr k) n rk vs) (hk : k < n) (hs : s < 12) (ho : o < 12) (h0 : T 560 k o = -1 ∨ 0 ≤ (T 560 k o).toInt) (c1 : ¬ wvS T k (nI s) lf = 0) (c2 : vs (12 * k + o) < 0) : RT (cvK T n (nI s) (nI o) lf hr (k + 1)) n rk (upd vs (12 * k + o) hr) := by
  have e : cvK T n (nI s) (nI o) lf hr (k + 1) = up3 (cvK T n (nI s) (nI o) lf hr k) 560 k o hr := by
    show cv1 (cvK T n (nI s) (nI o) lf hr k) n (nI s) (nI o) lf hr k = _
    unfold cv1
    rw [if_pos hk, wv_cg (cvK_o k (Nat.le_refl _)), if_neg c1]
    unfold tvS
    rw [if_neg (st_nz ho), nI_clamp (by omega), if_pos]
    rw [cvK_o k (Nat.le_refl _)]
    rw [(H k hk).2 o ho, cvK_o k (Nat.le_refl _)] at c2
    exact (m1_neg h0).mp c2
  rw [e]; exact RT.u H ho
def brT (S : Nat → Nat → Nat → Int32) (g r h : Nat) (to : Int32) : Nat → Nat → Nat → Int32 := up3 (up3 (wkS S h (S 224 g 0 * S 41 r 0)) 1 h 0 to) 39 r 0 (-1)
theorem brT_c {S : Nat → Nat → Nat → Int32} {g r h c : Nat} {to : Int32} (h1 : ¬ c = 39) (h2 : ¬ c = 1) (h3 : ¬ c = 2) : brT S g r h to c = S c := by
  unfold brT wkS; rw [up3_c h1, up3_c h2, up3_c h3]
theorem brT_r {S : Nat → Nat → Nat → Int32} {g r h c i : Nat} {to : Int32} (hc : c / 16 = 2 ∨ c / 16 = 37) (hi : ¬ i = r) : brT S g r h to c i = S c i := by
  unfold brT wkS
  rw [up3_o (fun w => hi w.2), up3_c (fun w => by rw [w] at hc; exact absurd hc (by decide)), up3_c (fun w => by rw [w] at hc; exact absurd hc (by decide))]
theorem brT_39 {S : Nat → Nat → Nat → Int32} {g r h : Nat} {to : Int32} : brT S g r h to 39 r 0 = -1 := up3_s
theorem brS_e {S : Nat → Nat → Nat → Int32} {g n6 r h : Nat} {hr : Int32} : brS S g n6 hr r h = br2 (brT S g r h (sSW S r (S 37 r 0))) n6 r hr (sSW S r (S 37 r 0)) := rfl
theorem brS_4 {S : Nat → Nat → Nat → Int32} {g n6 r h o : Nat} {hr : Int32} (eo : sSW S r (S 37 r 0) = nI o) (c : ¬ S 36 r 0 = 1) : brS S g n6 hr r h = brT S g r h (nI o) := by
  rw [brS_e, eo]
  unfold br2
  rw [brT_c (c := 36) (by decide) (by decide) (by decide), if_neg c]
theorem brS_1 {S : Nat → Nat → Nat → Int32} {g n6 r h o s : Nat} {hr : Int32} (hn : n6 ≤ 20) (eo : sSW S r (S 37 r 0) = nI o) (es : sSW S r (S 37 r 0 - 1) = nI s) (c : S 36 r 0 = 1) : brS S g n6 hr r h = cmS (cvK (brT S g r h (nI o)) n6 (nI s) (nI o) (S 40 r 0) hr n6) r hr := by
  rw [brS_e, eo]
  unfold br2
  rw [brT_c (c := 36) (by decide) (by decide) (by decide), if_pos c, brT_c (c := 37) (by decide) (by decide) (by decide), brT_c (c := 40) (by decide) (by decide) (by decide), sSW_c (brT_c (by decide) (by decide) (by decide)) (brT_c (by decide) (by decide) (by decide)), es, cvK_20 hn]
theorem RH_br {S : Nat → Nat → Nat → Int32} {n g r h : Nat} {sd sg lw : Nat → Int32} {to v x : Int32} (H : RH S n sd sg) (L : RLw S g lw) (hh : h < n) (hx : x = S 41 r 0) (hv : v = if 0 < sg h - lw 0 * x then sg h - lw 0 * x else 0) : RH (brT S g r h to) n (upd sd h to) (upd sg h v) := by
  rw [hv, (H h hh).2, L 0 (by decide), hx]
  unfold brT wkS
  exact RH.c (RH.s1 (RH.s2 H)) (up3_c (by decide)) (up3_c (by decide))
theorem RQ_b4 {S : Nat → Nat → Nat → Int32} {n g r0 h : Nat} {to : Int32} {tb sa co ci ho du ti wm lo : Nat → Int32} (H : RQ S n tb sa co ci ho du ti wm lo) (hr : r0 < n) : RQ (brT S g r0 h to) n tb sa co ci (upd ho r0 (-1)) du ti wm (upd lo r0 0) := by
  have R := RQ.u (T := brT S g r0 h to) (r0 := r0) (s1 := sa r0) (c1 := co r0) (i1 := ci r0) (h1 := -1) (d1 := du r0) (t1 := ti r0) (l1 := 0) H (fun r q c hc => brT_r hc q) (by
    obtain ⟨a1, a2, a3, a4, a5, a6, a7, a8, a9⟩ := H r0 hr
    unfold RQr
    rw [brT_39]
    rw [brT_c (c := 32) (by decide) (by decide) (by decide), brT_c (c := 36) (by decide) (by decide) (by decide), brT_c (c := 37) (by decide) (by decide) (by decide), brT_c (c := 38) (by decide) (by decide) (by decide), brT_c (c := 40) (by decide) (by decide) (by decide), brT_c (c := 41) (by decide) (by decide) (by decide), brT_c (c := 593) (by decide) (by decide) (by decide)]
    exact ⟨a1, a2, a3, a4, rfl, fun w => absurd rfl w, fun w => absurd rfl w, a8, fun w => absurd rfl w, fun w => absurd rfl w.2⟩)
  rw [upd_id, upd_id, upd_id, upd_id, upd_id] at R
  exact R
theorem cm_e {S : Nat → Nat → Nat → Int32} {r o c w : Nat} {hr : Int32} (ho : o < 12) (eo : sSW S r (S 37 r 0) = nI o) (ec : S 37 r 0 = nI c) (ew : S 593 r 0 = nI w) (hc : c < w) (hw : w ≤ 12) : cmS S r hr = up3 (up3 (up3 (up3 S 576 r o hr) 38 r 0 hr) 37 r 0 (nI (c + 1))) 36 r 0 (if c + 1 = w then 2 else 0) := by
  unfold cmS
  rw [eo, if_neg (st_nz ho), nI_clamp (by omega)]
  unfold cmT
  rw [up3_c (c' := 37) (by decide), up3_c (c' := 37) (by decide), ec, nI_1]
  unfold cmU
  rw [up3_s, up3_c (c' := 593) (by decide), up3_c (c' := 593) (by decide), up3_c (c' := 593) (by decide), ew]
  by_cases q : c + 1 = w
  · rw [if_pos q, if_pos (by rw [q]; exact Int32.le_refl _)]
  · rw [if_neg q, if_neg (nI_ge (by omega) (by omega))]
theorem RQ_cm {S : Nat → Nat → Nat → Int32} {n r0 o c w : Nat} {hr v : Int32} {tb sa co ci ho du ti wm lo : Nat → Int32} (H : RQ S n tb sa co ci ho du ti wm lo) (hr0 : r0 < n) (ho0 : o < 12) (eo : sSW S r0 (S 37 r0 0) = nI o) (ec : S 37 r0 0 = nI c) (ew : S 593 r0 0 = nI w) (hc : c < w) (hw : w ≤ 12) (hl : lo r0 = 0) (hv : v = if c + 1 = w then 2 else 0) : RQ (cmS S r0 hr) n tb (upd sa r0 v) (upd co r0 (nI (c + 1))) (upd ci r0 hr) ho du ti wm lo := by
  rw [cm_e ho0 eo ec ew hc hw, ← hv]
  have hv4 : ¬ v = 4 := by rw [hv]; split <;> decide
  have R := RQ.u (T := up3 (up3 (up3 (up3 S 576 r0 o hr) 38 r0 0 hr) 37 r0 0 (nI (c + 1))) 36 r0 0 v) (r0 := r0) (s1 := v) (c1 := nI (c + 1)) (i1 := hr) (h1 := ho r0) (d1 := du r0) (t1 := ti r0) (l1 := lo r0) H (fun r q c _ => by rw [up3_o (fun w => q w.2), up3_o (fun w => q w.2), up3_o (fun w => q w.2), up3_o (fun w => q w.2)]) (by
    obtain ⟨a1, a2, a3, a4, a5, a6, a7, a8, a9⟩ := H r0 hr0
    unfold RQr
    refine ⟨?_, ?_, ?_, ?_, ?_, ?_, ?_, ?_, fun w => absurd hl w, fun w => absurd ?_ hv4⟩
    · rw [up3_c (by decide), up3_c (by decide), up3_c (by decide), up3_c (by decide)]; exact a1
    · rw [up3_s]
    · rw [up3_c (by decide), up3_s]
    · rw [up3_c (by decide), up3_c (by decide), up3_s]
    · rw [up3_c (by decide), up3_c (by decide), up3_c (by decide), up3_c (by decide)]; exact a5
    · intro w; rw [up3_c (c' := 39) (by decide), up3_c (c' := 39) (by decide), up3_c (c' := 39) (by decide), up3_c (c' := 39) (by decide)] at w; rw [up3_c (c' := 40) (by decide), up3_c (c' := 40) (by decide), up3_c (c' := 40) (by decide), up3_c (c' := 40) (by decide), up3_c (c' := 41) (by decide), up3_c (c' := 41) (by decide), up3_c (c' := 41) (by decide), up3_c (c' := 41) (by decide)]; exact a6 w
    · intro w; rw [up3_c (c' := 39) (by decide), up3_c (c' := 39) (by decide), up3_c (c' := 39) (by decide), up3_c (c' := 39) (by decide)] at w; rw [up3_c (c' := 41) (by decide), up3_c (c' := 41) (by decide), up3_c (c' := 41) (by decide), up3_c (c' := 41) (by decide)]; exact a7 w
    · rw [up3_c (by decide), up3_c (by decide), up3_c (by decide), up3_c (by decide)]; exact a8
    · have w1 := w.1
      rw [up3_s] at w1; exact w1)
  rw [upd_id, upd_id, upd_id, upd_id] at R
  exact R
theorem cm_c {S : Nat → Nat → Nat → Int32} {r o c w k : Nat} {hr : Int32} (ho : o < 12) (eo : sSW S r (S 37 r 0) = nI o) (ec : S 37 r 0 = nI c) (ew : S 593 r 0 = nI w) (hc : c < w) (hw : w ≤ 12) (h1 : ¬ k = 36) (h2 : ¬ k = 37) (h3 : ¬ k = 38) (h4 : ¬ k = 576) : cmS S r hr k = S k := by
  rw [cm_e ho eo ec ew hc hw, up3_c h1, up3_c h2, up3_c h3, up3_c h4]
theorem RWy_cm {S : Nat → Nat → Nat → Int32} {n r0 o c w : Nat} {hr : Int32} {wa ns : Nat → Int32} (H : RWy S n wa ns) (ho0 : o < 12) (eo : sSW S r0 (S 37 r0 0) = nI o) (ec : S 37 r0 0 = nI c) (ew : S 593 r0 0 = nI w) (hc : c < w) (hw : w ≤ 12) : RWy (cmS S r0 hr) n wa (upd ns (12 * r0 + o) hr) := by
  rw [cm_e ho0 eo ec ew hc hw]
  exact RWy.c (RWy.n (s := o) (r0 := r0) (v := hr) H ho0) (by rw [up3_c (by decide), up3_c (by decide), up3_c (by decide)]) (by rw [up3_c (by decide), up3_c (by decide), up3_c (by decide)]) (by rw [up3_c (by decide), up3_c (by decide), up3_c (by decide)])
def lr2 (S : Nat → Nat → Nat → Int32) (i j : Nat) : Prop := rK S i < rK S j ∨ (rK S i = rK S j ∧ (cM S i < cM S j ∨ (cM S i = cM S j ∧ i < j)))
def fsK (S : Nat → Nat → Nat → Int32) (z : Nat → Int32) (k : Nat) (b : Int32) : Prop := (b = -1 ∧ ∀ i, i < k → ¬ z i = 0) ∨ ∃ j, j < k ∧ b = nI j ∧ z j = 0 ∧ ∀ i, i < k → z i = 0 → i = j ∨ lr2 S j i
theorem fs_0 {S : Nat → Nat → Nat → Int32} {z : Nat → Int32} : fsK S z 0 (-1) := Or.inl ⟨rfl, fun i hi => absurd hi (by omega)⟩
theorem fs_a {S : Nat → Nat → Nat → Int32} {z : Nat → Int32} {k : Nat} {b : Int32} (h : fsK S z k b) (c : ¬ z k = 0) : fsK S z (k + 1) b := by
  rcases h with ⟨e, h⟩ | ⟨j, hj, e, h0, h⟩
  · refine Or.inl ⟨e, fun i hi => ?_⟩
    by_cases q : i = k
    · rw [q]; exact c
    · exact h i (by omega)
  · refine Or.inr ⟨j, by omega, e, h0, fun i hi hz => ?_⟩
    by_cases q : i = k
    · rw [q] at hz; exact absurd hz c
    · exact h i (by omega) hz
theorem fs_k {S : Nat → Nat → Nat → Int32} {z : Nat → Int32} {k j : Nat} (hj : j < k) (h0 : z j = 0) (h : ∀ i, i < k → z i = 0 → i = j ∨ lr2 S j i) (c : lr2 S j k) : fsK S z (k + 1) (nI j) := by
  refine Or.inr ⟨j, by omega, rfl, h0, fun i hi hz => ?_⟩
  by_cases q : i = k
  · rw [q]; exact Or.inr c
  · exact h i (by omega) hz
theorem fs_n {S : Nat → Nat → Nat → Int32} {z : Nat → Int32} {k : Nat} (h0 : z k = 0) (h : ∀ i, i < k → z i = 0 → lr2 S k i) : fsK S z (k + 1) (nI k) := by
  refine Or.inr ⟨k, by omega, rfl, h0, fun i hi hz => ?_⟩
  by_cases q : i = k
  · exact Or.inl q
  · exact Or.inr (h i (by omega) hz)
theorem lr2_tr {S : Nat → Nat → Nat → Int32} {a b c : Nat} (h : lr2 S a b) (g : lr2 S b c) : lr2 S a c := by
  unfold lr2 at *; omega
