theorem IVr.cg {S T : Nat → Nat → Nat → Int32} {n0 n6 r : Nat} {a b : Int} (h : ∀ c, c / 16 = 2 ∨ c / 16 = 36 ∨ c / 16 = 37 → T c r = S c r) (h9 : T 96 = S 96) (H : IVr S n0 n6 r a b) : IVr T n0 n6 r a b := by
  unfold IVr
  rw [h 32 (by decide), h 33 (by decide), h 36 (by decide), h 37 (by decide), h 39 (by decide), h 40 (by decide), h 41 (by decide), h 576 (by decide), h 592 (by decide), h 593 (by decide), h9]
  exact H
theorem IVr.w {S : Nat → Nat → Nat → Int32} {n0 n6 r : Nat} {a b a2 b2 : Int} (H : IVr S n0 n6 r a b) (ha : a ≤ a2) (hb : b2 ≤ b) : IVr S n0 n6 r a2 b2 := by
  obtain ⟨h1, h2, h3, h4⟩ := H
  refine ⟨h1, h2, h3, fun q => ?_⟩
  obtain ⟨i1, i2, i3, i4, i5, i6, i7⟩ := h4 q
  exact ⟨i1, i2, i3, by omega, i5, i6, by omega⟩
theorem IVt.w {S : Nat → Nat → Nat → Int32} {t : Nat} {a a2 : Int} (H : IVt S t a) (ha : a ≤ a2) : IVt S t a2 := ⟨H.1, fun s hs => (H.2 s hs).imp id (fun w => ⟨w.1, by omega⟩)⟩
def IV (S : Nat → Nat → Nat → Int32) (g n0 n6 n2 : Nat) (a d : Int) (b : Nat → Int) : Prop := (∀ r, r < n2 → IVr S n0 n6 r a (b r)) ∧ (∀ t, t < n6 → IVt S t d) ∧ (∀ h, h < n0 → IVh S h) ∧ IVl S g
theorem IVh.cg {S T : Nat → Nat → Nat → Int32} {h : Nat} (h1 : T 1 h 0 = S 1 h 0) (h2 : T 2 h 0 = S 2 h 0) (H : IVh S h) : IVh T h := by
  unfold IVh; rw [h1, h2]; exact H
theorem IVt.cg {S T : Nat → Nat → Nat → Int32} {t : Nat} {a : Int} (h1 : T 96 = S 96) (h2 : T 560 t = S 560 t) (H : IVt S t a) : IVt T t a := by
  unfold IVt; rw [h1, h2]; exact H
theorem wk_rng {x p : Int32} (h1 : 0 ≤ x.toInt ∧ x.toInt ≤ 100) (h2 : 0 ≤ p.toInt ∧ p.toInt < 2 ^ 30) : 0 ≤ (if 0 < x - p then x - p else 0).toInt ∧ (if 0 < x - p then x - p else 0).toInt ≤ 100 := by
  have es : (x - p).toInt = x.toInt - p.toInt := s_i (by omega) (by omega)
  by_cases q : 0 < x - p
  · rw [if_pos q]; rw [lt_i, Int32.toInt_zero] at q; omega
  · rw [if_neg q, Int32.toInt_zero]; omega
theorem IV.hs {S T : Nat → Nat → Nat → Int32} {g n0 n6 n2 : Nat} {a d : Int} {b : Nat → Int} (H : IV S g n0 n6 n2 a d b) (hc : ∀ c, ¬ c = 1 → ¬ c = 2 → ¬ c = 480 → T c = S c) (hh : ∀ h, h < n0 → IVh T h) : IV T g n0 n6 n2 a d b := by
  obtain ⟨h1, h2, h3, h4⟩ := H
  refine ⟨fun r hr => ?_, fun t ht => ?_, hh, ?_⟩
  · refine IVr.cg (fun c hc2 => ?_) (hc 96 (by decide) (by decide) (by decide)) (h1 r hr)
    rw [hc c (fun w => by rw [w] at hc2; exact absurd hc2 (by decide)) (fun w => by rw [w] at hc2; exact absurd hc2 (by decide)) (fun w => by rw [w] at hc2; exact absurd hc2 (by decide))]
  · exact IVt.cg (hc 96 (by decide) (by decide) (by decide)) (by rw [hc 560 (by decide) (by decide) (by decide)]) (h2 t ht)
  · unfold IVl; rw [hc 224 (by decide) (by decide) (by decide)]; exact h4
theorem cr1_c {S : Nat → Nat → Nat → Int32} {g n k c : Nat} (h2 : ¬ c = 2) (h4 : ¬ c = 480) : cr1 S g n k c = S c := by
  unfold cr1
  split
  · split
    · rfl
    · unfold crS wkS cr2
      split
      · rw [up3_c h2]
      · rw [up3_c h2, up3_c h4]
  · rfl
theorem cr1_o {S : Nat → Nat → Nat → Int32} {g n k h : Nat} (hh : ¬ h = k) : cr1 S g n k 2 h = S 2 h := by
  unfold cr1
  split
  · split
    · rfl
    · unfold crS wkS cr2
      split
      · rw [up3_o (fun w => hh w.2)]
      · rw [up3_o (fun w => hh w.2), up3_c (by decide)]
  · rfl
theorem IV.cr {S : Nat → Nat → Nat → Int32} {g n0 n6 n2 n k : Nat} {a d : Int} {b : Nat → Int} (H : IV S g n0 n6 n2 a d b) (hk : k < n0) : IV (cr1 S g n k) g n0 n6 n2 a d b := by
  refine IV.hs H (fun c h1 h2 h3 => cr1_c h2 h3) (fun h hh => ?_)
  have e1 : cr1 S g n k 1 = S 1 := cr1_c (by decide) (by decide)
  by_cases q : h = k
  · subst q
    refine ⟨by rw [e1]; exact (H.2.2.1 h hh).1, ?_⟩
    have R := (H.2.2.1 h hh).2
    unfold cr1
    split
    · split
      · exact R
      · unfold crS wkS cr2
        split
        · rw [up3_s]
          exact wk_rng R (by have := H.2.2.2.2 2 (by decide); omega)
        · rw [up3_s, up3_c (c' := 2) (by decide), up3_c (c' := 224) (by decide)]
          have l1 := H.2.2.2.2 1 (by decide)
          have e : (S 2 h 0 + S 224 g 1).toInt = (S 2 h 0).toInt + (S 224 g 1).toInt := a_i (by omega) (by omega)
          have e100 : (100 : Int32).toInt = 100 := by decide
          by_cases z : S 2 h 0 + S 224 g 1 < 100
          · rw [if_pos z]; rw [lt_i, e, e100] at z; rw [e]; omega
          · rw [if_neg z, e100]; omega
    · exact R
  · exact IVh.cg (by rw [e1]) (by rw [cr1_o q]) (H.2.2.1 h hh)
theorem IV.crK {S : Nat → Nat → Nat → Int32} {g n0 n6 n2 : Nat} {a d : Int} {b : Nat → Int} (H : IV S g n0 n6 n2 a d b) : ∀ k, k ≤ n0 → IV (crK S g n0 k) g n0 n6 n2 a d b
  | 0, _ => H
  | k + 1, h => IV.cr (IV.crK H k (by omega)) (by omega)
theorem crK_e {S : Nat → Nat → Nat → Int32} {g n : Nat} : ∀ k, crK S g n (n + k) = crK S g n n
  | 0 => rfl
  | k + 1 => by
    show cr1 (crK S g n (n + k)) g n (n + k) = _
    unfold cr1
    rw [if_neg (by omega), crK_e k]
theorem crK_60 {S : Nat → Nat → Nat → Int32} {g n : Nat} (h : n ≤ 60) : crK S g n 60 = crK S g n n := by
  have e := crK_e (S := S) (g := g) (n := n) (60 - n)
  rw [show n + (60 - n) = 60 by omega] at e
  exact e
theorem crK_c {S : Nat → Nat → Nat → Int32} {g n c : Nat} (h2 : ¬ c = 2) (h4 : ¬ c = 480) : ∀ k, crK S g n k c = S c
  | 0 => rfl
  | k + 1 => by
    show cr1 (crK S g n k) g n k c = _
    rw [cr1_c h2 h4, crK_c h2 h4 k]
theorem bst_p {S : Nat → Nat → Nat → Int32} {p : Int32} : ∀ k u, bst S p k = nI u → u < 2 ^ 31 → k < 2 ^ 31 → S 1 u 0 = p
  | 0, u, h, hu, _ => absurd h.symm (nI_m hu)
  | k + 1, u, h, hu, hk => by
    have h : (if S 1 k 0 = p ∧ (bst S p k = -1 ∨ ¬ S 2 k 0 ≤ S 2 (bst S p k).toNatClampNeg 0) then nI k else bst S p k) = nI u := h
    by_cases c : S 1 k 0 = p ∧ (bst S p k = -1 ∨ ¬ S 2 k 0 ≤ S 2 (bst S p k).toNatClampNeg 0)
    · rw [if_pos c] at h
      have := nI_inJ h (by omega) hu
      rw [← this]; exact c.1
    · rw [if_neg c] at h; exact bst_p k u h hu (by omega)
theorem sd_alt {S : Nat → Nat → Nat → Int32} {g n0 n6 r : Nat} {hr : Int32} (hn : n0 ≤ 60) : sdS S g n0 n6 hr r = S ∨ sdS S g n0 n6 hr r = up3 S 36 r 0 3 ∨ ∃ b, b < n0 ∧ ¬ tmG S (sSW S r (S 37 r 0 - 1)) (sSW S r (S 37 r 0)) = -1 ∧ bst S (sSW S r (S 37 r 0 - 1)) n0 = nI b ∧ sdS S g n0 n6 hr r = lvS (up3 S 1 b 0 (-1)) r b hr (tmG S (sSW S r (S 37 r 0 - 1)) (sSW S r (S 37 r 0))) := by
  unfold sdS
  split
  · unfold sd2
    rcases bst_v (S := S) (p := sSW S r (S 37 r 0 - 1)) n0 with e | ⟨b, hb, e⟩
    · rw [if_pos e]; exact Or.inl rfl
    · by_cases z : nI b = -1
      · rw [e, if_pos z]; exact Or.inl rfl
      · rw [e, if_neg z]
        split
        · exact Or.inl rfl
        · split
          · exact Or.inl rfl
          · split
            · rename_i c1 _ _
              refine Or.inr (Or.inr ⟨b, hb, c1, rfl, ?_⟩)
              rw [nI_clamp (by omega)]
            · exact Or.inl rfl
  · exact Or.inr (Or.inl rfl)
theorem sd_c {S : Nat → Nat → Nat → Int32} {g n0 n6 r c : Nat} {hr : Int32} (hn : n0 ≤ 60) (h1 : ¬ c = 1) (h2 : ¬ c = 36) (h3 : ¬ c = 39) (h4 : ¬ c = 40) (h5 : ¬ c = 41) : sdS S g n0 n6 hr r c = S c := by
  rcases sd_alt (S := S) (g := g) (n6 := n6) (r := r) (hr := hr) hn with e | e | ⟨b, _, _, _, e⟩
  · rw [e]
  · rw [e, up3_c h2]
  · rw [e, lvS_c h2 h3 h4 h5, up3_c h1]
theorem sd_r {S : Nat → Nat → Nat → Int32} {g n0 n6 r c i : Nat} {hr : Int32} (hn : n0 ≤ 60) (hi : ¬ i = r) (hc : ¬ c = 1) : sdS S g n0 n6 hr r c i = S c i := by
  rcases sd_alt (S := S) (g := g) (n6 := n6) (r := r) (hr := hr) hn with e | e | ⟨b, _, _, _, e⟩
  · rw [e]
  · rw [e, up3_o (fun w => hi w.2)]
  · rw [e, lvS_o hi, up3_c hc]
theorem sdK_c {S : Nat → Nat → Nat → Int32} {g n0 n6 c : Nat} {hr : Int32} {q : Nat → Nat} (hn : n0 ≤ 60) (h1 : ¬ c = 1) (h2 : ¬ c = 36) (h3 : ¬ c = 39) (h4 : ¬ c = 40) (h5 : ¬ c = 41) : ∀ k, sdK S g n0 n6 hr q k c = S c
  | 0 => rfl
  | k + 1 => by
    show sdS (sdK S g n0 n6 hr q k) g n0 n6 hr (q k) c = _
    rw [sd_c hn h1 h2 h3 h4 h5, sdK_c hn h1 h2 h3 h4 h5 k]
theorem sdK_r {S : Nat → Nat → Nat → Int32} {g n0 n6 c i : Nat} {hr : Int32} {q : Nat → Nat} (hn : n0 ≤ 60) (hc : ¬ c = 1) : ∀ k, (∀ p, p < k → ¬ q p = i) → sdK S g n0 n6 hr q k c i = S c i
  | 0, _ => rfl
  | k + 1, h => by
    show sdS (sdK S g n0 n6 hr q k) g n0 n6 hr (q k) c i = _
    rw [sd_r hn (fun w => h k (by omega) w.symm) hc, sdK_r hn hc k (fun p hp => h p (by omega))]
theorem m1_39 {S : Nat → Nat → Nat → Int32} {n0 n6 r : Nat} {a b : Int} (H : IVr S n0 n6 r a b) (c : S 36 r 0 = 0) : S 39 r 0 = -1 := by
  by_cases q : S 39 r 0 = -1
  · exact q
  · exfalso
    rcases (H.2.2.2 q).1 with w | w
    · rw [c] at w; exact absurd w (by decide)
    · rw [c] at w; exact absurd w (by decide)
theorem IV.sd {S : Nat → Nat → Nat → Int32} {g n0 n6 n2 r h : Nat} {b : Nat → Int} {d : Int} (H : IV S g n0 n6 n2 (h : Int) d b) (hrg : RgS S) (hn : n0 ≤ 60) (hr : r < n2) (c : S 36 r 0 = 0) (hh : h ≤ 9999) (hb : ∀ x, x < n2 → b x ≤ h + 1) : IV (sdS S g n0 n6 (nI h) r) g n0 n6 n2 (h : Int) d b := by
  obtain ⟨H1, H2, H3, H4⟩ := H
  have R := H1 r hr
  have m39 := m1_39 R c
  refine ⟨fun x hx => ?_, fun t ht => ?_, fun y hy => ?_, ?_⟩
  · by_cases q : x = r
    · subst q
      rcases sd_alt (S := S) (g := g) (n6 := n6) (r := x) (hr := nI h) hn with e | e | ⟨y9, hd, c1, _, e⟩
      · rw [e]; exact R
      · rw [e]
        obtain ⟨h1, h2, h3, h4⟩ := R
        unfold IVr
        rw [up3_s, up3_c (c' := 32) (by decide), up3_c (c' := 33) (by decide), up3_c (c' := 96) (by decide), up3_c (c' := 37) (by decide), up3_c (c' := 39) (by decide), up3_c (c' := 40) (by decide), up3_c (c' := 41) (by decide), up3_c (c' := 576) (by decide), up3_c (c' := 592) (by decide), up3_c (c' := 593) (by decide)]
        obtain ⟨w, k, i1, i2, i3, i4, i5, i6, i7, i8, i9⟩ := h2
        exact ⟨h1, ⟨w, k, i1, i2, i3, i4, i5, i6, i7, i8, fun z => i9 (Or.inl c)⟩, fun z => absurd z (by decide), fun z => absurd m39 z⟩
      · rw [e]
        obtain ⟨u, v, hu, hv, eu, ev, hne⟩ := tmG_o c1
        have ht := tmN_p hrg hu hv hne
        have et : tmG S (sSW S x (S 37 x 0 - 1)) (sSW S x (S 37 x 0)) = tmN S u v := by rw [eu, ev, tmG_i hu hv]
        rw [et, ht.1]
        obtain ⟨h1, h2, h3, h4⟩ := R
        unfold IVr
        rw [lvS_36, lvS_39, lvS_40, lvS_41, lvS_c (c := 32) (by decide) (by decide) (by decide) (by decide), lvS_c (c := 33) (by decide) (by decide) (by decide) (by decide), lvS_c (c := 96) (by decide) (by decide) (by decide) (by decide), lvS_c (c := 37) (by decide) (by decide) (by decide) (by decide), lvS_c (c := 576) (by decide) (by decide) (by decide) (by decide), lvS_c (c := 592) (by decide) (by decide) (by decide) (by decide), lvS_c (c := 593) (by decide) (by decide) (by decide) (by decide), up3_c (c' := 32) (by decide), up3_c (c' := 33) (by decide), up3_c (c' := 96) (by decide), up3_c (c' := 37) (by decide), up3_c (c' := 576) (by decide), up3_c (c' := 592) (by decide), up3_c (c' := 593) (by decide), nI_toInt (n := h) (by omega)]
        obtain ⟨w, k, i1, i2, i3, i4, i5, i6, i7, i8, i9⟩ := h2
        exact ⟨h1, ⟨w, k, i1, i2, i3, i4, i5, i6, i7, i8, fun z => i9 (Or.inl c)⟩, fun _ => nI_m (by omega), fun _ => ⟨Or.inl rfl, ⟨y9, hd, rfl⟩, by omega, by omega, ht.2.2.1, ht.2.2.2, by have := hb x hx; have := ht.2.2.1; omega⟩⟩
    · exact IVr.cg (fun k hk => sd_r hn q (fun w => by rw [w] at hk; exact absurd hk (by decide))) (sd_c hn (by decide) (by decide) (by decide) (by decide) (by decide)) (H1 x hx)
  · exact IVt.cg (sd_c hn (by decide) (by decide) (by decide) (by decide) (by decide)) (by rw [sd_c hn (by decide) (by decide) (by decide) (by decide) (by decide)]) (H2 t ht)
  · rcases sd_alt (S := S) (g := g) (n6 := n6) (r := r) (hr := nI h) hn with e | e | ⟨y9, hd, c1, _, e⟩
    · rw [e]; exact H3 y hy
    · rw [e]; exact IVh.cg (by rw [up3_c (by decide)]) (by rw [up3_c (by decide)]) (H3 y hy)
    · rw [e]
      by_cases q : y = y9
      · subst q
        refine ⟨Or.inl ?_, ?_⟩
        · rw [lvS_c (by decide) (by decide) (by decide) (by decide), up3_s]
        · rw [lvS_c (by decide) (by decide) (by decide) (by decide), up3_c (by decide)]; exact (H3 y hy).2
      · exact IVh.cg (by rw [lvS_c (by decide) (by decide) (by decide) (by decide), up3_o (fun w => q w.2)]) (by rw [lvS_c (by decide) (by decide) (by decide) (by decide), up3_c (by decide)]) (H3 y hy)
  · unfold IVl; rw [sd_c hn (by decide) (by decide) (by decide) (by decide) (by decide)]; exact H4
theorem RgS.sd {S : Nat → Nat → Nat → Int32} {g n0 n6 r : Nat} {hr : Int32} (hn : n0 ≤ 60) (h : RgS S) : RgS (sdS S g n0 n6 hr r) := RgS.fr h ⟨sd_c hn (by decide) (by decide) (by decide) (by decide) (by decide), sd_c hn (by decide) (by decide) (by decide) (by decide) (by decide)⟩
