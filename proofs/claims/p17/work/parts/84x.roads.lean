def RO (h s : Nat → Int32) (S : Nat → Nat → Nat → Int32) : Prop := ∀ u, u < 12 → ∀ v, v < 12 → h (12 * u + v) = S 416 u v ∧ s (12 * u + v) = S 432 u v
theorem RO.fr {h s : Nat → Int32} {S T : Nat → Nat → Nat → Int32} (r : RO h s S) (f : FR S T) : RO h s T := fun u hu v hv => by
  rw [f.1, f.2]; exact r u hu v hv
theorem up3_v {S : Nat → Nat → Nat → Int32} {c i j i' j' : Nat} {v : Int32} : up3 S c i j v c i' j' = if i' = i ∧ j' = j then v else S c i' j' := by
  show (if c = c ∧ i' = i ∧ j' = j then v else S c i' j') = _
  by_cases q : i' = i ∧ j' = j
  · rw [if_pos ⟨rfl, q⟩, if_pos q]
  · rw [if_neg (fun z => q z.2), if_neg q]
theorem upd_2 {s : Nat → Int32} {g : Int32} {u v x y : Nat} {p : Int32} (hu : u < 12) (hv : v < 12) (hx : x < 12) (hy : y < 12) (h : s (12 * x + y) = g) : upd (upd s (12 * u + v) p) (12 * v + u) p (12 * x + y) = if x = v ∧ y = u then p else if x = u ∧ y = v then p else g := by
  show (if 12 * x + y = 12 * v + u then p else if 12 * x + y = 12 * u + v then p else s (12 * x + y)) = _
  rw [h]
  by_cases q : x = v ∧ y = u
  · rw [if_pos (by omega), if_pos q]
  · rw [if_neg (by omega), if_neg q]
    by_cases q2 : x = u ∧ y = v
    · rw [if_pos (by omega), if_pos q2]
    · rw [if_neg (by omega), if_neg q2]
def LYm (h s f2 f3 : Nat → Int32) (p0 p1 p2 rv : Int32) : Prop := (rv = 0 ∧ f2 = h ∧ f3 = s ∧ sp_road p0 p1 p2 = 0) ∨ (rv = 1 ∧ ∃ u v : Nat, u < 12 ∧ v < 12 ∧ ¬ u = v ∧ p0 = nI u ∧ p1 = nI v ∧ ¬ p2 < 0 ∧ p2 ≤ 24 ∧ f2 = upd (upd h (12 * u + v) p2) (12 * v + u) p2 ∧ f3 = upd (upd s (12 * u + v) 0) (12 * v + u) 0)
def SNm (h s f3 : Nat → Int32) (p0 p1 p2 rv : Int32) : Prop := (rv = 0 ∧ f3 = s ∧ (sp_st p0 = 0 ∨ sp_st p1 = 0 ∨ (∃ u v : Nat, u < 12 ∧ v < 12 ∧ p0 = nI u ∧ p1 = nI v ∧ h (12 * u + v) = 0) ∨ p2 < 0 ∨ ¬ p2 ≤ 24)) ∨ (rv = 1 ∧ ∃ u v : Nat, u < 12 ∧ v < 12 ∧ p0 = nI u ∧ p1 = nI v ∧ ¬ h (12 * u + v) = 0 ∧ ¬ p2 < 0 ∧ p2 ≤ 24 ∧ f3 = upd (upd s (12 * u + v) p2) (12 * v + u) p2)
theorem sp_road_1 {u v : Nat} {p2 : Int32} (hu : u < 12) (hv : v < 12) (hne : ¬ u = v) (h0 : ¬ p2 < 0) (h1 : p2 ≤ 24) : ¬ sp_road (nI u) (nI v) p2 = 0 := by
  unfold sp_road
  rw [if_neg (st_nz hu), if_neg (st_nz hv), if_neg (fun q => hne (nI_inJ q (by omega) (by omega))), if_neg h0, if_pos h1]
  decide
theorem RO_ly {h s : Nat → Int32} {S : Nat → Nat → Nat → Int32} {u v : Nat} {p : Int32} (r : RO h s S) (hu : u < 12) (hv : v < 12) : RO (upd (upd h (12 * u + v) p) (12 * v + u) p) (upd (upd s (12 * u + v) 0) (12 * v + u) 0) (lyS S u v p) := fun x hx y hy => by
  unfold lyS
  refine ⟨?_, ?_⟩
  · rw [upd_2 hu hv hx hy (r x hx y hy).1, up3_c (by decide), up3_c (by decide), up3_v, up3_v]
  · rw [upd_2 hu hv hx hy (r x hx y hy).2, up3_v, up3_v, up3_c (by decide), up3_c (by decide)]
theorem RO_sn {h s : Nat → Int32} {S : Nat → Nat → Nat → Int32} {u v : Nat} {p : Int32} (r : RO h s S) (hu : u < 12) (hv : v < 12) : RO h (upd (upd s (12 * u + v) p) (12 * v + u) p) (snS S u v p) := fun x hx y hy => by
  unfold snS
  refine ⟨?_, ?_⟩
  · rw [up3_c (by decide), up3_c (by decide)]; exact (r x hx y hy).1
  · rw [upd_2 hu hv hx hy (r x hx y hy).2, up3_v, up3_v]
theorem LY_u {h s f2 f3 : Nat → Int32} {S T : Nat → Nat → Nat → Int32} {p0 p1 p2 a b : Int32} (r : RO h s S) (c : LY S T p0 p1 p2 a) (m : LYm h s f2 f3 p0 p1 p2 b) : a = b ∧ RO f2 f3 T := by
  rcases c with ⟨c0, c1, c2⟩ | ⟨c0, u, v, hu, hv, hne, e0, e1, h0, h1, c1⟩
  · rcases m with ⟨m0, m1, m2, m3⟩ | ⟨m0, x, y, hx, hy, hxy, g0, g1, k0, k1, m1, m2⟩
    · rw [c0, m0, c1, m1, m2]; exact ⟨rfl, r⟩
    · rw [g0, g1] at c2; exact absurd c2 (sp_road_1 hx hy hxy k0 k1)
  · rcases m with ⟨m0, m1, m2, m3⟩ | ⟨m0, x, y, hx, hy, hxy, g0, g1, k0, k1, m1, m2⟩
    · rw [e0, e1] at m3; exact absurd m3 (sp_road_1 hu hv hne h0 h1)
    · have ex : u = x := nI_inJ (e0.symm.trans g0) (by omega) (by omega)
      have ey : v = y := nI_inJ (e1.symm.trans g1) (by omega) (by omega)
      subst ex; subst ey
      rw [c0, m0, c1, m1, m2]
      exact ⟨rfl, RO_ly r hu hv⟩
theorem tm_ne {h s : Nat → Int32} {S : Nat → Nat → Nat → Int32} {u v : Nat} (hh : Rng h) (hs : Rng s) (r : RO h s S) (hu : u < 12) (hv : v < 12) (c : ¬ h (12 * u + v) = 0) : ¬ tmG S (nI u) (nI v) = -1 := by
  unfold tmG
  rw [if_neg (st_nz hu), if_neg (st_nz hv), nI_clamp (by omega), nI_clamp (by omega)]
  unfold tmN
  have e1 := (r u hu v hv).1
  have e2 := (r u hu v hv).2
  rw [← e1, ← e2, if_neg c]
  have a1 := hh (12 * u + v) (by omega)
  have a2 := hs (12 * u + v) (by omega)
  intro q
  have z := congrArg Int32.toInt q
  rw [a_i (by omega) (by omega), show (-1 : Int32).toInt = -1 from rfl] at z
  omega
theorem SN_u {h s f3 : Nat → Int32} {S T : Nat → Nat → Nat → Int32} {p0 p1 p2 a b : Int32} (hh : Rng h) (hs : Rng s) (r : RO h s S) (c : SN S T p0 p1 p2 a) (m : SNm h s f3 p0 p1 p2 b) : a = b ∧ RO h f3 T := by
  rcases c with ⟨c0, c1, c2⟩ | ⟨c0, u, v, hu, hv, e0, e1, hz, h0, h1, c1⟩
  · rcases m with ⟨m0, m1, m3⟩ | ⟨m0, x, y, hx, hy, g0, g1, gz, k0, k1, m1⟩
    · rw [c0, m0, c1, m1]; exact ⟨rfl, r⟩
    · exfalso
      rw [g0, g1] at c2
      rcases c2 with c2 | c2 | c2
      · exact tm_ne hh hs r hx hy gz c2
      · exact k0 c2
      · exact c2 k1
  · rcases m with ⟨m0, m1, m3⟩ | ⟨m0, x, y, hx, hy, g0, g1, gz, k0, k1, m1⟩
    · exfalso
      rw [e0, e1] at m3
      rcases m3 with m3 | m3 | ⟨x, y, hx, hy, g0, g1, gz⟩ | m3 | m3
      · exact st_nz hu m3
      · exact st_nz hv m3
      · have ex : u = x := nI_inJ g0 (by omega) (by omega)
        have ey : v = y := nI_inJ g1 (by omega) (by omega)
        subst ex; subst ey
        rw [(r u hu v hv).1] at gz
        exact hz gz
      · exact h0 m3
      · exact m3 h1
    · have ex : u = x := nI_inJ (e0.symm.trans g0) (by omega) (by omega)
      have ey : v = y := nI_inJ (e1.symm.trans g1) (by omega) (by omega)
      subst ex; subst ey
      rw [c0, m0, c1, m1]
      exact ⟨rfl, RO_sn r hu hv⟩
theorem RO.rg {h s : Nat → Int32} {S : Nat → Nat → Nat → Int32} (hh : Rng h) (hs : Rng s) (r : RO h s S) : RgS S := fun u hu v hv => by
  have a := hh (12 * u + v) (by omega)
  have b := hs (12 * u + v) (by omega)
  rw [(r u hu v hv).1] at a
  rw [(r u hu v hv).2] at b
  exact ⟨a, b⟩
theorem sw2 {u v x y : Nat} {p g g2 : Int32} (h : g = g2) : (if x = v ∧ y = u then p else if x = u ∧ y = v then p else g) = if y = v ∧ x = u then p else if y = u ∧ x = v then p else g2 := by
  by_cases a : x = v ∧ y = u
  · by_cases b : y = v ∧ x = u
    · rw [if_pos a, if_pos b]
    · rw [if_pos a, if_neg b, if_pos ⟨a.2, a.1⟩]
  · by_cases b : y = v ∧ x = u
    · rw [if_neg a, if_pos b, if_pos ⟨b.2, b.1⟩]
    · rw [if_neg a, if_neg b, if_neg (fun q => b ⟨q.2, q.1⟩), if_neg (fun q => a ⟨q.2, q.1⟩), h]
theorem LY_sy {S T : Nat → Nat → Nat → Int32} {p0 p1 p2 a : Int32} (h : Sy S) (c : LY S T p0 p1 p2 a) : Sy T := by
  rcases c with ⟨_, c, _⟩ | ⟨_, u, v, hu, hv, hne, _, _, _, _, c⟩
  · rw [c]; exact h
  · rw [c]; unfold lyS
    intro x hx
    refine ⟨?_, fun y hy => ⟨?_, ?_⟩⟩
    · rw [up3_c (by decide), up3_c (by decide), up3_v, up3_v, if_neg (fun q => hne (by omega)), if_neg (fun q => hne (by omega))]
      exact (h x hx).1
    · rw [up3_c (by decide), up3_c (by decide), up3_v, up3_v, up3_v, up3_v]
      exact sw2 ((h x hx).2 y hy).1
    · rw [up3_v, up3_v, up3_v, up3_v, up3_c (by decide), up3_c (by decide)]
      exact sw2 ((h x hx).2 y hy).2
theorem SN_sy {S T : Nat → Nat → Nat → Int32} {p0 p1 p2 a : Int32} (h : Sy S) (c : SN S T p0 p1 p2 a) : Sy T := by
  rcases c with ⟨_, c, _⟩ | ⟨_, u, v, hu, hv, _, _, _, _, _, c⟩
  · rw [c]; exact h
  · rw [c]; unfold snS
    intro x hx
    refine ⟨?_, fun y hy => ⟨?_, ?_⟩⟩
    · rw [up3_c (by decide), up3_c (by decide)]; exact (h x hx).1
    · rw [up3_c (by decide), up3_c (by decide)]; exact ((h x hx).2 y hy).1
    · rw [up3_v, up3_v, up3_v, up3_v]
      exact sw2 ((h x hx).2 y hy).2
