set_option maxHeartbeats 4000000 in
set_option maxRecDepth 100000 in
theorem c_X9_reach (l : Launch) (dC : Nat → ClassId) (dI : Nat → Nat → Nat) (h0 : Nat) (m1 : Nat) (m5 : Nat) (m6 : Nat) (m7 : Nat) (m15 : Nat) (m16 : Nat) (m17 : Nat) (m18 : Nat) (m19 : Nat) (m20 : Nat) (m22 : Nat) (m23 : Nat) (m24 : Nat) (m25 : Nat) (m26 : Nat) (m27 : Nat) (m28 : Nat) (m29 : Nat) (m30 : Nat) (m31 : Nat) (m32 : Nat) (m33 : Nat) (m34 : Nat) (m37 : Nat) (m38 : Nat) (m39 : Nat) (m40 : Nat) (m41 : Nat) (m42 : Nat) (m43 : Nat) (m44 : Nat) (m45 : Nat) (m46 : Nat) (k_hours : ClassId) (k_least : ClassId) (t0 : Nat → Int32) (g : Nat) (sz : Nat) (hg : g < 12) : Met l yX9_reach wsX9_reach ({ frames := 1, cells := 0, slots := 0, locals := 22 }) (va_Pc [.ref h0, .int (nI g)] (cP dC dI [(h0, .inr (9, [.int 0, .ref m1, .int 0, .int 0, .int 0, .ref m5, .ref m6, .ref m7, .int 0, .int 0, .int 0, .int 0, .int 0, .int 0, .long 0, .ref m15, .ref m16, .ref m17, .ref m18, .ref m19, .ref m20, .int 0, .ref m22, .ref m23, .ref m24, .ref m25, .ref m26, .ref m27, .ref m28, .ref m29, .ref m30, .ref m31, .ref m32, .ref m33, .ref m34, .int 0, .int 0, .ref m37, .ref m38, .ref m39, .ref m40, .ref m41, .ref m42, .ref m43, .ref m44, .ref m45, .ref m46])), (m15, .inl (k_hours, 144, .inl (fun _ => 0))), (m17, .inl (k_least, 12, .inl t0))] [(k_hours, .int), (k_least, .int)] sz)) (va_Qv (fun (_ : Unit) => True) (fun (_ : Unit) t9 => ∃ (t2 : Nat → Int32), (∀ j, j < 12 → t2 j = gl g j) ∧ cQ dC dI [(h0, .inr (9, [.int 0, .ref m1, .int 0, .int 0, .int 0, .ref m5, .ref m6, .ref m7, .int 0, .int 0, .int 0, .int 0, .int 0, .int 0, .long 0, .ref m15, .ref m16, .ref m17, .ref m18, .ref m19, .ref m20, .int 0, .ref m22, .ref m23, .ref m24, .ref m25, .ref m26, .ref m27, .ref m28, .ref m29, .ref m30, .ref m31, .ref m32, .ref m33, .ref m34, .int 0, .int 0, .ref m37, .ref m38, .ref m39, .ref m40, .ref m41, .ref m42, .ref m43, .ref m44, .ref m45, .ref m46])), (m17, .inl (k_least, 12, .inl t2))] [] (va_A [(h0, .inr (9, [.int 0, .ref m1, .int 0, .int 0, .int 0, .ref m5, .ref m6, .ref m7, .int 0, .int 0, .int 0, .int 0, .int 0, .int 0, .long 0, .ref m15, .ref m16, .ref m17, .ref m18, .ref m19, .ref m20, .int 0, .ref m22, .ref m23, .ref m24, .ref m25, .ref m26, .ref m27, .ref m28, .ref m29, .ref m30, .ref m31, .ref m32, .ref m33, .ref m34, .int 0, .int 0, .ref m37, .ref m38, .ref m39, .ref m40, .ref m41, .ref m42, .ref m43, .ref m44, .ref m45, .ref m46])), (m15, .inl (k_hours, 144, .inl (fun _ => 0))), (m17, .inl (k_least, 12, .inl t0))] sz) t9) (va_A [(h0, .inr (9, [.int 0, .ref m1, .int 0, .int 0, .int 0, .ref m5, .ref m6, .ref m7, .int 0, .int 0, .int 0, .int 0, .int 0, .int 0, .long 0, .ref m15, .ref m16, .ref m17, .ref m18, .ref m19, .ref m20, .int 0, .ref m22, .ref m23, .ref m24, .ref m25, .ref m26, .ref m27, .ref m28, .ref m29, .ref m30, .ref m31, .ref m32, .ref m33, .ref m34, .int 0, .int 0, .ref m37, .ref m38, .ref m39, .ref m40, .ref m41, .ref m42, .ref m43, .ref m44, .ref m45, .ref m46])), (m15, .inl (k_hours, 144, .inl (fun _ => 0))), (m17, .inl (k_least, 12, .inl t0))] sz)) 0 0 (va_A [(h0, .inr (9, [.int 0, .ref m1, .int 0, .int 0, .int 0, .ref m5, .ref m6, .ref m7, .int 0, .int 0, .int 0, .int 0, .int 0, .int 0, .long 0, .ref m15, .ref m16, .ref m17, .ref m18, .ref m19, .ref m20, .int 0, .ref m22, .ref m23, .ref m24, .ref m25, .ref m26, .ref m27, .ref m28, .ref m29, .ref m30, .ref m31, .ref m32, .ref m33, .ref m34, .int 0, .int 0, .ref m37, .ref m38, .ref m39, .ref m40, .ref m41, .ref m42, .ref m43, .ref m44, .ref m45, .ref m46])), (m15, .inl (k_hours, 144, .inl (fun _ => 0))), (m17, .inl (k_least, 12, .inl t0))] sz) := by
  refine Met.ofW (cc := cX9_reach) (maxL := 5) (ret := none) (by decide) rfl ?_
  intro p e s m args below meth c s₁ B hml hv
  obtain ⟨rfl, hsz, hP, hK, hD0, hN⟩ := hv
  have hx := B.exec
  have hb := B.bytes
  have hr := B.returns
  have hts := atoms_spec (ws := wsX9_reach) B.pre
  have hown : s.vm.findClass RX9 = some m.cls := findClass_of_methodNamed B.named
  have hlocks := B.notSynchronized
  subst hsz
  have hin9 : ∀ w ∈ u_ws RX9 TX9 47, w ∈ wsX9_reach := by decide +kernel
  have hD := hD0.self (sz := s.heap.size)
  generalize hAe : va_A [(h0, .inr (9, [.int 0, .ref m1, .int 0, .int 0, .int 0, .ref m5, .ref m6, .ref m7, .int 0, .int 0, .int 0, .int 0, .int 0, .int 0, .long 0, .ref m15, .ref m16, .ref m17, .ref m18, .ref m19, .ref m20, .int 0, .ref m22, .ref m23, .ref m24, .ref m25, .ref m26, .ref m27, .ref m28, .ref m29, .ref m30, .ref m31, .ref m32, .ref m33, .ref m34, .int 0, .int 0, .ref m37, .ref m38, .ref m39, .ref m40, .ref m41, .ref m42, .ref m43, .ref m44, .ref m45, .ref m46])), (m15, .inl (k_hours, 144, .inl (fun _ => 0))), (m17, .inl (k_least, 12, .inl t0))] s.heap.size = A at hD ⊢
  have hA : ∀ q : Nat, s.heap.size ≤ q → A q := fun q h => by rw [← hAe]; exact Or.inr h
  have hS : va_S A s.heap s.heap [] := va_S.rf
  have hP : va_P (dC, dI) vwCl [(h0, .inr (9, [.int 0, .ref m1, .int 0, .int 0, .int 0, .ref m5, .ref m6, .ref m7, .int 0, .int 0, .int 0, .int 0, .int 0, .int 0, .long 0, .ref m15, .ref m16, .ref m17, .ref m18, .ref m19, .ref m20, .int 0, .ref m22, .ref m23, .ref m24, .ref m25, .ref m26, .ref m27, .ref m28, .ref m29, .ref m30, .ref m31, .ref m32, .ref m33, .ref m34, .int 0, .int 0, .ref m37, .ref m38, .ref m39, .ref m40, .ref m41, .ref m42, .ref m43, .ref m44, .ref m45, .ref m46])), (m15, .inl (k_hours, 144, .inl (fun _ => 0))), (m17, .inl (k_least, 12, .inl t0))] s.heap := hP
  have hl := lv_entry ([.ref h0, .int (nI g)]) (n := 5) (Nat.le_of_ble_eq_true rfl)
  rw [lg_entry_eq]
  generalize (lg_sl ([.ref h0, .int (nI g)]) ++ List.replicate (5 - (lg_sl ([.ref h0, .int (nI g)])).length) Slot.unset).toArray = ls at hl ⊢
  have hl : lv_has ls 5 [(0, .ref h0), (1, .int (nI g))] := hl
  refine lv_iconst (v := 0) hx hb dX9_reach_0 (by decide) ?_
  refine lv_istore_n (lv' := [(2, .int 0), (0, .ref h0), (1, .int (nI g))]) hx hb dX9_reach_1 rfl hl (by decide) rfl (fun ls hl => ?_)
  have HL : ∀ (n k : Nat) (t : Nat → Int32), k ≤ 12 → 12 + 1 ≤ k + n → (∀ j, j < k → t j = gl g j) → ∀ (H : Heap) (locs : List Loc), va_P (dC, dI) vwCl [(h0, .inr (9, [.int 0, .ref m1, .int 0, .int 0, .int 0, .ref m5, .ref m6, .ref m7, .int 0, .int 0, .int 0, .int 0, .int 0, .int 0, .long 0, .ref m15, .ref m16, .ref m17, .ref m18, .ref m19, .ref m20, .int 0, .ref m22, .ref m23, .ref m24, .ref m25, .ref m26, .ref m27, .ref m28, .ref m29, .ref m30, .ref m31, .ref m32, .ref m33, .ref m34, .int 0, .int 0, .ref m37, .ref m38, .ref m39, .ref m40, .ref m41, .ref m42, .ref m43, .ref m44, .ref m45, .ref m46])), (m15, .inl (k_hours, 144, .inl (fun _ => 0))), (m17, .inl (k_least, 12, .inl t))] H → va_D A [(h0, .inr (9, [.int 0, .ref m1, .int 0, .int 0, .int 0, .ref m5, .ref m6, .ref m7, .int 0, .int 0, .int 0, .int 0, .int 0, .int 0, .long 0, .ref m15, .ref m16, .ref m17, .ref m18, .ref m19, .ref m20, .int 0, .ref m22, .ref m23, .ref m24, .ref m25, .ref m26, .ref m27, .ref m28, .ref m29, .ref m30, .ref m31, .ref m32, .ref m33, .ref m34, .int 0, .int 0, .ref m37, .ref m38, .ref m39, .ref m40, .ref m41, .ref m42, .ref m43, .ref m44, .ref m45, .ref m46])), (m15, .inl (k_hours, 144, .inl (fun _ => 0))), (m17, .inl (k_least, 12, .inl t))] → va_S A s.heap H locs → ∀ ls : Array Slot, lv_has ls 5 [(0, .ref h0), (1, .int (nI g)), (2, .int (nI k))] → W p l e (headSpec wsX9_reach ({ frames := 1, cells := 0, slots := 0, locals := 22 })).room s m ([.ref h0, .int (nI g)]).toArray below meth c H locs 0 0 (MQ below (va_Qv (fun (_ : Unit) => True) (fun (_ : Unit) t9 => ∃ (t2 : Nat → Int32), (∀ j, j < 12 → t2 j = gl g j) ∧ cQ dC dI [(h0, .inr (9, [.int 0, .ref m1, .int 0, .int 0, .int 0, .ref m5, .ref m6, .ref m7, .int 0, .int 0, .int 0, .int 0, .int 0, .int 0, .long 0, .ref m15, .ref m16, .ref m17, .ref m18, .ref m19, .ref m20, .int 0, .ref m22, .ref m23, .ref m24, .ref m25, .ref m26, .ref m27, .ref m28, .ref m29, .ref m30, .ref m31, .ref m32, .ref m33, .ref m34, .int 0, .int 0, .ref m37, .ref m38, .ref m39, .ref m40, .ref m41, .ref m42, .ref m43, .ref m44, .ref m45, .ref m46])), (m17, .inl (k_least, 12, .inl t2))] [] A t9) A) ([.ref h0, .int (nI g)]).toArray s 0 0 A) (F0 m 2 ls []) := by
    intro n
    induction n with
    | zero => intro k t h1 h2; exact absurd h2 (by omega)
    | succ n ih =>
      intro k t hk hn htg H locs hP hD hS ls hl
      refine lv_iload_n hx hb dX9_reach_2 rfl (lv_at hl 2 rfl) ?_
      refine lv_bipush (v := 12) hx hb dX9_reach_3 (by decide) ?_
      refine lv_icmp_ge (tgt := 31) hx hb dX9_reach_5 (by decide) (fun c_1 => ?_) (fun c_1 => ?_)
      · have hke : k = 12 := by
          rcases Nat.lt_or_ge k 12 with q | q
          · exact absurd c_1 (nI_ge q (by decide))
          · omega
        subst hke
        refine lv_iconst (v := 1) hx hb dX9_reach_31 (by decide) ?_
        refine lv_istore_n (lv' := [(2, .int 1), (0, .ref h0), (1, .int (nI g))]) hx hb dX9_reach_32 rfl hl (by decide) rfl (fun ls hl => ?_)
        refine lv_iload_n hx hb dX9_reach_33 rfl (lv_at hl 0 rfl) ?_
        refine lv_if_eq (tgt := 132) hx hb dX9_reach_34 (by decide) (fun c_2 => by first | exact absurd c_2 (by decide) | exact absurd (by decide) c_2) (fun _ => ?_)
        refine lv_iconst (v := 0) hx hb dX9_reach_37 (by decide) ?_
        refine lv_istore_n (lv' := [(2, .int 0), (0, .ref h0), (1, .int (nI g))]) hx hb dX9_reach_38 rfl hl (by decide) rfl (fun ls hl => ?_)
        refine lv_iconst (v := 0) hx hb dX9_reach_39 (by decide) ?_
        refine lv_istore_n (lv' := [(3, .int 0), (2, .int 0), (0, .ref h0), (1, .int (nI g))]) hx hb dX9_reach_40 rfl hl (by decide) rfl (fun ls hl => ?_)
        have HL_ku : ∀ (n_ku ku : Nat), ku ≤ 12 → 12 + 1 ≤ ku + n_ku → ∀ (H : Heap) (locs : List Loc), va_P (dC, dI) vwCl [(h0, .inr (9, [.int 0, .ref m1, .int 0, .int 0, .int 0, .ref m5, .ref m6, .ref m7, .int 0, .int 0, .int 0, .int 0, .int 0, .int 0, .long 0, .ref m15, .ref m16, .ref m17, .ref m18, .ref m19, .ref m20, .int 0, .ref m22, .ref m23, .ref m24, .ref m25, .ref m26, .ref m27, .ref m28, .ref m29, .ref m30, .ref m31, .ref m32, .ref m33, .ref m34, .int 0, .int 0, .ref m37, .ref m38, .ref m39, .ref m40, .ref m41, .ref m42, .ref m43, .ref m44, .ref m45, .ref m46])), (m15, .inl (k_hours, 144, .inl (fun _ => 0))), (m17, .inl (k_least, 12, .inl t))] H → va_D A [(h0, .inr (9, [.int 0, .ref m1, .int 0, .int 0, .int 0, .ref m5, .ref m6, .ref m7, .int 0, .int 0, .int 0, .int 0, .int 0, .int 0, .long 0, .ref m15, .ref m16, .ref m17, .ref m18, .ref m19, .ref m20, .int 0, .ref m22, .ref m23, .ref m24, .ref m25, .ref m26, .ref m27, .ref m28, .ref m29, .ref m30, .ref m31, .ref m32, .ref m33, .ref m34, .int 0, .int 0, .ref m37, .ref m38, .ref m39, .ref m40, .ref m41, .ref m42, .ref m43, .ref m44, .ref m45, .ref m46])), (m15, .inl (k_hours, 144, .inl (fun _ => 0))), (m17, .inl (k_least, 12, .inl t))] → va_S A s.heap H locs → ∀ ls : Array Slot, lv_has ls 5 [(0, .ref h0), (2, .int 0), (3, .int (nI ku))] → W p l e (headSpec wsX9_reach ({ frames := 1, cells := 0, slots := 0, locals := 22 })).room s m ([.ref h0, .int (nI g)]).toArray below meth c H locs 0 0 (MQ below (va_Qv (fun (_ : Unit) => True) (fun (_ : Unit) t9 => ∃ (t2 : Nat → Int32), (∀ j, j < 12 → t2 j = gl g j) ∧ cQ dC dI [(h0, .inr (9, [.int 0, .ref m1, .int 0, .int 0, .int 0, .ref m5, .ref m6, .ref m7, .int 0, .int 0, .int 0, .int 0, .int 0, .int 0, .long 0, .ref m15, .ref m16, .ref m17, .ref m18, .ref m19, .ref m20, .int 0, .ref m22, .ref m23, .ref m24, .ref m25, .ref m26, .ref m27, .ref m28, .ref m29, .ref m30, .ref m31, .ref m32, .ref m33, .ref m34, .int 0, .int 0, .ref m37, .ref m38, .ref m39, .ref m40, .ref m41, .ref m42, .ref m43, .ref m44, .ref m45, .ref m46])), (m17, .inl (k_least, 12, .inl t2))] [] A t9) A) ([.ref h0, .int (nI g)]).toArray s 0 0 A) (F0 m 41 ls []) := by
          intro n_ku
          induction n_ku with
          | zero => intro ku h1 h2; exact absurd h2 (by omega)
          | succ n_ku ih_ku =>
            intro ku hk_ku hn_ku H locs hP hD hS ls hl
            refine lv_iload_n hx hb dX9_reach_41 rfl (lv_at hl 2 rfl) ?_
            refine lv_bipush (v := 12) hx hb dX9_reach_42 (by decide) ?_
            refine lv_icmp_ge (tgt := 129) hx hb dX9_reach_44 (by decide) (fun c_3 => ?_) (fun c_3 => ?_)
            · have hke_ku : ku = 12 := by
                rcases Nat.lt_or_ge ku 12 with q | q
                · exact absurd c_3 (nI_ge q (by decide))
                · omega
              refine lv_goto (tgt := 33) hx hb dX9_reach_129 (by decide) ?_
              refine lv_iload_n hx hb dX9_reach_33 rfl (lv_at hl 1 rfl) ?_
              refine lv_if_eq (tgt := 132) hx hb dX9_reach_34 (by decide) (fun _ => ?_) (fun c_4 => by first | exact absurd c_4 (by decide) | exact absurd (by decide) c_4)
              have hP9 := hP.sub (ws' := [(h0, .inr (9, [.int 0, .ref m1, .int 0, .int 0, .int 0, .ref m5, .ref m6, .ref m7, .int 0, .int 0, .int 0, .int 0, .int 0, .int 0, .long 0, .ref m15, .ref m16, .ref m17, .ref m18, .ref m19, .ref m20, .int 0, .ref m22, .ref m23, .ref m24, .ref m25, .ref m26, .ref m27, .ref m28, .ref m29, .ref m30, .ref m31, .ref m32, .ref m33, .ref m34, .int 0, .int 0, .ref m37, .ref m38, .ref m39, .ref m40, .ref m41, .ref m42, .ref m43, .ref m44, .ref m45, .ref m46])), (m17, .inl (k_least, 12, .inl t))]) [0, 2] rfl
              have hD9 := hD.sub (ws' := [(h0, .inr (9, [.int 0, .ref m1, .int 0, .int 0, .int 0, .ref m5, .ref m6, .ref m7, .int 0, .int 0, .int 0, .int 0, .int 0, .int 0, .long 0, .ref m15, .ref m16, .ref m17, .ref m18, .ref m19, .ref m20, .int 0, .ref m22, .ref m23, .ref m24, .ref m25, .ref m26, .ref m27, .ref m28, .ref m29, .ref m30, .ref m31, .ref m32, .ref m33, .ref m34, .int 0, .int 0, .ref m37, .ref m38, .ref m39, .ref m40, .ref m41, .ref m42, .ref m43, .ref m44, .ref m45, .ref m46])), (m17, .inl (k_least, 12, .inl t))]) [0, 2] (by decide) rfl
              have hK9 := hK.sub (tys' := []) [] rfl
              refine W.widen (k := 0) (n := 0) (Nat.le_of_ble_eq_true rfl) (Nat.le_of_ble_eq_true rfl) ?_
              exact W.vret hx hb hr (fun t9 ht hW => ⟨⟨(), rfl, trivial, t, htg, by rw [ht]; exact hP9, va_K.moved hW.alike hK9, hD9⟩, hS.F ht⟩) hS.2.2 dX9_reach_132
            · have hlt_ku : ku < 12 := by
                rcases Nat.lt_or_ge ku 12 with q | q
                · exact q
                · exact absurd (show nI 12 ≤ nI ku from nI_le q (by omega)) c_3
              refine lv_iconst (v := 0) hx hb dX9_reach_47 (by decide) ?_
              refine lv_istore (lv' := [(4, .int 0), (0, .ref h0), (2, .int 0), (3, .int (nI ku))]) hx hb dX9_reach_48 hl (by decide) rfl (fun ls hl => ?_)
              have HL_kw : ∀ (n_kw kw : Nat), kw ≤ 12 → 12 + 1 ≤ kw + n_kw → ∀ (H : Heap) (locs : List Loc), va_P (dC, dI) vwCl [(h0, .inr (9, [.int 0, .ref m1, .int 0, .int 0, .int 0, .ref m5, .ref m6, .ref m7, .int 0, .int 0, .int 0, .int 0, .int 0, .int 0, .long 0, .ref m15, .ref m16, .ref m17, .ref m18, .ref m19, .ref m20, .int 0, .ref m22, .ref m23, .ref m24, .ref m25, .ref m26, .ref m27, .ref m28, .ref m29, .ref m30, .ref m31, .ref m32, .ref m33, .ref m34, .int 0, .int 0, .ref m37, .ref m38, .ref m39, .ref m40, .ref m41, .ref m42, .ref m43, .ref m44, .ref m45, .ref m46])), (m15, .inl (k_hours, 144, .inl (fun _ => 0))), (m17, .inl (k_least, 12, .inl t))] H → va_D A [(h0, .inr (9, [.int 0, .ref m1, .int 0, .int 0, .int 0, .ref m5, .ref m6, .ref m7, .int 0, .int 0, .int 0, .int 0, .int 0, .int 0, .long 0, .ref m15, .ref m16, .ref m17, .ref m18, .ref m19, .ref m20, .int 0, .ref m22, .ref m23, .ref m24, .ref m25, .ref m26, .ref m27, .ref m28, .ref m29, .ref m30, .ref m31, .ref m32, .ref m33, .ref m34, .int 0, .int 0, .ref m37, .ref m38, .ref m39, .ref m40, .ref m41, .ref m42, .ref m43, .ref m44, .ref m45, .ref m46])), (m15, .inl (k_hours, 144, .inl (fun _ => 0))), (m17, .inl (k_least, 12, .inl t))] → va_S A s.heap H locs → ∀ ls : Array Slot, lv_has ls 5 [(0, .ref h0), (2, .int 0), (3, .int (nI ku)), (4, .int (nI kw))] → W p l e (headSpec wsX9_reach ({ frames := 1, cells := 0, slots := 0, locals := 22 })).room s m ([.ref h0, .int (nI g)]).toArray below meth c H locs 0 0 (MQ below (va_Qv (fun (_ : Unit) => True) (fun (_ : Unit) t9 => ∃ (t2 : Nat → Int32), (∀ j, j < 12 → t2 j = gl g j) ∧ cQ dC dI [(h0, .inr (9, [.int 0, .ref m1, .int 0, .int 0, .int 0, .ref m5, .ref m6, .ref m7, .int 0, .int 0, .int 0, .int 0, .int 0, .int 0, .long 0, .ref m15, .ref m16, .ref m17, .ref m18, .ref m19, .ref m20, .int 0, .ref m22, .ref m23, .ref m24, .ref m25, .ref m26, .ref m27, .ref m28, .ref m29, .ref m30, .ref m31, .ref m32, .ref m33, .ref m34, .int 0, .int 0, .ref m37, .ref m38, .ref m39, .ref m40, .ref m41, .ref m42, .ref m43, .ref m44, .ref m45, .ref m46])), (m17, .inl (k_least, 12, .inl t2))] [] A t9) A) ([.ref h0, .int (nI g)]).toArray s 0 0 A) (F0 m 50 ls []) := by
                intro n_kw
                induction n_kw with
                | zero => intro kw h1 h2; exact absurd h2 (by omega)
                | succ n_kw ih_kw =>
                  intro kw hk_kw hn_kw H locs hP hD hS ls hl
                  refine lv_iload hx hb dX9_reach_50 (lv_at hl 3 rfl) ?_
                  refine lv_bipush (v := 12) hx hb dX9_reach_52 (by decide) ?_
                  refine lv_icmp_ge (tgt := 123) hx hb dX9_reach_54 (by decide) (fun c_5 => ?_) (fun c_5 => ?_)
                  · have hke_kw : kw = 12 := by
                      rcases Nat.lt_or_ge kw 12 with q | q
                      · exact absurd c_5 (nI_ge q (by decide))
                      · omega
                    refine lv_iinc (v := nI (ku + 1)) (lv' := [(3, .int (nI (ku + 1))), (0, .ref h0), (2, .int 0), (4, .int (nI kw))]) hx hb dX9_reach_123 hl (k := 2) rfl (by exact (nI_1 ku)) (by decide) rfl (fun ls hl => ?_)
                    refine lv_goto (tgt := 41) hx hb dX9_reach_126 (by decide) ?_
                    exact ih_ku (ku + 1) (by omega) (by omega) _ _ (hP.sub [0, 1, 2] rfl) (hD.sub [0, 1, 2] (by decide) rfl) hS ls (lv_sub hl [1, 2, 0] rfl)
                  · have hlt_kw : kw < 12 := by
                      rcases Nat.lt_or_ge kw 12 with q | q
                      · exact q
                      · exact absurd (show nI 12 ≤ nI kw from nI_le q (by omega)) c_5
                    refine lv_aload_n hx hb dX9_reach_57 rfl (lv_at hl 0 rfl) ?_
                    refine lv_iload_n hx hb dX9_reach_58 rfl (lv_at hl 2 rfl) ?_
                    refine lv_iload hx hb dX9_reach_59 (lv_at hl 3 rfl) ?_
                    have hPc := hP.sub (ws' := [(h0, .inr (9, [.int 0, .ref m1, .int 0, .int 0, .int 0, .ref m5, .ref m6, .ref m7, .int 0, .int 0, .int 0, .int 0, .int 0, .int 0, .long 0, .ref m15, .ref m16, .ref m17, .ref m18, .ref m19, .ref m20, .int 0, .ref m22, .ref m23, .ref m24, .ref m25, .ref m26, .ref m27, .ref m28, .ref m29, .ref m30, .ref m31, .ref m32, .ref m33, .ref m34, .int 0, .int 0, .ref m37, .ref m38, .ref m39, .ref m40, .ref m41, .ref m42, .ref m43, .ref m44, .ref m45, .ref m46])), (m15, .inl (k_hours, 144, .inl (fun _ => 0)))]) [0, 1] rfl
                    have hDc := hD.sub (ws' := [(h0, .inr (9, [.int 0, .ref m1, .int 0, .int 0, .int 0, .ref m5, .ref m6, .ref m7, .int 0, .int 0, .int 0, .int 0, .int 0, .int 0, .long 0, .ref m15, .ref m16, .ref m17, .ref m18, .ref m19, .ref m20, .int 0, .ref m22, .ref m23, .ref m24, .ref m25, .ref m26, .ref m27, .ref m28, .ref m29, .ref m30, .ref m31, .ref m32, .ref m33, .ref m34, .int 0, .int 0, .ref m37, .ref m38, .ref m39, .ref m40, .ref m41, .ref m42, .ref m43, .ref m44, .ref m45, .ref m46])), (m15, .inl (k_hours, 144, .inl (fun _ => 0)))]) [0, 1] (by decide) rfl
                    have hKc := hK.sub (tys' := [(k_hours, .int)]) [0] rfl
                    refine cs_i (va_runV (As := [.int (nI ku), .int (nI kw)]) (rest := []) ⟨hx, hb, hml, hown, hts⟩ (c_X9_roadOf l dC dI h0 m1 m5 m6 m7 m15 m16 m17 m18 m19 m20 m22 m23 m24 m25 m26 m27 m28 m29 m30 m31 m32 m33 m34 m37 m38 m39 m40 m41 m42 m43 m44 m45 m46 k_hours (nI ku) (nI kw) H.size (st_nI hlt_ku) (st_nI hlt_kw)) (cwV 2 hts gX9_reach_X9_roadOf rfl rfl rfl (by decide +kernel) ⟨Nat.le_of_ble_eq_true rfl, Nat.le_of_ble_eq_true rfl⟩) ⟨c_blind, va_recv hKc hPc (ci := 9) (q0 := 0) rfl rfl, c_pre hPc hKc hDc hN⟩ rfl rfl hl.1 rfl (lv_room (Nat.le_of_ble_eq_true rfl)) dX9_reach_61 ⟨Nat.le_of_ble_eq_true rfl, Nat.le_of_ble_eq_true rfl⟩) (fun r_6 hr_6 => ?_)
                    subst hr_6
                    refine lv_if_eq (tgt := 117) hx hb dX9_reach_64 (by decide) (fun _ => ?_) (fun c_7 => by first | exact absurd c_7 (by decide) | exact absurd (by decide) c_7)
                    refine lv_iinc (v := nI (kw + 1)) (lv' := [(4, .int (nI (kw + 1))), (0, .ref h0), (2, .int 0), (3, .int (nI ku))]) hx hb dX9_reach_117 hl (k := 3) rfl (by exact (nI_1 kw)) (by decide) rfl (fun ls hl => ?_)
                    refine lv_goto (tgt := 50) hx hb dX9_reach_120 (by decide) ?_
                    exact ih_kw (kw + 1) (by omega) (by omega) _ _ (hP.sub [0, 1, 2] rfl) (hD.sub [0, 1, 2] (by decide) rfl) hS ls (lv_sub hl [1, 2, 3, 0] rfl)
              exact HL_kw 13 0 (by omega) (by omega) _ _ (hP.sub [0, 1, 2] rfl) (hD.sub [0, 1, 2] (by decide) rfl) hS ls (lv_sub hl [1, 2, 3, 0] rfl)
        exact HL_ku 13 0 (by omega) (by omega) _ _ (hP.sub [0, 1, 2] rfl) (hD.sub [0, 1, 2] (by decide) rfl) hS ls (lv_sub hl [2, 1, 0] rfl)
      · have hlt : k < 12 := by
          rcases Nat.lt_or_ge k 12 with q | q
          · exact q
          · exact absurd (show nI 12 ≤ nI k from nI_le q (by omega)) c_1
        refine lv_aload_n hx hb dX9_reach_8 rfl (lv_at hl 0 rfl) ?_
        refine va_get (D := (dC, dI)) (ci := 9) (v := .ref m17) (C := RX9) (T := TX9) (N := 47) hx hb hts hin9 hown hK hP 0 rfl rfl 17 (by decide) (hts (.fieldLink RX9 30 "YamRidersModel" "least" "[I") (by decide +kernel)) (fun _ h9 => h9) rfl dX9_reach_9 ?_
        refine lv_iload_n hx hb dX9_reach_12 rfl (lv_at hl 2 rfl) ?_
        refine lv_iload_n hx hb dX9_reach_13 rfl (lv_at hl 2 rfl) ?_
        refine lv_iload_n hx hb dX9_reach_14 rfl (lv_at hl 1 rfl) ?_
        refine lv_icmp_ne (tgt := 22) hx hb dX9_reach_15 (by decide) (fun c_8 => ?_) (fun c_8 => ?_)
        · refine lv_ldc (v := 1000000) hx hb hown (hts (.constant RX9 194 (1000000)) (by decide +kernel)) dX9_reach_22 ?_
          refine va_iast hx hb hK hP hD hS 2 1 rfl rfl (vp_in_nI hlt (by decide)) dX9_reach_24 (fun H locs hP hD hS => ?_)
          have hP : va_P (dC, dI) vwCl [(h0, .inr (9, [.int 0, .ref m1, .int 0, .int 0, .int 0, .ref m5, .ref m6, .ref m7, .int 0, .int 0, .int 0, .int 0, .int 0, .int 0, .long 0, .ref m15, .ref m16, .ref m17, .ref m18, .ref m19, .ref m20, .int 0, .ref m22, .ref m23, .ref m24, .ref m25, .ref m26, .ref m27, .ref m28, .ref m29, .ref m30, .ref m31, .ref m32, .ref m33, .ref m34, .int 0, .int 0, .ref m37, .ref m38, .ref m39, .ref m40, .ref m41, .ref m42, .ref m43, .ref m44, .ref m45, .ref m46])), (m15, .inl (k_hours, 144, .inl (fun _ => 0))), (m17, .inl (k_least, 12, .inl (upd t (nI k).toNatClampNeg 1000000)))] H := hP
          have hD : va_D A [(h0, .inr (9, [.int 0, .ref m1, .int 0, .int 0, .int 0, .ref m5, .ref m6, .ref m7, .int 0, .int 0, .int 0, .int 0, .int 0, .int 0, .long 0, .ref m15, .ref m16, .ref m17, .ref m18, .ref m19, .ref m20, .int 0, .ref m22, .ref m23, .ref m24, .ref m25, .ref m26, .ref m27, .ref m28, .ref m29, .ref m30, .ref m31, .ref m32, .ref m33, .ref m34, .int 0, .int 0, .ref m37, .ref m38, .ref m39, .ref m40, .ref m41, .ref m42, .ref m43, .ref m44, .ref m45, .ref m46])), (m15, .inl (k_hours, 144, .inl (fun _ => 0))), (m17, .inl (k_least, 12, .inl (upd t (nI k).toNatClampNeg 1000000)))] := hD
          obtain ⟨f_9, ef_9⟩ : ∃ w9 : Nat → Int32, w9 = upd t (nI k).toNatClampNeg 1000000 := ⟨_, rfl⟩
          rw [← ef_9] at hP hD
          refine lv_iinc (v := nI (k + 1)) (lv' := [(2, .int (nI (k + 1))), (0, .ref h0), (1, .int (nI g))]) hx hb dX9_reach_25 hl (k := 2) rfl (by exact (nI_1 k)) (by decide) rfl (fun ls hl => ?_)
          refine lv_goto (tgt := 2) hx hb dX9_reach_28 (by decide) ?_
          exact ih (k + 1) f_9 (by omega) (by omega) (up_lt ef_9 hlt htg (gl_ne c_8)) _ _ (hP.sub [0, 1, 2] rfl) (hD.sub [0, 1, 2] (by decide) rfl) hS ls (lv_sub hl [1, 2, 0] rfl)
        · refine lv_iconst (v := 0) hx hb dX9_reach_18 (by decide) ?_
          refine lv_goto (tgt := 24) hx hb dX9_reach_19 (by decide) ?_
          refine va_iast hx hb hK hP hD hS 2 1 rfl rfl (vp_in_nI hlt (by decide)) dX9_reach_24 (fun H locs hP hD hS => ?_)
          have hP : va_P (dC, dI) vwCl [(h0, .inr (9, [.int 0, .ref m1, .int 0, .int 0, .int 0, .ref m5, .ref m6, .ref m7, .int 0, .int 0, .int 0, .int 0, .int 0, .int 0, .long 0, .ref m15, .ref m16, .ref m17, .ref m18, .ref m19, .ref m20, .int 0, .ref m22, .ref m23, .ref m24, .ref m25, .ref m26, .ref m27, .ref m28, .ref m29, .ref m30, .ref m31, .ref m32, .ref m33, .ref m34, .int 0, .int 0, .ref m37, .ref m38, .ref m39, .ref m40, .ref m41, .ref m42, .ref m43, .ref m44, .ref m45, .ref m46])), (m15, .inl (k_hours, 144, .inl (fun _ => 0))), (m17, .inl (k_least, 12, .inl (upd t (nI k).toNatClampNeg 0)))] H := hP
          have hD : va_D A [(h0, .inr (9, [.int 0, .ref m1, .int 0, .int 0, .int 0, .ref m5, .ref m6, .ref m7, .int 0, .int 0, .int 0, .int 0, .int 0, .int 0, .long 0, .ref m15, .ref m16, .ref m17, .ref m18, .ref m19, .ref m20, .int 0, .ref m22, .ref m23, .ref m24, .ref m25, .ref m26, .ref m27, .ref m28, .ref m29, .ref m30, .ref m31, .ref m32, .ref m33, .ref m34, .int 0, .int 0, .ref m37, .ref m38, .ref m39, .ref m40, .ref m41, .ref m42, .ref m43, .ref m44, .ref m45, .ref m46])), (m15, .inl (k_hours, 144, .inl (fun _ => 0))), (m17, .inl (k_least, 12, .inl (upd t (nI k).toNatClampNeg 0)))] := hD
          obtain ⟨f_10, ef_10⟩ : ∃ w9 : Nat → Int32, w9 = upd t (nI k).toNatClampNeg 0 := ⟨_, rfl⟩
          rw [← ef_10] at hP hD
          refine lv_iinc (v := nI (k + 1)) (lv' := [(2, .int (nI (k + 1))), (0, .ref h0), (1, .int (nI g))]) hx hb dX9_reach_25 hl (k := 2) rfl (by exact (nI_1 k)) (by decide) rfl (fun ls hl => ?_)
          refine lv_goto (tgt := 2) hx hb dX9_reach_28 (by decide) ?_
          exact ih (k + 1) f_10 (by omega) (by omega) (up_lt ef_10 hlt htg (gl_eq hlt hg c_8)) _ _ (hP.sub [0, 1, 2] rfl) (hD.sub [0, 1, 2] (by decide) rfl) hS ls (lv_sub hl [1, 2, 0] rfl)
  exact HL 13 0 t0 (by omega) (by omega) (fun j h => absurd h (by omega)) _ _ (hP.sub [0, 1, 2] rfl) (hD.sub [0, 1, 2] (by decide) rfl) hS ls (lv_sub hl [1, 2, 0] rfl)

set_option maxHeartbeats 4000000 in
set_option maxRecDepth 100000 in
theorem c_X9_hours (l : Launch) (dC : Nat → ClassId) (dI : Nat → Nat → Nat) (h0 : Nat) (m1 : Nat) (m5 : Nat) (m6 : Nat) (m7 : Nat) (m15 : Nat) (m16 : Nat) (m17 : Nat) (m18 : Nat) (m19 : Nat) (m20 : Nat) (m22 : Nat) (m23 : Nat) (m24 : Nat) (m25 : Nat) (m26 : Nat) (m27 : Nat) (m28 : Nat) (m29 : Nat) (m30 : Nat) (m31 : Nat) (m32 : Nat) (m33 : Nat) (m34 : Nat) (m37 : Nat) (m38 : Nat) (m39 : Nat) (m40 : Nat) (m41 : Nat) (m42 : Nat) (m43 : Nat) (m44 : Nat) (m45 : Nat) (m46 : Nat) (k_hours : ClassId) (k_least : ClassId) (t0 : Nat → Int32) (p0 : Int32) (p1 : Int32) (sz : Nat) : Met l yX9_hours wsX9_hours ({ frames := 2, cells := 0, slots := 0, locals := 46 }) (va_Pc [.ref h0, .int p0, .int p1] (cP dC dI [(h0, .inr (9, [.int 0, .ref m1, .int 0, .int 0, .int 0, .ref m5, .ref m6, .ref m7, .int 0, .int 0, .int 0, .int 0, .int 0, .int 0, .long 0, .ref m15, .ref m16, .ref m17, .ref m18, .ref m19, .ref m20, .int 0, .ref m22, .ref m23, .ref m24, .ref m25, .ref m26, .ref m27, .ref m28, .ref m29, .ref m30, .ref m31, .ref m32, .ref m33, .ref m34, .int 0, .int 0, .ref m37, .ref m38, .ref m39, .ref m40, .ref m41, .ref m42, .ref m43, .ref m44, .ref m45, .ref m46])), (m15, .inl (k_hours, 144, .inl (fun _ => 0))), (m17, .inl (k_least, 12, .inl t0))] [(k_hours, .int), (k_least, .int)] sz)) (va_Qi (fun (r : Int32) (_ : Unit) => r = sp_hr p0 p1) (fun (_ : Unit) t9 => cQ dC dI [] [] (va_A [(h0, .inr (9, [.int 0, .ref m1, .int 0, .int 0, .int 0, .ref m5, .ref m6, .ref m7, .int 0, .int 0, .int 0, .int 0, .int 0, .int 0, .long 0, .ref m15, .ref m16, .ref m17, .ref m18, .ref m19, .ref m20, .int 0, .ref m22, .ref m23, .ref m24, .ref m25, .ref m26, .ref m27, .ref m28, .ref m29, .ref m30, .ref m31, .ref m32, .ref m33, .ref m34, .int 0, .int 0, .ref m37, .ref m38, .ref m39, .ref m40, .ref m41, .ref m42, .ref m43, .ref m44, .ref m45, .ref m46])), (m15, .inl (k_hours, 144, .inl (fun _ => 0))), (m17, .inl (k_least, 12, .inl t0))] sz) t9) (va_A [(h0, .inr (9, [.int 0, .ref m1, .int 0, .int 0, .int 0, .ref m5, .ref m6, .ref m7, .int 0, .int 0, .int 0, .int 0, .int 0, .int 0, .long 0, .ref m15, .ref m16, .ref m17, .ref m18, .ref m19, .ref m20, .int 0, .ref m22, .ref m23, .ref m24, .ref m25, .ref m26, .ref m27, .ref m28, .ref m29, .ref m30, .ref m31, .ref m32, .ref m33, .ref m34, .int 0, .int 0, .ref m37, .ref m38, .ref m39, .ref m40, .ref m41, .ref m42, .ref m43, .ref m44, .ref m45, .ref m46])), (m15, .inl (k_hours, 144, .inl (fun _ => 0))), (m17, .inl (k_least, 12, .inl t0))] sz)) 0 0 (va_A [(h0, .inr (9, [.int 0, .ref m1, .int 0, .int 0, .int 0, .ref m5, .ref m6, .ref m7, .int 0, .int 0, .int 0, .int 0, .int 0, .int 0, .long 0, .ref m15, .ref m16, .ref m17, .ref m18, .ref m19, .ref m20, .int 0, .ref m22, .ref m23, .ref m24, .ref m25, .ref m26, .ref m27, .ref m28, .ref m29, .ref m30, .ref m31, .ref m32, .ref m33, .ref m34, .int 0, .int 0, .ref m37, .ref m38, .ref m39, .ref m40, .ref m41, .ref m42, .ref m43, .ref m44, .ref m45, .ref m46])), (m15, .inl (k_hours, 144, .inl (fun _ => 0))), (m17, .inl (k_least, 12, .inl t0))] sz) := by
  refine Met.ofW (cc := cX9_hours) (maxL := 3) (ret := (some .int)) (by decide) rfl ?_
  intro p e s m args below meth c s₁ B hml hv
  obtain ⟨rfl, hsz, hP, hK, hD0, hN⟩ := hv
  have hx := B.exec
  have hb := B.bytes
  have hr := B.returns
  have hts := atoms_spec (ws := wsX9_hours) B.pre
  have hown : s.vm.findClass RX9 = some m.cls := findClass_of_methodNamed B.named
  have hlocks := B.notSynchronized
  subst hsz
  have hin9 : ∀ w ∈ u_ws RX9 TX9 47, w ∈ wsX9_hours := by decide +kernel
  have hD := hD0.self (sz := s.heap.size)
  generalize hAe : va_A [(h0, .inr (9, [.int 0, .ref m1, .int 0, .int 0, .int 0, .ref m5, .ref m6, .ref m7, .int 0, .int 0, .int 0, .int 0, .int 0, .int 0, .long 0, .ref m15, .ref m16, .ref m17, .ref m18, .ref m19, .ref m20, .int 0, .ref m22, .ref m23, .ref m24, .ref m25, .ref m26, .ref m27, .ref m28, .ref m29, .ref m30, .ref m31, .ref m32, .ref m33, .ref m34, .int 0, .int 0, .ref m37, .ref m38, .ref m39, .ref m40, .ref m41, .ref m42, .ref m43, .ref m44, .ref m45, .ref m46])), (m15, .inl (k_hours, 144, .inl (fun _ => 0))), (m17, .inl (k_least, 12, .inl t0))] s.heap.size = A at hD ⊢
  have hA : ∀ q : Nat, s.heap.size ≤ q → A q := fun q h => by rw [← hAe]; exact Or.inr h
  have hS : va_S A s.heap s.heap [] := va_S.rf
  have hP : va_P (dC, dI) vwCl [(h0, .inr (9, [.int 0, .ref m1, .int 0, .int 0, .int 0, .ref m5, .ref m6, .ref m7, .int 0, .int 0, .int 0, .int 0, .int 0, .int 0, .long 0, .ref m15, .ref m16, .ref m17, .ref m18, .ref m19, .ref m20, .int 0, .ref m22, .ref m23, .ref m24, .ref m25, .ref m26, .ref m27, .ref m28, .ref m29, .ref m30, .ref m31, .ref m32, .ref m33, .ref m34, .int 0, .int 0, .ref m37, .ref m38, .ref m39, .ref m40, .ref m41, .ref m42, .ref m43, .ref m44, .ref m45, .ref m46])), (m15, .inl (k_hours, 144, .inl (fun _ => 0))), (m17, .inl (k_least, 12, .inl t0))] s.heap := hP
  have hl := lv_entry ([.ref h0, .int p0, .int p1]) (n := 3) (Nat.le_of_ble_eq_true rfl)
  rw [lg_entry_eq]
  generalize (lg_sl ([.ref h0, .int p0, .int p1]) ++ List.replicate (3 - (lg_sl ([.ref h0, .int p0, .int p1])).length) Slot.unset).toArray = ls at hl ⊢
  have hl : lv_has ls 3 [(0, .ref h0), (1, .int p0), (2, .int p1)] := hl
  refine lv_aload_n hx hb dX9_hours_0 rfl (lv_at hl 0 rfl) ?_
  refine lv_iconst (v := 0) hx hb dX9_hours_1 (by decide) ?_
  refine va_put (D := (dC, dI)) (ci := 9) (v := .int 0) (ty := (tyX9 0)) (C := RX9) (T := TX9) (N := 47) hx hb hts hin9 tyX9 tyX9_ok nmX9 hown hK hP hD hS 0 rfl rfl 0 (by decide) (hts (.fieldLink RX9 111 "YamRidersModel" "thrown" "I") (by decide +kernel)) (fun _ h9 => h9) rfl (by decide +kernel) rfl rfl (Nat.le_of_ble_eq_true rfl) dX9_hours_2 (fun H locs hP hD hS => ?_)
  have hP : va_P (dC, dI) vwCl [(h0, .inr (9, [.int 0, .ref m1, .int 0, .int 0, .int 0, .ref m5, .ref m6, .ref m7, .int 0, .int 0, .int 0, .int 0, .int 0, .int 0, .long 0, .ref m15, .ref m16, .ref m17, .ref m18, .ref m19, .ref m20, .int 0, .ref m22, .ref m23, .ref m24, .ref m25, .ref m26, .ref m27, .ref m28, .ref m29, .ref m30, .ref m31, .ref m32, .ref m33, .ref m34, .int 0, .int 0, .ref m37, .ref m38, .ref m39, .ref m40, .ref m41, .ref m42, .ref m43, .ref m44, .ref m45, .ref m46])), (m15, .inl (k_hours, 144, .inl (fun _ => 0))), (m17, .inl (k_least, 12, .inl t0))] H := hP
  have hD : va_D A [(h0, .inr (9, [.int 0, .ref m1, .int 0, .int 0, .int 0, .ref m5, .ref m6, .ref m7, .int 0, .int 0, .int 0, .int 0, .int 0, .int 0, .long 0, .ref m15, .ref m16, .ref m17, .ref m18, .ref m19, .ref m20, .int 0, .ref m22, .ref m23, .ref m24, .ref m25, .ref m26, .ref m27, .ref m28, .ref m29, .ref m30, .ref m31, .ref m32, .ref m33, .ref m34, .int 0, .int 0, .ref m37, .ref m38, .ref m39, .ref m40, .ref m41, .ref m42, .ref m43, .ref m44, .ref m45, .ref m46])), (m15, .inl (k_hours, 144, .inl (fun _ => 0))), (m17, .inl (k_least, 12, .inl t0))] := hD
  refine lv_iload_n hx hb dX9_hours_5 rfl (lv_at hl 1 rfl) ?_
  have hPc := hP.sub (ws' := []) [] rfl
  have hDc := hD.sub (ws' := []) [] (by decide) rfl
  have hKc := hK.sub (tys' := []) [] rfl
  refine cs_i (va_runS (As := [.int p0]) (rest := []) ⟨hx, hb, hml, hown, hts⟩ (c_X9_isStation l dC dI p0 H.size) (va_cwS 1 hts gX9_hours_X9_isStation rfl rfl rfl (by decide +kernel) ⟨Nat.le_of_ble_eq_true rfl, Nat.le_of_ble_eq_true rfl⟩) ⟨c_blind, c_pre hPc hKc hDc hN⟩ rfl rfl hl.1 rfl (lv_room (Nat.le_of_ble_eq_true rfl)) dX9_hours_6 ⟨Nat.le_of_ble_eq_true rfl, Nat.le_of_ble_eq_true rfl⟩) (fun r_1 hr_1 => ?_)
  subst hr_1
  refine lv_if_eq (tgt := 19) hx hb dX9_hours_9 (by decide) (fun c_2 => ?_) (fun c_2 => ?_)
  · refine lv_iconst (v := (-1)) hx hb dX9_hours_19 (by decide) ?_
    have hP9 := hP.sub (ws' := []) [] rfl
    have hD9 := hD.sub (ws' := []) [] (by decide) rfl
    have hK9 := hK.sub (tys' := []) [] rfl
    refine W.widen (k := 0) (n := 0) (Nat.le_of_ble_eq_true rfl) (Nat.le_of_ble_eq_true rfl) ?_
    exact W.iret (v := (-1)) hx hb hr (fun t9 ht hW => ⟨⟨_, (), rfl, (by unfold sp_hr; rw [if_pos c_2]), by rw [ht]; exact hP9, va_K.moved hW.alike hK9, hD9⟩, hS.F ht⟩) hS.2.2 dX9_hours_20
  · refine lv_iload_n hx hb dX9_hours_12 rfl (lv_at hl 2 rfl) ?_
    have hPc := hP.sub (ws' := []) [] rfl
    have hDc := hD.sub (ws' := []) [] (by decide) rfl
    have hKc := hK.sub (tys' := []) [] rfl
    refine cs_i (va_runS (As := [.int p1]) (rest := []) ⟨hx, hb, hml, hown, hts⟩ (c_X9_isStation l dC dI p1 H.size) (va_cwS 1 hts gX9_hours_X9_isStation rfl rfl rfl (by decide +kernel) ⟨Nat.le_of_ble_eq_true rfl, Nat.le_of_ble_eq_true rfl⟩) ⟨c_blind, c_pre hPc hKc hDc hN⟩ rfl rfl hl.1 rfl (lv_room (Nat.le_of_ble_eq_true rfl)) dX9_hours_13 ⟨Nat.le_of_ble_eq_true rfl, Nat.le_of_ble_eq_true rfl⟩) (fun r_3 hr_3 => ?_)
    subst hr_3
    refine lv_if_ne (tgt := 21) hx hb dX9_hours_16 (by decide) (fun c_4 => ?_) (fun c_4 => ?_)
    · obtain ⟨g, hg, rfl⟩ := st_of c_4
      obtain ⟨a, ha, rfl⟩ := st_of c_2
      refine lv_aload_n hx hb dX9_hours_21 rfl (lv_at hl 0 rfl) ?_
      refine lv_iload_n hx hb dX9_hours_22 rfl (lv_at hl 2 rfl) ?_
      have hPc := hP.sub (ws' := [(h0, .inr (9, [.int 0, .ref m1, .int 0, .int 0, .int 0, .ref m5, .ref m6, .ref m7, .int 0, .int 0, .int 0, .int 0, .int 0, .int 0, .long 0, .ref m15, .ref m16, .ref m17, .ref m18, .ref m19, .ref m20, .int 0, .ref m22, .ref m23, .ref m24, .ref m25, .ref m26, .ref m27, .ref m28, .ref m29, .ref m30, .ref m31, .ref m32, .ref m33, .ref m34, .int 0, .int 0, .ref m37, .ref m38, .ref m39, .ref m40, .ref m41, .ref m42, .ref m43, .ref m44, .ref m45, .ref m46])), (m15, .inl (k_hours, 144, .inl (fun _ => 0))), (m17, .inl (k_least, 12, .inl t0))]) [0, 1, 2] rfl
      have hDc := hD.sub (ws' := [(h0, .inr (9, [.int 0, .ref m1, .int 0, .int 0, .int 0, .ref m5, .ref m6, .ref m7, .int 0, .int 0, .int 0, .int 0, .int 0, .int 0, .long 0, .ref m15, .ref m16, .ref m17, .ref m18, .ref m19, .ref m20, .int 0, .ref m22, .ref m23, .ref m24, .ref m25, .ref m26, .ref m27, .ref m28, .ref m29, .ref m30, .ref m31, .ref m32, .ref m33, .ref m34, .int 0, .int 0, .ref m37, .ref m38, .ref m39, .ref m40, .ref m41, .ref m42, .ref m43, .ref m44, .ref m45, .ref m46])), (m15, .inl (k_hours, 144, .inl (fun _ => 0))), (m17, .inl (k_least, 12, .inl t0))]) [0, 1, 2] (by decide) rfl
      have hKc := hK.sub (tys' := [(k_hours, .int), (k_least, .int)]) [0, 1] rfl
      have hFc := va_free (wc := [(h0, .inr (9, [.int 0, .ref m1, .int 0, .int 0, .int 0, .ref m5, .ref m6, .ref m7, .int 0, .int 0, .int 0, .int 0, .int 0, .int 0, .long 0, .ref m15, .ref m16, .ref m17, .ref m18, .ref m19, .ref m20, .int 0, .ref m22, .ref m23, .ref m24, .ref m25, .ref m26, .ref m27, .ref m28, .ref m29, .ref m30, .ref m31, .ref m32, .ref m33, .ref m34, .int 0, .int 0, .ref m37, .ref m38, .ref m39, .ref m40, .ref m41, .ref m42, .ref m43, .ref m44, .ref m45, .ref m46])), (m15, .inl (k_hours, 144, .inl (fun _ => 0))), (m17, .inl (k_least, 12, .inl t0))]) hD hS hA [0, 1, 2] rfl
      refine va_callv (va_runV (As := [.int (nI g)]) (rest := []) ⟨hx, hb, hml, hown, hts⟩ (c_X9_reach l dC dI h0 m1 m5 m6 m7 m15 m16 m17 m18 m19 m20 m22 m23 m24 m25 m26 m27 m28 m29 m30 m31 m32 m33 m34 m37 m38 m39 m40 m41 m42 m43 m44 m45 m46 k_hours k_least t0 g H.size hg) (cwV 1 hts gX9_hours_X9_reach rfl rfl rfl (by decide +kernel) ⟨Nat.le_of_ble_eq_true rfl, Nat.le_of_ble_eq_true rfl⟩) ⟨c_blind, va_recv hKc hPc (ci := 9) (q0 := 0) rfl rfl, c_pre hPc hKc hDc hN⟩ rfl rfl hl.1 rfl (lv_room (Nat.le_of_ble_eq_true rfl)) dX9_hours_23 ⟨Nat.le_of_ble_eq_true rfl, Nat.le_of_ble_eq_true rfl⟩) hS (fun q _ h => hFc q h) hFc (fun u9 t9 H1 locs ht hvm hw hB hz1 hk1 hS => ?_)
      obtain ⟨t_6, hf_x_7, hP1, hK1, hD1⟩ := hB
      rw [ht] at hP1
      have hK1 := va_K.moved hvm.symm hK1
      obtain ⟨hP, hD⟩ := va_join (wr := []) (w1 := [(h0, .inr (9, [.int 0, .ref m1, .int 0, .int 0, .int 0, .ref m5, .ref m6, .ref m7, .int 0, .int 0, .int 0, .int 0, .int 0, .int 0, .long 0, .ref m15, .ref m16, .ref m17, .ref m18, .ref m19, .ref m20, .int 0, .ref m22, .ref m23, .ref m24, .ref m25, .ref m26, .ref m27, .ref m28, .ref m29, .ref m30, .ref m31, .ref m32, .ref m33, .ref m34, .int 0, .int 0, .ref m37, .ref m38, .ref m39, .ref m40, .ref m41, .ref m42, .ref m43, .ref m44, .ref m45, .ref m46])), (m17, .inl (k_least, 12, .inl t_6))]) hP hD [0, 1, 2] [] rfl rfl (by decide) (by decide) hk1 hFc hP1 hD1
      have hK := (hK.sub (tys' := [(k_hours, .int), (k_least, .int)]) [0, 1] rfl).app hK1
      generalize H1 = H at hP hS ⊢
      have hK : va_K (dC, dI) vwCl [(k_hours, .int), (k_least, .int)] s := hK
      have hP : va_P (dC, dI) vwCl [(h0, .inr (9, [.int 0, .ref m1, .int 0, .int 0, .int 0, .ref m5, .ref m6, .ref m7, .int 0, .int 0, .int 0, .int 0, .int 0, .int 0, .long 0, .ref m15, .ref m16, .ref m17, .ref m18, .ref m19, .ref m20, .int 0, .ref m22, .ref m23, .ref m24, .ref m25, .ref m26, .ref m27, .ref m28, .ref m29, .ref m30, .ref m31, .ref m32, .ref m33, .ref m34, .int 0, .int 0, .ref m37, .ref m38, .ref m39, .ref m40, .ref m41, .ref m42, .ref m43, .ref m44, .ref m45, .ref m46])), (m17, .inl (k_least, 12, .inl t_6))] H := hP
      have hD : va_D A [(h0, .inr (9, [.int 0, .ref m1, .int 0, .int 0, .int 0, .ref m5, .ref m6, .ref m7, .int 0, .int 0, .int 0, .int 0, .int 0, .int 0, .long 0, .ref m15, .ref m16, .ref m17, .ref m18, .ref m19, .ref m20, .int 0, .ref m22, .ref m23, .ref m24, .ref m25, .ref m26, .ref m27, .ref m28, .ref m29, .ref m30, .ref m31, .ref m32, .ref m33, .ref m34, .int 0, .int 0, .ref m37, .ref m38, .ref m39, .ref m40, .ref m41, .ref m42, .ref m43, .ref m44, .ref m45, .ref m46])), (m17, .inl (k_least, 12, .inl t_6))] := hD
      refine W.widen (k := 0) (n := 0) (Nat.le_of_ble_eq_true rfl) (Nat.le_of_ble_eq_true rfl) ?_
      refine lv_aload_n hx hb dX9_hours_26 rfl (lv_at hl 0 rfl) ?_
      refine va_get (D := (dC, dI)) (ci := 9) (v := .ref m17) (C := RX9) (T := TX9) (N := 47) hx hb hts hin9 hown hK hP 0 rfl rfl 17 (by decide) (hts (.fieldLink RX9 30 "YamRidersModel" "least" "[I") (by decide +kernel)) (fun _ h9 => h9) rfl dX9_hours_27 ?_
      refine lv_iload_n hx hb dX9_hours_30 rfl (lv_at hl 1 rfl) ?_
      refine va_iald hx hb hK hP 1 1 rfl rfl (st_in c_2) dX9_hours_31 ?_
      refine lv_topi (fun v_8 ev_8 => ?_)
      refine lv_ldc (v := 1000000) hx hb hown (hts (.constant RX9 194 (1000000)) (by decide +kernel)) dX9_hours_32 ?_
      refine lv_icmp_lt (tgt := 41) hx hb dX9_hours_34 (by decide) (fun c_9 => ?_) (fun c_9 => ?_)
      · refine lv_aload_n hx hb dX9_hours_41 rfl (lv_at hl 0 rfl) ?_
        refine va_get (D := (dC, dI)) (ci := 9) (v := .ref m17) (C := RX9) (T := TX9) (N := 47) hx hb hts hin9 hown hK hP 0 rfl rfl 17 (by decide) (hts (.fieldLink RX9 30 "YamRidersModel" "least" "[I") (by decide +kernel)) (fun _ h9 => h9) rfl dX9_hours_42 ?_
        refine lv_iload_n hx hb dX9_hours_45 rfl (lv_at hl 1 rfl) ?_
        refine va_iald hx hb hK hP 1 1 rfl rfl (st_in c_2) dX9_hours_46 ?_
        refine lv_topi (fun v_10 ev_10 => ?_)
        have hP9 := hP.sub (ws' := []) [] rfl
        have hD9 := hD.sub (ws' := []) [] (by decide) rfl
        have hK9 := hK.sub (tys' := []) [] rfl
        refine W.widen (k := 0) (n := 0) (Nat.le_of_ble_eq_true rfl) (Nat.le_of_ble_eq_true rfl) ?_
        exact W.iret (v := v_10) hx hb hr (fun t9 ht hW => ⟨⟨_, (), rfl, (hr_near ha hg (ev_8.trans (rd_g hf_x_7 ha)) (ev_10.trans (rd_g hf_x_7 ha)) (Int32.not_le.mpr c_9)), by rw [ht]; exact hP9, va_K.moved hW.alike hK9, hD9⟩, hS.F ht⟩) hS.2.2 dX9_hours_47
      · refine lv_iconst (v := (-1)) hx hb dX9_hours_37 (by decide) ?_
        refine lv_goto (tgt := 47) hx hb dX9_hours_38 (by decide) ?_
        have hP9 := hP.sub (ws' := []) [] rfl
        have hD9 := hD.sub (ws' := []) [] (by decide) rfl
        have hK9 := hK.sub (tys' := []) [] rfl
        refine W.widen (k := 0) (n := 0) (Nat.le_of_ble_eq_true rfl) (Nat.le_of_ble_eq_true rfl) ?_
        exact W.iret (v := (-1)) hx hb hr (fun t9 ht hW => ⟨⟨_, (), rfl, (hr_far ha hg (ev_8.trans (rd_g hf_x_7 ha)) (Int32.not_lt.mp c_9)), by rw [ht]; exact hP9, va_K.moved hW.alike hK9, hD9⟩, hS.F ht⟩) hS.2.2 dX9_hours_47
    · refine lv_iconst (v := (-1)) hx hb dX9_hours_19 (by decide) ?_
      have hP9 := hP.sub (ws' := []) [] rfl
      have hD9 := hD.sub (ws' := []) [] (by decide) rfl
      have hK9 := hK.sub (tys' := []) [] rfl
      refine W.widen (k := 0) (n := 0) (Nat.le_of_ble_eq_true rfl) (Nat.le_of_ble_eq_true rfl) ?_
      exact W.iret (v := (-1)) hx hb hr (fun t9 ht hW => ⟨⟨_, (), rfl, (by unfold sp_hr; rw [if_neg c_2, if_pos c_4]), by rw [ht]; exact hP9, va_K.moved hW.alike hK9, hD9⟩, hS.F ht⟩) hS.2.2 dX9_hours_20
