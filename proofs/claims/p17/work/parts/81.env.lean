def SR (adK : Nat → Nat) (U : State) : Prop := vk_R RX4 64 "tire" (adK 0) U ∧ vk_R RX4 70 "rest" (adK 1) U ∧ vk_R RX4 72 "hunger" (adK 2) U ∧ vk_R RX4 74 "keep" (adK 3) U
theorem SR.warm {adK : Nat → Nat} {s U : State} (hW : s.WarmedH U.vm) (h : SR adK s) : SR adK U := ⟨vk_R.warm hW h.1, vk_R.warm hW h.2.1, vk_R.warm hW h.2.2.1, vk_R.warm hW h.2.2.2⟩
theorem e_blind {av : List Value} {dC : Nat → ClassId} {dI : Nat → Nat → Nat} {ws : va_W} {tys : List (ClassId × FieldType)} {sz : Nat} {adK adV : Nat → Nat} {A : Nat → Prop} : FrameBlind (va_Pc av (fun U => cP dC dI ws tys sz U ∧ EV adK adV A U U.heap ∧ SR adK U)) := fun a U g mk q => by
  obtain ⟨q0, q1, q2, q3⟩ := q
  have hc : va_Pc av (cP dC dI ws tys sz) a (U.calling g mk a) := c_blind a U g mk ⟨q0, q1⟩
  have hW : U.WarmedH (U.calling g mk a).vm := State.WarmedH.refl U
  exact ⟨hc.1, hc.2, EV.moved (u := U) (U := U.calling g mk a) (Vm.Alike.refl U.vm) q2, SR.warm hW q3⟩
theorem e_pre {av : List Value} {dC : Nat → ClassId} {dI : Nat → Nat → Nat} {ws : va_W} {tys : List (ClassId × FieldType)} {s : State} {H : Heap} {A A1 B : Nat → Prop} {adK adV : Nat → Nat} (hP : va_P (dC, dI) vwCl ws H) (hK : va_K (dC, dI) vwCl tys s) (hD : va_D A ws) (hN : NW s) (hE : EV adK adV A1 s H) (hF : ∀ q, B q → A1 q) (hR : SR adK s) : ∀ U : State, U.heap = H → s.WarmedH U.vm → va_Pc av (fun U => cP dC dI ws tys H.size U ∧ EV adK adV B U U.heap ∧ SR adK U) av.toArray U := fun U hU hW => by
  have hc := c_pre (av := av) hP hK hD hN U hU hW
  exact ⟨hc.1, hc.2, by rw [hU]; exact EV.moved hW.alike (hE.narrow hF), SR.warm hW hR⟩
def rk9 (a b : Int32) : Nat := (a.toInt - b.toInt).toNat
theorem rk9_lt {a b c : Int32} (h : ¬ a ≤ b) (e : c = b + 1) : rk9 a c < rk9 a b := by
  subst e
  rw [le_i] at h
  have e1 : (1 : Int32).toInt = 1 := by decide
  have h1 := Int32.toInt_lt a
  have h2 := Int32.le_toInt b
  unfold rk9
  rw [a_i (by rw [e1]; omega) (by rw [e1]; omega), e1]
  omega
