def lq_n : List Cond → Nat → Option Cond
  | [], _ => none
  | a :: _, 0 => some a
  | _ :: t, n + 1 => lq_n t n
theorem lq_nm : ∀ (l : List Cond) (n : Nat) (w : Cond), lq_n l n = some w → w ∈ l
  | [], _, _, h => nomatch h
  | a :: _, 0, w, h => by
    have e : a = w := Option.some.inj h
    subst e
    exact List.Mem.head _
  | _ :: t, n + 1, w, h => List.mem_cons_of_mem _ (lq_nm t n w h)
theorem lq_all {ι : Type} {big : List Cond} {look : ι → Option Cond} (hl : ∀ i w, look i = some w → w ∈ big) (ws : List Cond) (ps : List ι) (h : ws.map some = ps.map look) : ∀ w ∈ ws, w ∈ big := by
  intro w hw
  have h1 : some w ∈ ws.map some := List.mem_map_of_mem hw
  rw [h] at h1
  obtain ⟨i, _, e⟩ := List.mem_map.mp h1
  exact hl i w e
theorem lq_goor {big : List Cond} (ws : List Cond) (ps : List Nat) (hp : ws.map some = ps.map (lq_n big)) (h : ws.all goodWord = true) : GoodIn big ws := goodIn_sub (lq_all (fun i w e => lq_nm _ i w e) ws ps hp) h
noncomputable def nq_F (s : String) : Nat := s.toByteArray.data.toList.foldl (fun h b => h * 256 + b.toNat) 0
def nd_1 (x : Nat) : List Nat → Bool
  | [] => true
  | y :: t => cond (Nat.beq x y) false (nd_1 x t)
def nd_2 : List Nat → Bool
  | [] => true
  | x :: t => cond (nd_1 x t) (nd_2 t) false
theorem nd_1p {x : Nat} : ∀ (l : List Nat) (j : Nat), nd_1 x l = true → l[j]? = some x → False
  | [], _, _, h => by simp at h
  | y :: t, 0, e, h => by
    have q : y = x := by simpa using h
    subst q
    have z : Nat.beq y y = true := Nat.beq_refl y
    unfold nd_1 at e
    rw [z] at e
    exact absurd (show false = true from e) Bool.false_ne_true
  | y :: t, j + 1, e, h => by
    unfold nd_1 at e
    cases z : Nat.beq x y with
    | true => rw [z] at e; exact absurd (show false = true from e) Bool.false_ne_true
    | false => rw [z] at e; exact nd_1p t j e (by simpa using h)
theorem nd_2p : ∀ (l : List Nat) (i j x : Nat), nd_2 l = true → i < j → l[i]? = some x → l[j]? = some x → False
  | [], _, _, _, _, _, h, _ => by simp at h
  | y :: t, i, 0, _, _, w, _, _ => absurd w (by omega)
  | y :: t, 0, j + 1, x, e, _, h1, h2 => by
    have q : y = x := by simpa using h1
    subst q
    unfold nd_2 at e
    cases z : nd_1 y t with
    | true => exact nd_1p t j z (by simpa using h2)
    | false => rw [z] at e; exact absurd (show false = true from e) Bool.false_ne_true
  | y :: t, i + 1, j + 1, x, e, w, h1, h2 => by
    unfold nd_2 at e
    cases z : nd_1 y t with
    | true => rw [z] at e; exact nd_2p t i j x e (by omega) (by simpa using h1) (by simpa using h2)
    | false => rw [z] at e; exact absurd (show false = true from e) Bool.false_ne_true
theorem nm_of {T : u_T} {n : Nat} (tb : List Nat) (h1 : ∀ a, a < n → tb[a]? = some (nq_F (T a).2.1)) (h2 : nd_2 tb = true) : ∀ a, a < n → ∀ b, b < n → a ≠ b → (T a).2.1 ≠ (T b).2.1 := by
  intro a ha b hb ne e
  have e1 := h1 a ha
  have e2 := h1 b hb
  rw [e] at e1
  rcases Nat.lt_or_gt_of_ne ne with w | w
  · exact nd_2p tb a b _ h2 w e1 e2
  · exact nd_2p tb b a _ h2 w e2 e1

def RX0 : String := "YamRiders$Horse"
def TX0 : u_T := fun k => match k with
  | 0 => ("YamRiders$Horse", "number", "I", true)
  | 1 => ("YamRiders$Horse", "station", "I", false)
  | _ => ("YamRiders$Horse", "strength", "I", false)
def tyX0 : Nat → FieldType := fun k => match k with
  | 0 => .int
  | 1 => .int
  | _ => .int
abbrev wsX00 : List Cond := u_ws RX0 TX0 3
theorem nmX0 : ∀ a, a < 3 → ∀ b, b < 3 → a ≠ b → (TX0 a).2.1 ≠ (TX0 b).2.1 := by decide +kernel
theorem tyX0_ok : ∀ k, k < 3 → parseFieldDescriptor (TX0 k).2.2.1 = some (tyX0 k) := by decide +kernel
abbrev cX0_init : ByteArray := prog_2_method_1_code
def yX0_init : MethodName := ⟨RX0, "<init>", "(III)V"⟩
abbrev cX0_weaken : ByteArray := prog_2_method_2_code
def yX0_weaken : MethodName := ⟨RX0, "weaken", "(I)V"⟩
def RX1 : String := "YamRiders$Leader"
def TX1 : u_T := fun k => match k with
  | 0 => ("YamRiders$Leader", "spare", "[I", true)
  | 1 => ("YamRiders$Leader", "led", "[[I", true)
  | 2 => ("YamRiders$Leader", "pains", "[I", true)
  | _ => ("YamRiders$Leader", "from", "[I", true)
def tyX1 : Nat → FieldType := fun k => match k with
  | 0 => .array .int
  | 1 => .array (.array .int)
  | 2 => .array .int
  | _ => .array .int
abbrev wsX10 : List Cond := u_ws RX1 TX1 4
theorem nmX1 : ∀ a, a < 4 → ∀ b, b < 4 → a ≠ b → (TX1 a).2.1 ≠ (TX1 b).2.1 := by decide +kernel
theorem tyX1_ok : ∀ k, k < 4 → parseFieldDescriptor (TX1 k).2.2.1 = some (tyX1 k) := by decide +kernel
abbrev cX1_init : ByteArray := prog_3_method_1_code
def yX1_init : MethodName := ⟨RX1, "<init>", "()V"⟩
abbrev cX1_setSpare : ByteArray := prog_3_method_2_code
def yX1_setSpare : MethodName := ⟨RX1, "setSpare", "(II)V"⟩
abbrev cX1_leastPains : ByteArray := prog_3_method_3_code
def yX1_leastPains : MethodName := ⟨RX1, "leastPains", "(LYamRiders$Roads;)I"⟩
abbrev cX1_isAnyShort : ByteArray := prog_3_method_4_code
def yX1_isAnyShort : MethodName := ⟨RX1, "isAnyShort", "()Z"⟩
abbrev cX1_spread : ByteArray := prog_3_method_5_code
def yX1_spread : MethodName := ⟨RX1, "spread", "(LYamRiders$Roads;)V"⟩
abbrev cX1_spreadFrom : ByteArray := prog_3_method_6_code
def yX1_spreadFrom : MethodName := ⟨RX1, "spreadFrom", "(ILYamRiders$Roads;)Z"⟩
abbrev cX1_painsOver : ByteArray := prog_3_method_7_code
def yX1_painsOver : MethodName := ⟨RX1, "painsOver", "(III)I"⟩
abbrev cX1_nearestShort : ByteArray := prog_3_method_8_code
def yX1_nearestShort : MethodName := ⟨RX1, "nearestShort", "()I"⟩
abbrev cX1_horsesAlong : ByteArray := prog_3_method_9_code
def yX1_horsesAlong : MethodName := ⟨RX1, "horsesAlong", "(I)I"⟩
abbrev cX1_leadAlong : ByteArray := prog_3_method_10_code
def yX1_leadAlong : MethodName := ⟨RX1, "leadAlong", "(II)V"⟩
def RX2 : String := "YamRiders$Rider"
def TX2 : u_T := fun k => match k with
  | 0 => ("YamRiders$Rider", "tablet", "I", true)
  | 1 => ("YamRiders$Rider", "rank", "I", true)
  | 2 => ("YamRiders$Rider", "stations", "[I", true)
  | 3 => ("YamRiders$Rider", "newsSince", "[I", true)
  | 4 => ("YamRiders$Rider", "state", "I", false)
  | 5 => ("YamRiders$Rider", "reached", "I", false)
  | 6 => ("YamRiders$Rider", "came", "I", false)
  | 7 => ("YamRiders$Rider", "horse", "LYamRiders$Horse;", false)
  | 8 => ("YamRiders$Rider", "left", "I", false)
  | _ => ("YamRiders$Rider", "time", "I", false)
def tyX2 : Nat → FieldType := fun k => match k with
  | 0 => .int
  | 1 => .int
  | 2 => .array .int
  | 3 => .array .int
  | 4 => .int
  | 5 => .int
  | 6 => .int
  | 7 => .object "YamRiders$Horse"
  | 8 => .int
  | _ => .int
