/-! ===== small whole numbers as ints; what a partial answer is (z_P), two of them side by side (z_R) ===== -/
def nn (n : Nat) : Int32 := Int32.ofNat n
theorem nn_lit (n : Nat) : (OfNat.ofNat n : Int32) = nn (OfNat.ofNat n) := rfl
theorem nn_toInt {a : Nat} (h : a < 2147483648) : (nn a).toInt = (a : Int) := Int32.toInt_ofNat_of_lt h
theorem nn_add (a b : Nat) : nn a + nn b = nn (a + b) := (Int32.ofNat_add a b).symm
theorem nn_mul (a b : Nat) : nn a * nn b = nn (a * b) := (Int32.ofNat_mul a b).symm
theorem nn_sub {a b : Nat} (h : b ≤ a) : nn a - nn b = nn (a - b) := (Int32.ofNat_sub a b h).symm
theorem nn_div {a b : Nat} (ha : a < 2147483648) (hb : b < 2147483648) : nn a / nn b = nn (a / b) := (Int32.ofNat_div ha hb).symm
theorem nn_lt {a b : Nat} (ha : a < 2147483648) (hb : b < 2147483648) : (nn a < nn b) = (a < b) := propext (Int32.ofNat_lt_iff_lt ha hb)
theorem nn_le {a b : Nat} (ha : a < 2147483648) (hb : b < 2147483648) : (nn a ≤ nn b) = (a ≤ b) := propext (Int32.ofNat_le_iff_le ha hb)
theorem nn_inj {a b : Nat} (ha : a < 2147483648) (hb : b < 2147483648) (h : nn a = nn b) : a = b := by
  have := congrArg Int32.toInt h
  rw [nn_toInt ha, nn_toInt hb] at this
  omega
theorem nn_eq {a b : Nat} (ha : a < 2147483648) (hb : b < 2147483648) : (nn a = nn b) = (a = b) := propext ⟨nn_inj ha hb, fun h => by rw [h]⟩
theorem nn_m1v : (-nn 1).toInt = -1 := by decide
theorem nn_eqM {a : Nat} (ha : a < 2147483648) : (nn a = -nn 1) = False := propext ⟨fun h => by
  have := congrArg Int32.toInt h
  rw [nn_toInt ha, nn_m1v] at this
  omega, False.elim⟩
theorem nn_Meq {a : Nat} (ha : a < 2147483648) : (-nn 1 = nn a) = False := propext ⟨fun h => by
  have := congrArg Int32.toInt h
  rw [nn_toInt ha, nn_m1v] at this
  omega, False.elim⟩
theorem nn_ltM {a : Nat} (ha : a < 2147483648) : (nn a < -nn 1) = False := propext ⟨fun h => by
  have := Int32.lt_iff_toInt_lt.mp h
  rw [nn_toInt ha, nn_m1v] at this
  omega, False.elim⟩
theorem nn_Mlt {a : Nat} (ha : a < 2147483648) : (-nn 1 < nn a) = True := propext ⟨fun _ => trivial, fun _ => Int32.lt_iff_toInt_lt.mpr (by rw [nn_toInt ha, nn_m1v]; omega)⟩
theorem nn_leM {a : Nat} (ha : a < 2147483648) : (nn a ≤ -nn 1) = False := propext ⟨fun h => by
  have := Int32.le_iff_toInt_le.mp h
  rw [nn_toInt ha, nn_m1v] at this
  omega, False.elim⟩
theorem nn_Mle {a : Nat} (ha : a < 2147483648) : (-nn 1 ≤ nn a) = True := propext ⟨fun _ => trivial, fun _ => Int32.le_iff_toInt_le.mpr (by rw [nn_toInt ha, nn_m1v]; omega)⟩
theorem nn_addM {a : Nat} (h : 1 ≤ a) : nn a + -nn 1 = nn (a - 1) := by
  rw [← nn_sub h, Int32.sub_eq_add_neg]
theorem nn_rem {a b : Nat} (ha : a < 2147483648) (hb : b < 2147483648) : z_rem (nn a) (nn b) = nn (a % b) := by
  unfold z_rem
  rw [nn_div ha hb, nn_mul, nn_sub (Nat.div_mul_le_self a b)]
  congr 1
  have := Nat.div_add_mod a b
  have h2 : b * (a / b) = a / b * b := Nat.mul_comm _ _
  omega
theorem nn_min {a b : Nat} (ha : a < 2147483648) (hb : b < 2147483648) : z_min (nn a) (nn b) = nn (min a b) := by
  unfold z_min
  simp only [nn_lt hb ha]
  by_cases h : b < a
  · rw [if_pos h, Nat.min_eq_right (by omega)]
  · rw [if_neg h, Nat.min_eq_left (by omega)]
theorem nn_max {a b : Nat} (ha : a < 2147483648) (hb : b < 2147483648) : z_max (nn a) (nn b) = nn (max a b) := by
  unfold z_max
  simp only [nn_lt ha hb]
  by_cases h : a < b
  · rw [if_pos h, Nat.max_eq_right (by omega)]
  · rw [if_neg h, Nat.max_eq_left (by omega)]
def dist (a b : Nat) : Nat := (a - b) + (b - a)
theorem nn_dif {a b : Nat} (ha : a < 1073741824) (hb : b < 1073741824) : (nn a - nn b).toInt = (a : Int) - b := by
  rw [Int32.toInt_sub, nn_toInt (by omega), nn_toInt (by omega), Int.bmod_eq_of_le (by omega) (by omega)]
theorem nn_neg {a b : Nat} : -(nn a - nn b) = nn b - nn a := by
  rw [Int32.neg_sub]
theorem nn_abs {a b : Nat} (ha : a < 1073741824) (hb : b < 1073741824) : z_abs (nn a - nn b) = nn (dist a b) := by
  unfold z_abs dist
  have h0 : (0 : Int32).toInt = 0 := rfl
  by_cases h : b ≤ a
  · rw [if_pos (Int32.le_iff_toInt_le.mpr (by rw [nn_dif ha hb, h0]; omega)), nn_sub h]
    congr 1
    omega
  · rw [if_neg (fun q => h (by have := Int32.le_iff_toInt_le.mp q; rw [nn_dif ha hb, h0] at this; omega)), Int32.zero_sub, nn_neg, nn_sub (by omega)]
    congr 1
    omega
theorem nn_absM {a b : Nat} {α : Type} {F : Int32 → α} (ha : a < 1073741824) (hb : b < 1073741824) : (if nn 0 ≤ nn a - nn b then F (nn a - nn b) else F (-(nn a - nn b))) = F (nn (dist a b)) := by
  rw [← nn_abs ha hb]
  unfold z_abs
  show (if (0 : Int32) ≤ _ then _ else _) = _
  rw [Int32.zero_sub]
  split <;> rfl
theorem z_ix_nn {k : Nat} (h : k < 2147483648) : z_ix (nn k) = k := by
  unfold z_ix
  rw [← Int32.toNat_toInt, nn_toInt h]
  rfl
theorem z_inb_nn {k n : Nat} (h : k < n) (h2 : k < 2147483648) : z_inb (nn k) n = True := propext ⟨fun _ => trivial, fun _ => by rw [z_inb, nn_toInt h2]; omega⟩
theorem F_at_nn {r n k : Nat} {D : z_Dat} (h : k < n) (h2 : n < 2147483648) : F_X10_at r n (nn k) D = D r k := by
  unfold F_X10_at
  have e0 : ¬ nn k < 0 := by show ¬ nn k < nn 0; rw [nn_lt (by omega) (by omega)]; omega
  have e1 : ¬ Int32.ofNat n ≤ nn k := by show ¬ nn n ≤ nn k; rw [nn_le (by omega) (by omega)]; omega
  rw [if_neg e0, if_neg e1, z_ix_nn (by omega)]
theorem F_at_out {r n k : Nat} {D : z_Dat} (h : n ≤ k) (h2 : k < 2147483648) : F_X10_at r n (nn k) D = 0 := by
  unfold F_X10_at
  have e0 : ¬ nn k < 0 := by show ¬ nn k < nn 0; rw [nn_lt (by omega) (by omega)]; omega
  have e1 : Int32.ofNat n ≤ nn k := by show nn n ≤ nn k; rw [nn_le (by omega) (by omega)]; omega
  rw [if_neg e0, if_pos e1]
theorem F_at_M {r n : Nat} {D : z_Dat} : F_X10_at r n (-nn 1) D = 0 := by
  unfold F_X10_at
  rw [if_pos (by decide)]
theorem F_put_nn {r n k : Nat} {v : Int32} {D : z_Dat} (h : k < n) (h2 : n < 2147483648) : F_X10_put r n (nn k) v D = z_up D r k v := by
  unfold F_X10_put
  have e0 : ¬ nn k < 0 := by show ¬ nn k < nn 0; rw [nn_lt (by omega) (by omega)]; omega
  have e1 : ¬ Int32.ofNat n ≤ nn k := by show ¬ nn n ≤ nn k; rw [nn_le (by omega) (by omega)]; omega
  rw [if_neg e0, if_neg e1, z_ix_nn (by omega)]
  rfl
theorem F_put_out {r n k : Nat} {v : Int32} {D : z_Dat} (h : n ≤ k) (h2 : k < 2147483648) : F_X10_put r n (nn k) v D = D := by
  unfold F_X10_put
  have e0 : ¬ nn k < 0 := by show ¬ nn k < nn 0; rw [nn_lt (by omega) (by omega)]; omega
  have e1 : Int32.ofNat n ≤ nn k := by show nn n ≤ nn k; rw [nn_le (by omega) (by omega)]; omega
  rw [if_neg e0, if_pos e1]
theorem z_up_eq {D : z_Dat} {a i : Nat} {x : Int32} : z_up D a i x a i = x := if_pos ⟨rfl, rfl⟩
theorem z_up_at {D : z_Dat} {a i : Nat} {x : Int32} {b j : Nat} (h1 : b = a) (h2 : j = i) : z_up D a i x b j = x := if_pos ⟨h1, h2⟩
theorem z_up_r {D : z_Dat} {a i : Nat} {x : Int32} {b j : Nat} (h : b ≠ a) : z_up D a i x b j = D b j := if_neg (fun q => h q.1)
theorem z_up_i {D : z_Dat} {a i : Nat} {x : Int32} {b j : Nat} (h : j ≠ i) : z_up D a i x b j = D b j := if_neg (fun q => h q.2)
theorem upd_eq {f : Nat → Int32} {i : Nat} {x : Int32} : upd f i x i = x := if_pos rfl
theorem upd_at {f : Nat → Int32} {i j : Nat} {x : Int32} (h : j = i) : upd f i x j = x := if_pos h
theorem upd_ne {f : Nat → Int32} {i j : Nat} {x : Int32} (h : j ≠ i) : upd f i x j = f j := if_neg h
theorem z_up_self {D : z_Dat} {a i : Nat} {x : Int32} : z_up D a i x a = upd (D a) i x := z_up_row
/-- a partial answer comes, and is so -/
def z_P {α : Type} (x : Option α) (Q : α → Prop) : Prop := ∃ a, x = some a ∧ Q a
theorem z_P_some {α : Type} {a : α} {Q : α → Prop} : z_P (some a) Q = Q a := propext ⟨fun ⟨b, h1, h2⟩ => by cases h1; exact h2, fun h => ⟨a, rfl, h⟩⟩
theorem z_P_bd {α β : Type} {x : Option α} {f : α → Option β} {Q : β → Prop} : z_P (z_bd x f) Q = z_P x (fun a => z_P (f a) Q) := propext (by
  cases x with
  | none => exact ⟨fun ⟨b, h1, _⟩ => (by cases h1), fun ⟨b, h1, _⟩ => (by cases h1)⟩
  | some a => exact ⟨fun h => ⟨a, rfl, h⟩, fun ⟨b, h1, h2⟩ => by cases h1; exact h2⟩)
theorem z_P_mono {α : Type} {x : Option α} {Q Q' : α → Prop} (h : z_P x Q) (hq : ∀ a, Q a → Q' a) : z_P x Q' := by
  obtain ⟨a, h1, h2⟩ := h
  exact ⟨a, h1, hq a h2⟩
theorem z_P_loop {σ β : Type} {body : (σ → Option β) → σ → Option β} {Q : β → Prop} (I : Nat → σ → Prop)
    (step : ∀ (k : Nat) (s : σ) (kc : σ → Option β), I k s → (∀ (k' : Nat) (t : σ), k' < k → I k' t → z_P (kc t) Q) → z_P (body kc s) Q) :
    ∀ (k N : Nat) (s : σ), k < N → I k s → z_P (z_loop body N s) Q := by
  intro k
  induction k using Nat.strongRecOn with
  | _ k ih =>
    intro N s hN hI
    cases N with
    | zero => omega
    | succ N => exact step k s (z_loop body N) hI (fun k' t hk ht => ih k' hk N t (by omega) ht)
/-- two partial answers come, and are so -/
def z_R {α β : Type} (x : Option α) (y : Option β) (Q : α → β → Prop) : Prop := ∃ a b, x = some a ∧ y = some b ∧ Q a b
theorem z_R_some {α β : Type} {a : α} {b : β} {Q : α → β → Prop} : z_R (some a) (some b) Q = Q a b := propext ⟨fun ⟨c, d, h1, h2, h3⟩ => by cases h1; cases h2; exact h3, fun h => ⟨a, b, rfl, rfl, h⟩⟩
theorem z_R_l {α α' β : Type} {x : Option α} {f : α → Option α'} {y : Option β} {Q : α' → β → Prop} : z_R (z_bd x f) y Q = z_P x (fun a => z_R (f a) y Q) := propext (by
  cases x with
  | none => exact ⟨fun ⟨b, c, h1, _⟩ => (by cases h1), fun ⟨b, h1, _⟩ => (by cases h1)⟩
  | some a => exact ⟨fun h => ⟨a, rfl, h⟩, fun ⟨b, h1, h2⟩ => by cases h1; exact h2⟩)
theorem z_R_r {α β β' : Type} {x : Option α} {y : Option β} {f : β → Option β'} {Q : α → β' → Prop} : z_R x (z_bd y f) Q = z_P y (fun b => z_R x (f b) Q) := propext (by
  cases y with
  | none => exact ⟨fun ⟨b, c, h1, h2, _⟩ => (by cases h2), fun ⟨b, h1, _⟩ => (by cases h1)⟩
  | some a => exact ⟨fun h => ⟨a, rfl, h⟩, fun ⟨b, h1, h2⟩ => by cases h1; exact h2⟩)
theorem z_R_bd {α α' β β' : Type} {x : Option α} {y : Option β} {f : α → Option α'} {g : β → Option β'} {Q : α' → β' → Prop} (h : z_R x y (fun a b => z_R (f a) (g b) Q)) : z_R (z_bd x f) (z_bd y g) Q := by
  obtain ⟨a, b, h1, h2, h3⟩ := h
  rw [h1, h2]
  exact h3
theorem z_R_mono {α β : Type} {x : Option α} {y : Option β} {Q Q' : α → β → Prop} (h : z_R x y Q) (hq : ∀ a b, Q a b → Q' a b) : z_R x y Q' := by
  obtain ⟨a, b, h1, h2, h3⟩ := h
  exact ⟨a, b, h1, h2, hq a b h3⟩
theorem z_R_P {α β : Type} {x : Option α} {y : Option β} {Q : α → Prop} {Q' : β → Prop} (h : z_P x Q) (h' : z_P y Q') : z_R x y (fun a b => Q a ∧ Q' b) := by
  obtain ⟨a, h1, h2⟩ := h
  obtain ⟨b, h3, h4⟩ := h'
  exact ⟨a, b, h1, h3, h2, h4⟩
theorem z_R_loop {σ τ β γ : Type} {body : (σ → Option β) → σ → Option β} {body' : (τ → Option γ) → τ → Option γ} {Q : β → γ → Prop} (I : Nat → σ → τ → Prop)
    (step : ∀ (k : Nat) (s : σ) (t : τ) (kc : σ → Option β) (kc' : τ → Option γ), I k s t → (∀ (k' : Nat) (s' : σ) (t' : τ), k' < k → I k' s' t' → z_R (kc s') (kc' t') Q) → z_R (body kc s) (body' kc' t) Q) :
    ∀ (k N N' : Nat) (s : σ) (t : τ), k < N → k < N' → I k s t → z_R (z_loop body N s) (z_loop body' N' t) Q := by
  intro k
  induction k using Nat.strongRecOn with
  | _ k ih =>
    intro N N' s t hN hN' hI
    cases N with
    | zero => omega
    | succ N =>
      cases N' with
      | zero => omega
      | succ N' => exact step k s t (z_loop body N) (z_loop body' N') hI (fun k' s' t' hk ht => ih k' hk N N' s' t' (by omega) (by omega) ht)
