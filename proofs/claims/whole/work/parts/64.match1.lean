/-! ===== who is to marry whom: bits, worths ===== -/
def bt (s b : Nat) : Nat := s / 2 ^ b % 2
def cl (s b : Nat) : Nat := if bt s b = 1 then s - 2 ^ b else s
def st (s b : Nat) : Nat := if bt s b = 1 then s else s + 2 ^ b
theorem bit_m : ∀ s, s < 256 → ∀ b, b < 8 → z_shr (nn s) (nn b) &&& nn 1 = nn (bt s b) := by decide +kernel
theorem clr_m : ∀ s, s < 256 → ∀ b, b < 8 → nn s &&& (z_shl (nn 1) (nn b) ^^^ -nn 1) = nn (cl s b) := by decide +kernel
theorem set_m : ∀ s, s < 256 → ∀ b, b < 8 → nn s ||| z_shl (nn 1) (nn b) = nn (st s b) := by decide +kernel
theorem cmp_m : ∀ pe, pe < 9 → ∀ s, s < 2 ^ pe → ∀ b, b < pe → bt (2 ^ pe - 1 - s) b + bt s b = 1 := by decide +kernel
theorem cl_bt : ∀ s, s < 256 → ∀ b, b < 8 → ∀ c, c < 8 → bt (cl s b) c = if c = b then 0 else bt s c := by decide +kernel
def pc (s : Nat) : Nat := bt s 0 + bt s 1 + bt s 2 + bt s 3 + bt s 4 + bt s 5 + bt s 6 + bt s 7
theorem pc_m : ∀ s, s < 256 → ∀ b, b < 8 → bt s b = 1 → pc (cl s b) + 1 = pc s := by decide +kernel
theorem bt_le : ∀ s, s < 256 → ∀ b, b < 8 → bt s b = 1 → 2 ^ b ≤ s := by decide +kernel
theorem bt_01 {s b : Nat} : bt s b = 0 ∨ bt s b = 1 := by
  unfold bt
  omega
theorem pc_le {s : Nat} : pc s ≤ 8 := by
  unfold pc bt
  omega
/-- the worth of a set on both sides: k couples, x apart -/
def WR (s : Nat) (l w : Int32) (k x : Nat) : Prop := k ≤ pc s ∧ x ≤ 6 * k ∧ l = nn (100 * k - x) ∧ w = nn (1000 * k - x)
def bet (k x k' x' : Nat) : Prop := k < k' ∨ (k = k' ∧ x' < x)
theorem bet_l {k x k' x' : Nat} (h1 : k ≤ 8) (h2 : k' ≤ 9) (h3 : x ≤ 6 * k) (h4 : x' ≤ 6 * k') : 100 * k - x < 100 * k' - x' ↔ bet k x k' x' := by
  unfold bet
  constructor
  · intro h
    by_cases e : k < k'
    · exact Or.inl e
    · by_cases e2 : k = k'
      · exact Or.inr ⟨e2, by subst e2; omega⟩
      · omega
  · intro h
    rcases h with h | ⟨h, h'⟩
    · omega
    · subst h; omega
theorem bet_w {k x k' x' : Nat} (h1 : k ≤ 8) (h2 : k' ≤ 9) (h3 : x ≤ 6 * k) (h4 : x' ≤ 6 * k') : 1000 * k - x < 1000 * k' - x' ↔ bet k x k' x' := by
  unfold bet
  constructor
  · intro h
    by_cases e : k < k'
    · exact Or.inl e
    · by_cases e2 : k = k'
      · exact Or.inr ⟨e2, by subst e2; omega⟩
      · omega
  · intro h
    rcases h with h | ⟨h, h'⟩
    · omega
    · subst h; omega
theorem sam_l {k x k' x' : Nat} (h1 : k ≤ 8) (h2 : k' ≤ 9) (h3 : x ≤ 6 * k) (h4 : x' ≤ 6 * k') : 100 * k - x = 100 * k' - x' ↔ (k = k' ∧ x = x') := by
  constructor
  · intro h
    by_cases e : k = k'
    · subst e; omega
    · omega
  · rintro ⟨rfl, rfl⟩
    rfl
theorem sam_w {k x k' x' : Nat} (h1 : k ≤ 8) (h2 : k' ≤ 9) (h3 : x ≤ 6 * k) (h4 : x' ≤ 6 * k') : 1000 * k - x = 1000 * k' - x' ↔ (k = k' ∧ x = x') := by
  constructor
  · intro h
    by_cases e : k = k'
    · subst e; omega
    · omega
  · rintro ⟨rfl, rfl⟩
    rfl
theorem shl_full : ∀ pe, pe < 9 → z_shl (nn 1) (nn pe) - nn 1 = nn (2 ^ pe - 1) := by decide +kernel
