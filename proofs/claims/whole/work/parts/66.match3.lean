/-! ===== who is to marry whom: the best of a set ===== -/
def bs (K X : Nat → Nat) (ok : Nat → Nat → Bool) (w : Nat → Nat → Nat) (r a : Nat) : Nat → Nat × Nat
  | 0 => (K r, X r)
  | j + 1 => if bt r (a + 1 + j) = 1 ∧ ok a (a + 1 + j) = true ∧ ((bs K X ok w r a j).1 < K (cl r (a + 1 + j)) + 1 ∨ ((bs K X ok w r a j).1 = K (cl r (a + 1 + j)) + 1 ∧ X (cl r (a + 1 + j)) + w a (a + 1 + j) < (bs K X ok w r a j).2)) then (K (cl r (a + 1 + j)) + 1, X (cl r (a + 1 + j)) + w a (a + 1 + j)) else bs K X ok w r a j
theorem cl_le {s b : Nat} : cl s b ≤ s := by
  unfold cl
  split
  · exact Nat.sub_le _ _
  · exact Nat.le_refl _
theorem cl_lt {s b : Nat} (hs : s < 256) (hb : b < 8) (h : bt s b = 1) : cl s b < s := by
  have h1 := bt_le s hs b hb h
  have h2 : 0 < 2 ^ b := Nat.pow_pos (by decide)
  unfold cl
  rw [if_pos h]
  omega
theorem bs_congr {K X K' X' : Nat → Nat} {ok : Nat → Nat → Bool} {w : Nat → Nat → Nat} {r a : Nat} (h : ∀ t, t ≤ r → K t = K' t ∧ X t = X' t) : ∀ j, bs K X ok w r a j = bs K' X' ok w r a j
  | 0 => by
    unfold bs
    rw [(h r (Nat.le_refl _)).1, (h r (Nat.le_refl _)).2]
  | j + 1 => by
    have ih := bs_congr (ok := ok) (w := w) (a := a) h j
    unfold bs
    rw [ih, (h _ cl_le).1, (h _ cl_le).2]
/-- the table of the best of all sets -/
def MW (pe : Nat) (ok : Nat → Nat → Bool) (w : Nat → Nat → Nat) (K X : Nat → Nat) : Prop := K 0 = 0 ∧ X 0 = 0 ∧ ∀ s, s < 2 ^ pe → ∀ a, a < pe → bt s a = 1 → (∀ c, c < a → bt s c = 0) → (K s, X s) = bs K X ok w (cl s a) a (pe - a - 1)
theorem MW_ex (pe : Nat) (hpe : pe ≤ 8) (ok : Nat → Nat → Bool) (w : Nat → Nat → Nat) : ∃ K X, MW pe ok w K X := by
  have hp : 2 ^ pe ≤ 256 := Nat.le_trans (Nat.pow_le_pow_right (by decide) hpe) (by decide)
  have h : ∀ n, ∃ K X : Nat → Nat, K 0 = 0 ∧ X 0 = 0 ∧ ∀ s, s < n → s < 2 ^ pe → ∀ a, a < pe → bt s a = 1 → (∀ c, c < a → bt s c = 0) → (K s, X s) = bs K X ok w (cl s a) a (pe - a - 1) := fun n => by
    induction n with
    | zero => exact ⟨fun _ => 0, fun _ => 0, rfl, rfl, fun s h => by omega⟩
    | succ n ih =>
      obtain ⟨K, X, h1, h2, h3⟩ := ih
      by_cases hex : n < 2 ^ pe ∧ ∃ a, a < pe ∧ bt n a = 1 ∧ ∀ c, c < a → bt n c = 0
      · obtain ⟨hn, a, ha, hb, hc⟩ := hex
        have hn0 : n ≠ 0 := fun q => by
          subst q
          have := bt_le 0 (by decide) a (by omega) hb
          have h2 : 0 < 2 ^ a := Nat.pow_pos (by decide)
          omega
        have hcl := cl_lt (by omega) (by omega) hb
        have con : ∀ s, s < n → ∀ b j, bs (fun t => if t = n then (bs K X ok w (cl n a) a (pe - a - 1)).1 else K t) (fun t => if t = n then (bs K X ok w (cl n a) a (pe - a - 1)).2 else X t) ok w s b j = bs K X ok w s b j := fun s hs b j => bs_congr (fun t ht => ⟨if_neg (by omega), if_neg (by omega)⟩) j
        refine ⟨fun t => if t = n then (bs K X ok w (cl n a) a (pe - a - 1)).1 else K t, fun t => if t = n then (bs K X ok w (cl n a) a (pe - a - 1)).2 else X t, (if_neg (by omega)).trans h1, (if_neg (by omega)).trans h2, fun s hs hsp b hb1 hb2 hb3 => ?_⟩
        by_cases e : s = n
        · subst e
          have eab : b = a := by
            by_cases q : b < a
            · have := hc b q
              omega
            · by_cases q2 : a < b
              · have := hb3 a q2
                omega
              · omega
          subst eab
          rw [con _ hcl]
          simp only [if_true]
        · rw [con _ (by have := cl_le (s := s) (b := b); omega)]
          simp only [if_neg e]
          exact h3 s (by omega) hsp b hb1 hb2 hb3
      · refine ⟨K, X, h1, h2, fun s hs hsp b hb1 hb2 hb3 => ?_⟩
        by_cases e : s = n
        · subst e
          exact absurd ⟨hsp, b, hb1, hb2, hb3⟩ hex
        · exact h3 s (by omega) hsp b hb1 hb2 hb3
  obtain ⟨K, X, h1, h2, h3⟩ := h (2 ^ pe)
  exact ⟨K, X, h1, h2, fun s hs => h3 s hs hs⟩
theorem bs_le {K X : Nat → Nat} {ok : Nat → Nat → Bool} {w : Nat → Nat → Nat} {r a n : Nat} (hr : r < 256) (hn : a + n < 8) (hw : ∀ b, ok a b = true → b < 8 → w a b ≤ 6) (h : ∀ t, t ≤ r → K t ≤ pc t ∧ X t ≤ 6 * K t) : ∀ j, j ≤ n → (bs K X ok w r a j).1 ≤ pc r ∧ (bs K X ok w r a j).2 ≤ 6 * (bs K X ok w r a j).1
  | 0, _ => h r (Nat.le_refl _)
  | j + 1, hj => by
    have ih := bs_le (n := n) hr hn hw h j (by omega)
    unfold bs
    split
    · rename_i hc
      have h1 := pc_m r hr (a + 1 + j) (by omega) hc.1
      have h2 := h (cl r (a + 1 + j)) cl_le
      have h3 := hw (a + 1 + j) hc.2.1 (by omega)
      dsimp only
      omega
    · exact ih
theorem least_bt {s pe : Nat} (hpe : pe ≤ 8) (hs : s < 2 ^ pe) (h0 : s ≠ 0) : ∃ a, a < pe ∧ bt s a = 1 ∧ ∀ c, c < a → bt s c = 0 := by
  have hk : ∀ pe, pe < 9 → ∀ s, s < 2 ^ pe → s ≠ 0 → ∃ a, a < pe ∧ bt s a = 1 := by decide +kernel
  obtain ⟨a, h1, h2, h3⟩ := least pe (hk pe (by omega) s hs h0)
  exact ⟨a, h1, h2, fun c hc => by
    rcases @bt_01 s c with h | h
    · exact h
    · exact absurd h (h3 c hc)⟩
theorem MW_le {pe : Nat} (hpe : pe ≤ 8) {ok : Nat → Nat → Bool} {w : Nat → Nat → Nat} {K X : Nat → Nat} (hw : ∀ a b, ok a b = true → a < 8 → b < 8 → w a b ≤ 6) (h : MW pe ok w K X) : ∀ s, s < 2 ^ pe → K s ≤ pc s ∧ X s ≤ 6 * K s := fun s => by
  induction s using Nat.strongRecOn with
  | ind s ih =>
    intro hs
    have hp : 2 ^ pe ≤ 256 := Nat.le_trans (Nat.pow_le_pow_right (by decide) hpe) (by decide)
    by_cases h0 : s = 0
    · subst h0
      rw [h.1, h.2.1]
      omega
    · obtain ⟨a, h1, h2, h3⟩ := least_bt hpe hs h0
      have e := h.2.2 s hs a h1 h2 h3
      have hcl := cl_lt (by omega) (by omega) h2
      have hb := bs_le (r := cl s a) (a := a) (n := pe - a - 1) (K := K) (X := X) (ok := ok) (w := w) (by omega) (by omega) (fun b q1 q2 => hw a b q1 (by omega) q2) (fun t ht => ih t (by omega) (by omega)) (pe - a - 1) (Nat.le_refl _)
      rw [← e] at hb
      have hpc := pc_m s (by omega) a (by omega) h2
      dsimp only at hb
      omega
