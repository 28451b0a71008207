/-! ===== who is to marry whom: the choosing, side by side ===== -/
theorem cntS_eq {u v : Nat → Bool} : ∀ k, (∀ c, c < k → u c = v c) → cntS u k = cntS v k
  | 0, _ => rfl
  | k + 1, h => by
    have ih := cntS_eq (u := u) (v := v) k (fun c hc => h c (by omega))
    unfold cntS
    rw [ih, h k (by omega)]
theorem sumS_eq {u v : Nat → Bool} {x y : Nat → Nat} : ∀ k, (∀ c, c < k → u c = v c ∧ x c = y c) → sumS u x k = sumS v y k
  | 0, _ => rfl
  | k + 1, h => by
    have ih := sumS_eq (u := u) (v := v) (x := x) (y := y) k (fun c hc => h c (by omega))
    unfold sumS
    rw [ih, (h k (by omega)).1, (h k (by omega)).2]
def uP (p : Nat → Nat) (c : Nat) : Bool := decide (c + 1 < p c)
/-- what has been chosen before a, and what is left -/
def CH (pe full a s : Nat) (K X : Nat → Nat) (w : Nat → Nat → Nat) (p : Nat → Nat) : Prop := cntS (uP p) a + K s = K full ∧ sumS (uP p) (fun c => w c (p c - 1)) a + X s = X full ∧ (∀ c, c < a → bt s c = 0) ∧ (∀ c, c < pe → p c ≤ pe) ∧ ∀ c, a ≤ c → c < pe → (bt s c = 1 → p c = 0) ∧ (bt s c = 0 → p c ≤ c)
theorem CH_skip {pe full a s : Nat} {K X : Nat → Nat} {w : Nat → Nat → Nat} {p : Nat → Nat} (ha : a < pe) (hb : bt s a = 0) (h : CH pe full a s K X w p) : CH pe full (a + 1) s K X w p := by
  obtain ⟨h1, h2, h3, h4, h5⟩ := h
  have hu : uP p a = false := by
    have := (h5 a (Nat.le_refl _) ha).2 hb
    unfold uP
    rw [decide_eq_false]
    omega
  refine ⟨by rw [cntS_f hu]; exact h1, by rw [sumS_f hu]; exact h2, fun c hc => ?_, h4, fun c h6 h7 => h5 c (by omega) h7⟩
  by_cases e : c = a
  · subst e; exact hb
  · exact h3 c (by omega)
theorem CH_none {pe full a s : Nat} (hpe : pe ≤ 8) {K X : Nat → Nat} {w : Nat → Nat → Nat} {p : Nat → Nat} (hs : s < 256) (ha : a < pe) (hb : bt s a = 1) (hK : K s = K (cl s a)) (hX : X s = X (cl s a)) (h : CH pe full a s K X w p) : CH pe full (a + 1) (cl s a) K X w p := by
  obtain ⟨h1, h2, h3, h4, h5⟩ := h
  have hbc : ∀ c, c < pe → bt (cl s a) c = if c = a then 0 else bt s c := fun c hc => cl_bt s hs a (by omega) c (by omega)
  have hu : uP p a = false := by
    have := (h5 a (Nat.le_refl _) ha).1 hb
    unfold uP
    rw [decide_eq_false]
    omega
  refine ⟨by rw [cntS_f hu, ← hK]; exact h1, by rw [sumS_f hu, ← hX]; exact h2, fun c hc => ?_, h4, fun c h6 h7 => ?_⟩
  · rw [hbc c (by omega)]
    split
    · rfl
    · exact h3 c (by omega)
  · rw [hbc c h7, if_neg (by omega)]
    exact h5 c (by omega) h7
def pu (p : Nat → Nat) (a b c : Nat) : Nat := if c = a then b + 1 else if c = b then a + 1 else p c
theorem CH_pair {pe full a b s : Nat} (hpe : pe ≤ 8) {K X : Nat → Nat} {w : Nat → Nat → Nat} {p : Nat → Nat} (hs : s < 256) (hb : b < pe) (hab : a < b) (hba : bt s a = 1) (hbb : bt (cl s a) b = 1) (hK : K (cl (cl s a) b) + 1 = K s) (hX : X (cl (cl s a) b) + w a b = X s) (h : CH pe full a s K X w p) : CH pe full (a + 1) (cl (cl s a) b) K X w (pu p a b) := by
  obtain ⟨h1, h2, h3, h4, h5⟩ := h
  have hcl := @cl_le s a
  have hbc : ∀ c, c < pe → bt (cl (cl s a) b) c = if c = b then 0 else if c = a then 0 else bt s c := fun c hc => by
    rw [cl_bt (cl s a) (by omega) b (by omega) c (by omega), cl_bt s hs a (by omega) c (by omega)]
  have pa : pu p a b a = b + 1 := if_pos rfl
  have po : ∀ c, c < a → pu p a b c = p c := fun c hc => by
    unfold pu
    rw [if_neg (by omega), if_neg (by omega)]
  have hu : uP (pu p a b) a = true := by
    unfold uP
    rw [pa, decide_eq_true]
    omega
  have e1 : cntS (uP (pu p a b)) a = cntS (uP p) a := cntS_eq a (fun c hc => by unfold uP; rw [po c hc])
  have e2 : sumS (uP (pu p a b)) (fun c => w c (pu p a b c - 1)) a = sumS (uP p) (fun c => w c (p c - 1)) a := sumS_eq a (fun c hc => ⟨by unfold uP; rw [po c hc], by rw [po c hc]⟩)
  refine ⟨by rw [cntS_t hu, e1]; omega, ?_, fun c hc => ?_, fun c hc => ?_, fun c h6 h7 => ?_⟩
  · rw [sumS_t hu, e2, pa, Nat.add_sub_cancel]
    omega
  · rw [hbc c (by omega)]
    split
    · rfl
    · split
      · rfl
      · exact h3 c (by omega)
  · have := h4 c hc
    unfold pu
    split
    · omega
    · split <;> omega
  · rw [hbc c h7]
    have h8 := h5 c (by omega) h7
    have hca : ¬ c = a := by omega
    unfold pu
    by_cases e : c = b
    · simp only [if_neg hca, if_pos e]
      exact ⟨fun q => by omega, fun _ => by omega⟩
    · simp only [if_neg hca, if_neg e]
      exact h8
