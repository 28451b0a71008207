/-! ===== sums: ways and fewest dips, by vats from either end ===== -/
def hl (v s : Nat) : Prop := v / 100 ≤ s / 100 ∧ v / 10 % 10 ≤ s / 10 % 10 ∧ v % 10 ≤ s % 10
def okh (v s : Nat) : Bool := decide (0 < v ∧ v / 100 ≤ s / 100 ∧ v / 10 % 10 ≤ s / 10 % 10 ∧ v % 10 ≤ s % 10)
theorem okh_t {v s : Nat} : okh v s = true ↔ (0 < v ∧ hl v s) := by
  unfold okh hl
  exact decide_eq_true_iff
theorem okh_f {v s : Nat} : okh v s = false ↔ ¬ (0 < v ∧ hl v s) := by
  rw [← okh_t]
  cases okh v s <;> simp
theorem hl_le {v s : Nat} (h : hl v s) : v ≤ s := by
  unfold hl at h
  omega
theorem hl_d {v s : Nat} (h : hl v s) : (s - v) / 100 = s / 100 - v / 100 ∧ (s - v) / 10 % 10 = s / 10 % 10 - v / 10 % 10 ∧ (s - v) % 10 = s % 10 - v % 10 := by
  unfold hl at h
  omega
theorem okh_two {a b s : Nat} (ha : okh a s = true) : okh b (s - a) = true ↔ (0 < b ∧ a / 100 + b / 100 ≤ s / 100 ∧ a / 10 % 10 + b / 10 % 10 ≤ s / 10 % 10 ∧ a % 10 + b % 10 ≤ s % 10) := by
  rw [okh_t] at ha ⊢
  obtain ⟨h0, h1⟩ := ha
  obtain ⟨e1, e2, e3⟩ := hl_d h1
  unfold hl at h1 ⊢
  rw [e1, e2, e3]
  omega
def svF (c : Bool) (v : Nat) (g : Nat → Nat) : Nat → Nat → Nat
  | 0, s => g s
  | f + 1, s => if c then g s + (if okh v s then svF c v g f (s - v) else 0) else min (g s) (if okh v s then svF c v g f (s - v) + 1 else 5000)
def sv (c : Bool) (v : Nat) (g : Nat → Nat) (s : Nat) : Nat := svF c v g (s + 1) s
theorem svF_eq {c : Bool} {v : Nat} {g : Nat → Nat} : ∀ f f' s, s < f → s < f' → svF c v g f s = svF c v g f' s := by
  intro f
  induction f with
  | zero => intro f' s h _; omega
  | succ f ih =>
    intro f' s h h'
    cases f' with
    | zero => omega
    | succ f' =>
      unfold svF
      by_cases ho : okh v s = true
      · obtain ⟨h0, h1⟩ := okh_t.mp ho
        have := hl_le h1
        rw [ih f' (s - v) (by omega) (by omega)]
      · simp only [ho, Bool.false_eq_true, if_false]
theorem sv_e {c : Bool} {v s : Nat} {g : Nat → Nat} : sv c v g s = if c then g s + (if okh v s then sv c v g (s - v) else 0) else min (g s) (if okh v s then sv c v g (s - v) + 1 else 5000) := by
  unfold sv
  rw [svF]
  by_cases ho : okh v s = true
  · obtain ⟨h0, h1⟩ := okh_t.mp ho
    have := hl_le h1
    rw [svF_eq s (s - v + 1) (s - v) (by omega) (by omega)]
  · simp only [ho, Bool.false_eq_true, if_false]
theorem sv_t {v s : Nat} {g : Nat → Nat} : sv true v g s = g s + (if okh v s then sv true v g (s - v) else 0) := by
  rw [sv_e]
  rfl
theorem sv_f {v s : Nat} {g : Nat → Nat} : sv false v g s = min (g s) (if okh v s then sv false v g (s - v) + 1 else 5000) := by
  rw [sv_e]
  rfl
theorem sv_ct {a b : Nat} {g : Nat → Nat} : ∀ n s, s ≤ n → sv true a (sv true b g) s = sv true b (sv true a g) s := by
  intro n
  induction n with
  | zero =>
    intro s hs
    have h0 : ∀ v, okh v s = false := fun v => okh_f.mpr (fun h => by have := hl_le h.2; omega)
    rw [sv_t, sv_t, sv_t (v := b) (g := sv true a g), sv_t (v := a) (g := g), h0 a, h0 b]
    simp only [Bool.false_eq_true, if_false]
  | succ n ih =>
    intro s hs
    rw [sv_t, sv_t (v := b) (s := s), sv_t (v := b) (s := s) (g := sv true a g), sv_t (v := a) (s := s) (g := g)]
    cases ha : okh a s <;> cases hb : okh b s
    · rfl
    · obtain ⟨h0, h1⟩ := okh_t.mp hb
      have := hl_le h1
      rw [← ih (s - b) (by omega), sv_t (v := a) (s := s - b)]
      have h2 : okh a (s - b) = false := by
        cases h2 : okh a (s - b) with
        | false => rfl
        | true =>
          exfalso
          have h3 := (okh_two hb).mp h2
          have h4 := okh_f.mp ha
          unfold hl at h4
          omega
      rw [h2]
      simp only [if_true, if_false, Bool.false_eq_true]
      omega
    · obtain ⟨h0, h1⟩ := okh_t.mp ha
      have := hl_le h1
      rw [ih (s - a) (by omega), sv_t (v := b) (s := s - a)]
      have h2 : okh b (s - a) = false := by
        cases h2 : okh b (s - a) with
        | false => rfl
        | true =>
          exfalso
          have h3 := (okh_two ha).mp h2
          have h4 := okh_f.mp hb
          unfold hl at h4
          omega
      rw [h2]
      simp only [if_true, if_false, Bool.false_eq_true]
      omega
    · obtain ⟨p0, p1⟩ := okh_t.mp ha
      have := hl_le p1
      obtain ⟨q0, q1⟩ := okh_t.mp hb
      have := hl_le q1
      rw [ih (s - a) (by omega), sv_t (v := b) (s := s - a), ← ih (s - b) (by omega), sv_t (v := a) (s := s - b)]
      have e : okh b (s - a) = okh a (s - b) := by
        rw [Bool.eq_iff_iff, okh_two ha, okh_two hb]
        omega
      rw [e]
      cases h2 : okh a (s - b)
      · simp only [if_true, if_false, Bool.false_eq_true]
        omega
      · have h3 := (okh_two hb).mp h2
        simp only [if_true]
        have e2 : s - b - a = s - a - b := by omega
        rw [e2, ih (s - a - b) (by omega)]
        omega
theorem sv_cf {a b : Nat} {g : Nat → Nat} : ∀ n s, s ≤ n → sv false a (sv false b g) s = sv false b (sv false a g) s := by
  intro n
  induction n with
  | zero =>
    intro s hs
    have h0 : ∀ v, okh v s = false := fun v => okh_f.mpr (fun h => by have := hl_le h.2; omega)
    rw [sv_f, sv_f, sv_f (v := b) (g := sv false a g), sv_f (v := a) (g := g), h0 a, h0 b]
    simp only [Bool.false_eq_true, if_false]
  | succ n ih =>
    intro s hs
    rw [sv_f, sv_f (v := b) (s := s), sv_f (v := b) (s := s) (g := sv false a g), sv_f (v := a) (s := s) (g := g)]
    cases ha : okh a s <;> cases hb : okh b s
    · rfl
    · obtain ⟨h0, h1⟩ := okh_t.mp hb
      have := hl_le h1
      rw [← ih (s - b) (by omega), sv_f (v := a) (s := s - b)]
      have h2 : okh a (s - b) = false := by
        cases h2 : okh a (s - b) with
        | false => rfl
        | true =>
          exfalso
          have h3 := (okh_two hb).mp h2
          have h4 := okh_f.mp ha
          unfold hl at h4
          omega
      rw [h2]
      simp only [if_true, if_false, Bool.false_eq_true]
      omega
    · obtain ⟨h0, h1⟩ := okh_t.mp ha
      have := hl_le h1
      rw [ih (s - a) (by omega), sv_f (v := b) (s := s - a)]
      have h2 : okh b (s - a) = false := by
        cases h2 : okh b (s - a) with
        | false => rfl
        | true =>
          exfalso
          have h3 := (okh_two ha).mp h2
          have h4 := okh_f.mp hb
          unfold hl at h4
          omega
      rw [h2]
      simp only [if_true, if_false, Bool.false_eq_true]
      omega
    · obtain ⟨p0, p1⟩ := okh_t.mp ha
      have := hl_le p1
      obtain ⟨q0, q1⟩ := okh_t.mp hb
      have := hl_le q1
      rw [ih (s - a) (by omega), sv_f (v := b) (s := s - a), ← ih (s - b) (by omega), sv_f (v := a) (s := s - b)]
      have e : okh b (s - a) = okh a (s - b) := by
        rw [Bool.eq_iff_iff, okh_two ha, okh_two hb]
        omega
      rw [e]
      cases h2 : okh a (s - b)
      · simp only [if_true, if_false, Bool.false_eq_true]
        omega
      · have h3 := (okh_two hb).mp h2
        simp only [if_true]
        have e2 : s - b - a = s - a - b := by omega
        rw [e2, ih (s - a - b) (by omega)]
        omega
theorem sv_comm {c : Bool} {a b : Nat} {g : Nat → Nat} : sv c a (sv c b g) = sv c b (sv c a g) := by
  funext s
  cases c with
  | true => exact sv_ct s s (Nat.le_refl _)
  | false => exact sv_cf s s (Nat.le_refl _)
/-- from the last vat down to the first, and from the first up -/
def PV (c : Bool) (vt : Nat → Nat) (g : Nat → Nat) : Nat → Nat → Nat
  | 0 => g
  | k + 1 => sv c (vt k) (PV c vt g k)
def EV (c : Bool) (vt : Nat → Nat) (g : Nat → Nat) : Nat → Nat → Nat → Nat
  | 0, _ => g
  | k + 1, i => sv c (vt i) (EV c vt g k (i + 1))
theorem EV_last {c : Bool} {vt g : Nat → Nat} : ∀ k i, EV c vt g (k + 1) i = sv c (vt (i + k)) (EV c vt g k i) := by
  intro k
  induction k with
  | zero => intro i; rfl
  | succ k ih =>
    intro i
    have e : i + 1 + k = i + (k + 1) := by omega
    show sv c (vt i) (EV c vt g (k + 1) (i + 1)) = sv c (vt (i + (k + 1))) (sv c (vt i) (EV c vt g k (i + 1)))
    rw [ih (i + 1), sv_comm, e]
theorem EV_PV {c : Bool} {vt g : Nat → Nat} : ∀ k, EV c vt g k 0 = PV c vt g k := by
  intro k
  induction k with
  | zero => rfl
  | succ k ih =>
    rw [EV_last, ih, Nat.zero_add]
    rfl
def dl (c : Bool) (s : Nat) : Nat := if c then (if s = 0 then 1 else 0) else (if s = 0 then 0 else 5000)
theorem sv_b {v : Nat} {g : Nat → Nat} (h : ∀ s, g s ≤ s ∨ 5000 ≤ g s) : ∀ n s, s ≤ n → sv false v g s ≤ s ∨ 5000 ≤ sv false v g s := by
  intro n
  induction n with
  | zero =>
    intro s hs
    have h0 : okh v s = false := okh_f.mpr (fun h => by have := hl_le h.2; omega)
    rw [sv_f, h0]
    have := h s
    simp only [if_false, Bool.false_eq_true]
    omega
  | succ n ih =>
    intro s hs
    rw [sv_f]
    have := h s
    cases ho : okh v s
    · simp only [if_false, Bool.false_eq_true]
      omega
    · obtain ⟨h0, h1⟩ := okh_t.mp ho
      have := hl_le h1
      have := ih (s - v) (by omega)
      simp only [if_true]
      omega
theorem EV_b {vt : Nat → Nat} : ∀ k i s, EV false vt (dl false) k i s ≤ s ∨ 5000 ≤ EV false vt (dl false) k i s := by
  intro k
  induction k with
  | zero =>
    intro i s
    show dl false s ≤ s ∨ 5000 ≤ dl false s
    unfold dl
    by_cases h : s = 0
    · simp [h]
    · simp [h]
  | succ k ih => exact fun i s => sv_b (ih (i + 1)) s s (Nat.le_refl _)
theorem PV_b {vt : Nat → Nat} {k s : Nat} : PV false vt (dl false) k s ≤ s ∨ 5000 ≤ PV false vt (dl false) k s := by
  rw [← EV_PV]
  exact EV_b k 0 s
