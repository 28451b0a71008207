/-! ===== night: longs of a Nat; the program's sum and its halving ===== -/
def mm (n : Nat) : Int64 := Int64.ofNat n
theorem mm_add (a b : Nat) : mm a + mm b = mm (a + b) := (Int64.ofNat_add a b).symm
theorem mm_mul (a b : Nat) : mm a * mm b = mm (a * b) := (Int64.ofNat_mul a b).symm
theorem mm_sub {a b : Nat} (h : b ≤ a) : mm a - mm b = mm (a - b) := (Int64.ofNat_sub a b h).symm
theorem mm_div {a b : Nat} (ha : a < 4611686018427387904) (hb : b < 4611686018427387904) : mm a / mm b = mm (a / b) := (Int64.ofNat_div (by omega) (by omega)).symm
theorem mm_toInt {a : Nat} (h : a < 4611686018427387904) : (mm a).toInt = (a : Int) := Int64.toInt_ofNat_of_lt (by omega)
theorem mm_inj {a b : Nat} (ha : a < 4611686018427387904) (hb : b < 4611686018427387904) (h : mm a = mm b) : a = b := by
  have := congrArg Int64.toInt h
  rw [mm_toInt ha, mm_toInt hb] at this
  omega
theorem mm_z {a : Nat} (h : a = 0) : (mm a = 0) = True := eq_true (by rw [h]; rfl)
theorem mm_nz {a : Nat} (ha : a < 4611686018427387904) (h : a ≠ 0) : (mm a = 0) = False := eq_false (fun q => h (mm_inj (b := 0) ha (by decide) q))
theorem lg_z {a : Nat} (h : a = 0) : (lg_cmp (mm a) 0 = nn 0) = True := eq_true (by rw [h]; decide)
theorem lg_nz {a : Nat} (ha : a < 4611686018427387904) (h : a ≠ 0) : (lg_cmp (mm a) 0 = nn 0) = False := eq_false (fun q => by
  have h1 : mm a > 0 := Int64.lt_iff_toInt_lt.mpr (by
    rw [mm_toInt ha]
    show (0 : Int) < _
    omega)
  unfold lg_cmp at q
  rw [if_pos h1] at q
  exact absurd q (by decide))
theorem mm_half {a : Nat} (ha : a < 4611686018427387904) : mm a / 2 = mm (a / 2) := mm_div (b := 2) ha (by decide)
theorem mm_odd {a : Nat} (ha : a < 4611686018427387904) : mm a - mm a / 2 * 2 = mm (a % 2) := by
  rw [mm_half ha, show (2 : Int64) = mm 2 from rfl, mm_mul, mm_sub (by omega)]
  congr 1
  omega
theorem mm_odd2 {a : Nat} (ha : a < 4611686018427387904) : mm a - mm (a / 2) * 2 = mm (a % 2) := by
  rw [← mm_half ha, mm_odd ha]
theorem mm_rem {a b : Nat} (ha : a < 4611686018427387904) (hb : b < 4611686018427387904) : mm a - mm a / mm b * mm b = mm (a % b) := by
  rw [mm_div ha hb, mm_mul, mm_sub (Nat.div_mul_le_self a b)]
  congr 1
  have := Nat.div_add_mod a b
  have h2 : b * (a / b) = a / b * b := Nat.mul_comm _ _
  omega
theorem nn_64 {a : Nat} (h : a < 2147483648) : (nn a).toInt64 = mm a := by
  apply Int64.toInt_inj.mp
  rw [Int32.toInt_toInt64, nn_toInt h, mm_toInt (by omega)]
theorem power_P {N b e : Nat} (hN : 2000 < N) (hb : b < 2147483648) (he : e ≤ 20) : F_X10_power N (nn b) (nn e) = some (mm (b ^ e)) := by
  have h : z_P (F_X10_power N (nn b) (nn e)) (fun x => x = mm (b ^ e)) := by
    unfold F_X10_power
    refine z_P_loop (fun q t => ∃ i, i + q = e ∧ t.1 = mm (b ^ i) ∧ t.2 = nn i) ?_ e N _ (by omega) ⟨0, by omega, rfl, rfl⟩
    rintro q ⟨v1, v2⟩ kc ⟨i, hq, rfl, rfl⟩ ih
    dsimp only
    by_cases hi : i < e
    · simp (disch := omega) only [F_X10_power_L5, nn_64, mm_mul, ↓reduceIte, ↓z_letE, ↓z_bdE, nn_l2, nn_add, nn_mul, nn_sub, nn_addM, nn_div, nn_rem, nn_min, nn_max, nn_abs, nn_ltT, nn_ltF, nn_leT, nn_leF, nn_eqT, nn_eqF, nn_eqM, nn_Meq, nn_ltM, nn_Mlt, nn_leM, nn_Mle, z_ix_nn, z_inb_nn, F_at_nn, F_put_nn, Nat.zero_add, Nat.add_zero, z_P_some, z_R_some, z_P_bd]
      exact ih (q - 1) _ (by omega) ⟨i + 1, by omega, by rw [Nat.pow_succ], rfl⟩
    · obtain rfl : i = e := by omega
      simp (disch := omega) only [F_X10_power_L5, ↓reduceIte, ↓z_letE, ↓z_bdE, nn_l2, nn_add, nn_mul, nn_sub, nn_addM, nn_div, nn_rem, nn_min, nn_max, nn_abs, nn_ltT, nn_ltF, nn_leT, nn_leF, nn_eqT, nn_eqF, nn_eqM, nn_Meq, nn_ltM, nn_Mlt, nn_leM, nn_Mle, z_ix_nn, z_inb_nn, F_at_nn, F_put_nn, Nat.zero_add, Nat.add_zero, z_P_some, z_R_some, z_P_bd]
  obtain ⟨x, h1, h2⟩ := h
  rw [h1, h2]
def bc (m : Nat) : Nat := m % 2 + m / 2 % 2 + m / 4 % 2 + m / 8 % 2 + m / 16 % 2 + m / 32 % 2 + m / 64 % 2 + m / 128 % 2 + m / 256 % 2
theorem bc_9 : ∀ s, s < 512 → F_J6_bitCount_0f7a4 (nn s) = nn (bc s) := by decide +kernel
theorem bc_le : ∀ n, n < 10 → ∀ s, s < 2 ^ n → bc s ≤ n := by decide +kernel
theorem shl_9 : ∀ b, b < 10 → z_shl (nn 1) (nn b) = nn (2 ^ b) := by decide +kernel
def pS (n k : Nat) : Nat → Nat
  | 0 => 0
  | i + 1 => pS n k i + (if 2 * bc i ≤ n then 0 else k ^ bc i * (16 - k) ^ (n - bc i))
theorem mostRight_P {N n k : Nat} (hN : 2000 < N) (hn : n < 10) (hk : k ≤ 16) : F_X10_mostRight N (nn n) (nn k) = some (mm (pS n k (2 ^ n))) := by
  have hp : 2 ^ n ≤ 512 := Nat.le_trans (Nat.pow_le_pow_right (by decide) (show n ≤ 9 by omega)) (by decide)
  have es := shl_9 n hn
  have hle := bc_le n hn
  generalize 2 ^ n = M at hp es hle ⊢
  have h : z_P (F_X10_mostRight N (nn n) (nn k)) (fun x => x = mm (pS n k M)) := by
    unfold F_X10_mostRight
    refine z_P_loop (fun q t => ∃ i, i + q = M ∧ t.1 = mm (pS n k i) ∧ t.2 = nn i) ?_ M N _ (by omega) ⟨0, by omega, rfl, rfl⟩
    rintro q ⟨v1, v2⟩ kc ⟨i, hq, rfl, rfl⟩ ih
    dsimp only
    by_cases hi : i < M
    rotate_left
    · obtain rfl : i = M := by omega
      simp (disch := omega) only [F_X10_mostRight_L5, es, ↓reduceIte, ↓z_letE, ↓z_bdE, nn_l2, nn_add, nn_mul, nn_sub, nn_addM, nn_div, nn_rem, nn_min, nn_max, nn_abs, nn_ltT, nn_ltF, nn_leT, nn_leF, nn_eqT, nn_eqF, nn_eqM, nn_Meq, nn_ltM, nn_Mlt, nn_leM, nn_Mle, z_ix_nn, z_inb_nn, F_at_nn, F_put_nn, Nat.zero_add, Nat.add_zero, z_P_some, z_R_some, z_P_bd]
    have e1 := bc_9 i (by omega)
    have hb := hle i hi
    have hs : ∀ x, pS n k i + x = pS n k (i + 1) → z_P (kc (mm (pS n k i + x), nn (i + 1))) (fun x => x = mm (pS n k M)) := fun x hx => ih (q - 1) _ (by omega) ⟨i + 1, by omega, by rw [hx], rfl⟩
    generalize hB : bc i = B at e1 hb
    by_cases h2 : 2 * B ≤ n
    · simp (disch := omega) only [F_X10_mostRight_L5, es, e1, ↓reduceIte, ↓z_letE, ↓z_bdE, nn_l2, nn_add, nn_mul, nn_sub, nn_addM, nn_div, nn_rem, nn_min, nn_max, nn_abs, nn_ltT, nn_ltF, nn_leT, nn_leF, nn_eqT, nn_eqF, nn_eqM, nn_Meq, nn_ltM, nn_Mlt, nn_leM, nn_Mle, z_ix_nn, z_inb_nn, F_at_nn, F_put_nn, Nat.zero_add, Nat.add_zero, z_P_some, z_R_some, z_P_bd]
      exact hs 0 (by rw [pS, hB, if_pos h2])
    · have p1 := power_P (b := k) (e := B) hN (by omega) (by omega)
      have p2 := power_P (b := 16 - k) (e := n - B) hN (by omega) (by omega)
      simp (disch := omega) only [F_X10_mostRight_L5, es, e1, p1, p2, mm_mul, mm_add, ↓reduceIte, ↓z_letE, ↓z_bdE, nn_l2, nn_add, nn_mul, nn_sub, nn_addM, nn_div, nn_rem, nn_min, nn_max, nn_abs, nn_ltT, nn_ltF, nn_leT, nn_leF, nn_eqT, nn_eqF, nn_eqM, nn_Meq, nn_ltM, nn_Mlt, nn_leM, nn_Mle, z_ix_nn, z_inb_nn, F_at_nn, F_put_nn, Nat.zero_add, Nat.add_zero, z_P_some, z_R_some, z_P_bd]
      exact hs _ (by rw [pS, hB, if_neg h2])
  obtain ⟨x, h1, h2⟩ := h
  rw [h1, h2]
def hv : Nat → Nat → Nat → Nat × Nat
  | 0, p, d => (p, d)
  | q + 1, p, d => if p % 2 = 0 then hv q (p / 2) (d / 2) else (p, d)
theorem halve_P {N n w P Q : Nat} {D : z_Dat} (hN : 2000 < N) (hn : n < 10) (hw : w = 0 ∨ w = 1) (hP : P < 4611686018427387904) (hQ : Q < 4611686018427387904) : z_loop (fun kc40 s => F_X10_night_L73x (nn n) (nn w) D kc40 s.1 s.2.1 s.2.2) N (mm P, mm Q, nn 0) = some (.inl (mm (if w = 0 then (hv (4 * n) P Q).1 else (hv (4 * n) P Q).2), D)) := by
  have h : z_P (z_loop (fun kc40 s => F_X10_night_L73x (nn n) (nn w) D kc40 s.1 s.2.1 s.2.2) N (mm P, mm Q, nn 0)) (fun x => x = .inl (mm (if w = 0 then (hv (4 * n) P Q).1 else (hv (4 * n) P Q).2), D)) := by
    generalize hT : hv (4 * n) P Q = T
    refine z_P_loop (fun q t => ∃ i P Q, i + q = 4 * n ∧ t.1 = mm P ∧ t.2.1 = mm Q ∧ t.2.2 = nn i ∧ P < 4611686018427387904 ∧ Q < 4611686018427387904 ∧ hv q P Q = T) ?_ (4 * n) N _ (by omega) ⟨0, P, Q, by omega, rfl, rfl, rfl, hP, hQ, hT⟩
    clear hT hP hQ P Q
    rintro q ⟨v1, v2, v3⟩ kc ⟨i, P, Q, hq, rfl, rfl, rfl, hP, hQ, hT⟩ ih
    dsimp only
    by_cases hi : 4 * n ≤ i
    · obtain rfl : q = 0 := by omega
      unfold hv at hT
      subst hT
      rcases hw with rfl | rfl
      · simp (disch := omega) only [F_X10_night_L73x, ↓reduceIte, ↓z_letE, ↓z_bdE, nn_l2, nn_add, nn_mul, nn_sub, nn_addM, nn_div, nn_rem, nn_min, nn_max, nn_abs, nn_ltT, nn_ltF, nn_leT, nn_leF, nn_eqT, nn_eqF, nn_eqM, nn_Meq, nn_ltM, nn_Mlt, nn_leM, nn_Mle, z_ix_nn, z_inb_nn, F_at_nn, F_put_nn, Nat.zero_add, Nat.add_zero, z_P_some, z_R_some, z_P_bd]
      · simp (disch := omega) only [F_X10_night_L73x, ↓reduceIte, ↓z_letE, ↓z_bdE, nn_l2, nn_add, nn_mul, nn_sub, nn_addM, nn_div, nn_rem, nn_min, nn_max, nn_abs, nn_ltT, nn_ltF, nn_leT, nn_leF, nn_eqT, nn_eqF, nn_eqM, nn_Meq, nn_ltM, nn_Mlt, nn_leM, nn_Mle, z_ix_nn, z_inb_nn, F_at_nn, F_put_nn, Nat.zero_add, Nat.add_zero, z_P_some, z_R_some, z_P_bd]
        rfl
    · cases q with
      | zero => omega
      | succ q =>
        unfold hv at hT
        by_cases hp : P % 2 = 0
        · rw [if_pos hp] at hT
          simp (disch := omega) only [F_X10_night_L73x, mm_odd2, mm_half, lg_z, ↓reduceIte, ↓z_letE, ↓z_bdE, nn_l2, nn_add, nn_mul, nn_sub, nn_addM, nn_div, nn_rem, nn_min, nn_max, nn_abs, nn_ltT, nn_ltF, nn_leT, nn_leF, nn_eqT, nn_eqF, nn_eqM, nn_Meq, nn_ltM, nn_Mlt, nn_leM, nn_Mle, z_ix_nn, z_inb_nn, F_at_nn, F_put_nn, Nat.zero_add, Nat.add_zero, z_P_some, z_R_some, z_P_bd]
          exact ih q _ (by omega) ⟨i + 1, P / 2, Q / 2, by omega, rfl, rfl, rfl, by omega, by omega, hT⟩
        · rw [if_neg hp] at hT
          subst hT
          rcases hw with rfl | rfl
          · simp (disch := omega) only [F_X10_night_L73x, mm_odd2, mm_half, lg_nz, ↓reduceIte, ↓z_letE, ↓z_bdE, nn_l2, nn_add, nn_mul, nn_sub, nn_addM, nn_div, nn_rem, nn_min, nn_max, nn_abs, nn_ltT, nn_ltF, nn_leT, nn_leF, nn_eqT, nn_eqF, nn_eqM, nn_Meq, nn_ltM, nn_Mlt, nn_leM, nn_Mle, z_ix_nn, z_inb_nn, F_at_nn, F_put_nn, Nat.zero_add, Nat.add_zero, z_P_some, z_R_some, z_P_bd]
          · simp (disch := omega) only [F_X10_night_L73x, mm_odd2, mm_half, lg_nz, ↓reduceIte, ↓z_letE, ↓z_bdE, nn_l2, nn_add, nn_mul, nn_sub, nn_addM, nn_div, nn_rem, nn_min, nn_max, nn_abs, nn_ltT, nn_ltF, nn_leT, nn_leF, nn_eqT, nn_eqF, nn_eqM, nn_Meq, nn_ltM, nn_Mlt, nn_leM, nn_Mle, z_ix_nn, z_inb_nn, F_at_nn, F_put_nn, Nat.zero_add, Nat.add_zero, z_P_some, z_R_some, z_P_bd]
            rfl
  obtain ⟨x, h1, h2⟩ := h
  rw [h1, h2]
