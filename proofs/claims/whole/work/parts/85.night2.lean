/-! ===== night: the reference's sum over all witnesses; the question ===== -/
theorem bit_9 : ∀ b, b < 9 → ∀ s, s < 512 → z_shr (nn s) (nn b) &&& nn 1 = nn (s / 2 ^ b % 2) := by decide +kernel
def nIn (k m : Nat) : Nat → Nat × Nat
  | 0 => (0, 1)
  | i + 1 => if m / 2 ^ i % 2 = 1 then ((nIn k m i).1 + 1, (nIn k m i).2 * k) else ((nIn k m i).1, (nIn k m i).2 * (16 - k))
def nOut (n k : Nat) : Nat → Nat
  | 0 => 0
  | m + 1 => nOut n k m + (if 2 * (nIn k m n).1 ≤ n then 0 else (nIn k m n).2)
theorem nIn_le (k m : Nat) : ∀ i, (nIn k m i).1 ≤ i
  | 0 => Nat.le_refl _
  | i + 1 => by
    have := nIn_le k m i
    unfold nIn
    split <;> (dsimp only; omega)
def eu : Nat → Nat → Nat → Option Nat
  | 0, _, _ => none
  | f + 1, a, b => if b = 0 then some a else eu f b (a % b)
theorem least_P {N w A B g f : Nat} (hN : 2000 < N) (hf : f ≤ 1000) (hw : w = 0 ∨ w = 1) (hA : A < 4611686018427387904) (hB : B < 4611686018427387904) (hg : eu f A B = some g) (hg0 : 0 < g) (hg1 : g < 4611686018427387904) : F_X11_least N (mm A) (mm B) (nn w) = some (mm (if w = 0 then A / g else B / g)) := by
  have h : z_P (F_X11_least N (mm A) (mm B) (nn w)) (fun x => x = mm (if w = 0 then A / g else B / g)) := by
    unfold F_X11_least
    refine z_P_loop (fun q t => ∃ a b, a < 4611686018427387904 ∧ b < 4611686018427387904 ∧ t.1 = mm a ∧ t.2 = mm b ∧ eu q a b = some g) ?_ f N _ (by omega) ⟨A, B, hA, hB, rfl, rfl, hg⟩
    rintro q ⟨v1, v2⟩ kc ⟨a, b, ha, hb, rfl, rfl, he⟩ ih
    dsimp only
    cases q with
    | zero => exact absurd he (by simp [eu])
    | succ q =>
      unfold eu at he
      by_cases h0 : b = 0
      · rw [if_pos h0] at he
        cases he
        rcases hw with rfl | rfl
        · simp (disch := omega) only [F_X11_least_L6, lg_z, mm_nz, mm_div, ↓reduceIte, ↓z_letE, ↓z_bdE, nn_l2, nn_add, nn_mul, nn_sub, nn_addM, nn_div, nn_rem, nn_min, nn_max, nn_abs, nn_ltT, nn_ltF, nn_leT, nn_leF, nn_eqT, nn_eqF, nn_eqM, nn_Meq, nn_ltM, nn_Mlt, nn_leM, nn_Mle, z_ix_nn, z_inb_nn, F_at_nn, F_put_nn, Nat.zero_add, Nat.add_zero, z_P_some, z_R_some, z_P_bd]
        · simp (disch := omega) only [F_X11_least_L6, lg_z, mm_nz, mm_div, ↓reduceIte, ↓z_letE, ↓z_bdE, nn_l2, nn_add, nn_mul, nn_sub, nn_addM, nn_div, nn_rem, nn_min, nn_max, nn_abs, nn_ltT, nn_ltF, nn_leT, nn_leF, nn_eqT, nn_eqF, nn_eqM, nn_Meq, nn_ltM, nn_Mlt, nn_leM, nn_Mle, z_ix_nn, z_inb_nn, F_at_nn, F_put_nn, Nat.zero_add, Nat.add_zero, z_P_some, z_R_some, z_P_bd]
          rfl
      · rw [if_neg h0] at he
        have hab : a % b < 4611686018427387904 := Nat.lt_of_le_of_lt (Nat.mod_le a b) ha
        simp (disch := omega) only [F_X11_least_L6, lg_nz, mm_nz, mm_rem, ↓reduceIte, ↓z_letE, ↓z_bdE, nn_l2, nn_add, nn_mul, nn_sub, nn_addM, nn_div, nn_rem, nn_min, nn_max, nn_abs, nn_ltT, nn_ltF, nn_leT, nn_leF, nn_eqT, nn_eqF, nn_eqM, nn_Meq, nn_ltM, nn_Mlt, nn_leM, nn_Mle, z_ix_nn, z_inb_nn, F_at_nn, F_put_nn, Nat.zero_add, Nat.add_zero, z_P_some, z_R_some, z_P_bd]
        exact ih q _ (by omega) ⟨b, a % b, hb, hab, rfl, rfl, he⟩
  obtain ⟨x, h1, h2⟩ := h
  rw [h1, h2]
set_option maxHeartbeats 4000000 in
theorem witness_P {N n k w g : Nat} {D : z_Dat} {z : Int32} (hN : 2000 < N) (hn : n < 10) (hk : k ≤ 16) (hw : w = 0 ∨ w = 1) (hP : nOut n k (2 ^ n) < 4611686018427387904) (hQ : 16 ^ n < 4611686018427387904) (hg : eu 100 (nOut n k (2 ^ n)) (16 ^ n) = some g) (hg0 : 0 < g) (hg1 : g < 4611686018427387904) :
    z_P (z_loop (fun kc51 s => F_X11_night_L66x N (nn n) (nn k) (nn w) (z, D) kc51 s.1 s.2) N (mm 1, nn 0)) (fun t => t = (mm (if w = 0 then nOut n k (2 ^ n) / g else 16 ^ n / g), D)) := by
  have hp : 2 ^ n ≤ 512 := Nat.le_trans (Nat.pow_le_pow_right (by decide) (show n ≤ 9 by omega)) (by decide)
  have es := shl_9 n (by omega)
  refine z_P_loop (fun q t => ∃ i, i + q = n ∧ t.1 = mm (16 ^ i) ∧ t.2 = nn i) ?_ n N _ (by omega) ⟨0, by omega, rfl, rfl⟩
  rintro q ⟨v1, v2⟩ kc ⟨i, hq, rfl, rfl⟩ ih
  dsimp only
  by_cases hi : i < n
  · have e16 : mm (16 ^ i) * 16 = mm (16 ^ (i + 1)) := by
      rw [show (16 : Int64) = mm 16 from rfl, mm_mul, Nat.pow_succ]
    simp (disch := omega) only [F_X11_night_L66x, e16, ↓reduceIte, ↓z_letE, ↓z_bdE, nn_l2, nn_add, nn_mul, nn_sub, nn_addM, nn_div, nn_rem, nn_min, nn_max, nn_abs, nn_ltT, nn_ltF, nn_leT, nn_leF, nn_eqT, nn_eqF, nn_eqM, nn_Meq, nn_ltM, nn_Mlt, nn_leM, nn_Mle, z_ix_nn, z_inb_nn, F_at_nn, F_put_nn, Nat.zero_add, Nat.add_zero, z_P_some, z_R_some, z_P_bd]
    exact ih (q - 1) _ (by omega) ⟨i + 1, by omega, rfl, rfl⟩
  obtain rfl : i = n := by omega
  clear ih
  have hL := least_P (N := N) hN (show 100 ≤ 1000 by decide) hw hP hQ hg hg0 hg1
  simp (disch := omega) only [F_X11_night_L66x, ↓reduceIte, ↓z_letE, ↓z_bdE, nn_l2, nn_add, nn_mul, nn_sub, nn_addM, nn_div, nn_rem, nn_min, nn_max, nn_abs, nn_ltT, nn_ltF, nn_leT, nn_leF, nn_eqT, nn_eqF, nn_eqM, nn_Meq, nn_ltM, nn_Mlt, nn_leM, nn_Mle, z_ix_nn, z_inb_nn, F_at_nn, F_put_nn, Nat.zero_add, Nat.add_zero, z_P_some, z_R_some, z_P_bd]
  refine z_P_loop (fun q t => ∃ m, m + q = 2 ^ i ∧ t.1 = mm (nOut i k m) ∧ t.2 = nn m) ?_ (2 ^ i) N _ (by omega) ⟨0, by omega, rfl, rfl⟩
  rintro q ⟨v3, v4⟩ kc2 ⟨m, hq2, rfl, rfl⟩ ih
  dsimp only
  by_cases hm : m < 2 ^ i
  rotate_left
  · obtain rfl : m = 2 ^ i := by omega
    simp (disch := omega) only [F_X11_night_L89x, es, hL, ↓reduceIte, ↓z_letE, ↓z_bdE, nn_l2, nn_add, nn_mul, nn_sub, nn_addM, nn_div, nn_rem, nn_min, nn_max, nn_abs, nn_ltT, nn_ltF, nn_leT, nn_leF, nn_eqT, nn_eqF, nn_eqM, nn_Meq, nn_ltM, nn_Mlt, nn_leM, nn_Mle, z_ix_nn, z_inb_nn, F_at_nn, F_put_nn, Nat.zero_add, Nat.add_zero, z_P_some, z_R_some, z_P_bd]
  simp (disch := omega) only [F_X11_night_L89x, es, ↓reduceIte, ↓z_letE, ↓z_bdE, nn_l2, nn_add, nn_mul, nn_sub, nn_addM, nn_div, nn_rem, nn_min, nn_max, nn_abs, nn_ltT, nn_ltF, nn_leT, nn_leF, nn_eqT, nn_eqF, nn_eqM, nn_Meq, nn_ltM, nn_Mlt, nn_leM, nn_Mle, z_ix_nn, z_inb_nn, F_at_nn, F_put_nn, Nat.zero_add, Nat.add_zero, z_P_some, z_R_some, z_P_bd]
  refine z_P_loop (fun q t => ∃ j, j + q = i ∧ t.1 = nn (nIn k m j).1 ∧ t.2.1 = mm (nIn k m j).2 ∧ t.2.2 = nn j) ?_ i N _ (by omega) ⟨0, by omega, rfl, rfl, rfl⟩
  rintro q2 ⟨v5, v6, v7⟩ kc3 ⟨j, hj, rfl, rfl, rfl⟩ ih2
  dsimp only
  have hc := nIn_le k m j
  by_cases hji : j < i
  · have eb := bit_9 j (by omega) m (by omega)
    by_cases hb : m / 2 ^ j % 2 = 1
    · rw [hb] at eb
      simp (disch := omega) only [F_X11_night_L106x, eb, nn_64, mm_mul, ↓reduceIte, ↓z_letE, ↓z_bdE, nn_l2, nn_add, nn_mul, nn_sub, nn_addM, nn_div, nn_rem, nn_min, nn_max, nn_abs, nn_ltT, nn_ltF, nn_leT, nn_leF, nn_eqT, nn_eqF, nn_eqM, nn_Meq, nn_ltM, nn_Mlt, nn_leM, nn_Mle, z_ix_nn, z_inb_nn, F_at_nn, F_put_nn, Nat.zero_add, Nat.add_zero, z_P_some, z_R_some, z_P_bd]
      exact ih2 (q2 - 1) _ (by omega) ⟨j + 1, by omega, by rw [nIn, if_pos hb], by rw [nIn, if_pos hb], rfl⟩
    · have hb0 : m / 2 ^ j % 2 = 0 := by omega
      rw [hb0] at eb
      simp (disch := omega) only [F_X11_night_L106x, eb, nn_64, mm_mul, ↓reduceIte, ↓z_letE, ↓z_bdE, nn_l2, nn_add, nn_mul, nn_sub, nn_addM, nn_div, nn_rem, nn_min, nn_max, nn_abs, nn_ltT, nn_ltF, nn_leT, nn_leF, nn_eqT, nn_eqF, nn_eqM, nn_Meq, nn_ltM, nn_Mlt, nn_leM, nn_Mle, z_ix_nn, z_inb_nn, F_at_nn, F_put_nn, Nat.zero_add, Nat.add_zero, z_P_some, z_R_some, z_P_bd]
      exact ih2 (q2 - 1) _ (by omega) ⟨j + 1, by omega, by rw [nIn, if_neg hb], by rw [nIn, if_neg hb], rfl⟩
  · obtain rfl : j = i := by omega
    by_cases h2 : 2 * (nIn k m j).1 ≤ j
    · have e0 : mm (nOut j k m) + 0 = mm (nOut j k m) := by
        rw [show (0 : Int64) = mm 0 from rfl, mm_add, Nat.add_zero]
      simp (disch := omega) only [F_X11_night_L106x, e0, ↓reduceIte, ↓z_letE, ↓z_bdE, nn_l2, nn_add, nn_mul, nn_sub, nn_addM, nn_div, nn_rem, nn_min, nn_max, nn_abs, nn_ltT, nn_ltF, nn_leT, nn_leF, nn_eqT, nn_eqF, nn_eqM, nn_Meq, nn_ltM, nn_Mlt, nn_leM, nn_Mle, z_ix_nn, z_inb_nn, F_at_nn, F_put_nn, Nat.zero_add, Nat.add_zero, z_P_some, z_R_some, z_P_bd]
      exact ih (q - 1) _ (by omega) ⟨m + 1, by omega, by dsimp only; rw [nOut, if_pos h2]; rfl, rfl⟩
    · simp (disch := omega) only [F_X11_night_L106x, mm_add, ↓reduceIte, ↓z_letE, ↓z_bdE, nn_l2, nn_add, nn_mul, nn_sub, nn_addM, nn_div, nn_rem, nn_min, nn_max, nn_abs, nn_ltT, nn_ltF, nn_leT, nn_leF, nn_eqT, nn_eqF, nn_eqM, nn_Meq, nn_ltM, nn_Mlt, nn_leM, nn_Mle, z_ix_nn, z_inb_nn, F_at_nn, F_put_nn, Nat.zero_add, Nat.add_zero, z_P_some, z_R_some, z_P_bd]
      exact ih (q - 1) _ (by omega) ⟨m + 1, by omega, by rw [nOut, if_neg h2], rfl⟩
def nck (n k : Nat) : Bool := (pS n k (2 ^ n) == nOut n k (2 ^ n)) && decide (nOut n k (2 ^ n) < 4611686018427387904) && decide (16 ^ n < 4611686018427387904) && (match eu 100 (nOut n k (2 ^ n)) (16 ^ n) with
  | none => false
  | some g => decide (0 < g) && decide (g < 4611686018427387904) && decide (hv (4 * n) (nOut n k (2 ^ n)) (16 ^ n) = (nOut n k (2 ^ n) / g, 16 ^ n / g)))
theorem nck_all : ∀ h, h < 5 → ∀ k, k < 17 → nck (2 * h + 1) k = true := by decide +kernel
theorem nck_e {n k : Nat} (h : nck n k = true) : pS n k (2 ^ n) = nOut n k (2 ^ n) ∧ nOut n k (2 ^ n) < 4611686018427387904 ∧ 16 ^ n < 4611686018427387904 ∧ ∃ g, eu 100 (nOut n k (2 ^ n)) (16 ^ n) = some g ∧ 0 < g ∧ g < 4611686018427387904 ∧ hv (4 * n) (nOut n k (2 ^ n)) (16 ^ n) = (nOut n k (2 ^ n) / g, 16 ^ n / g) := by
  unfold nck at h
  cases he : eu 100 (nOut n k (2 ^ n)) (16 ^ n) with
  | none =>
    rw [he] at h
    simp at h
  | some g =>
    rw [he] at h
    simp only [Bool.and_eq_true, decide_eq_true_eq, beq_iff_eq] at h
    exact ⟨h.1.1.1, h.1.1.2, h.1.2, g, rfl, h.2.1.1, h.2.1.2, h.2.2⟩
set_option maxHeartbeats 4000000 in
theorem T_night {N o n : Nat} {a1 a2 a3 : Int32} {D : z_Dat} (hN : 2000 < N) (hJ : J o n D) : ∃ r1 : Int32, ∃ r2 : Int64, ∃ D1 : z_Dat, ∃ D2 : z_Dat, (F_L_night N a1 a2 a3 D = some (r1, D1)) ∧ (F_X11_night N a1 a2 a3 D1 = some (r2, D2)) ∧ ((F_X11_thrown D2) = r1) ∧ (r1 = 0 → lg_cmp ((z_ldJ D2 67 0)) (r2) = 0) ∧ J o n D2 := by
  have bad : F_L_night N a1 a2 a3 D = some (nn 1, z_up D 0 (13 + 1) (D 0 (13 + 1) + nn 1)) → (∀ G : z_Dat, F_X11_night N a1 a2 a3 G = some (0, z_up (z_up (z_up G 40 0 (nn 0)) 40 0 (nn 1)) 41 1 (G 41 1 + nn 1))) → ∃ r1 : Int32, ∃ r2 : Int64, ∃ D1 : z_Dat, ∃ D2 : z_Dat, (F_L_night N a1 a2 a3 D = some (r1, D1)) ∧ (F_X11_night N a1 a2 a3 D1 = some (r2, D2)) ∧ ((F_X11_thrown D2) = r1) ∧ (r1 = 0 → lg_cmp ((z_ldJ D2 67 0)) (r2) = 0) ∧ J o n D2 := fun h1 h2 => by
    obtain ⟨r1, x, D1, D2, e1, e2, e3, e4, e5⟩ := TOP_tt (c := 1) (k := 1) (FM := F_X11_night N a1 a2 a3) hJ (by decide) (by decide) (by decide) h1 (fun G _ => ⟨_, h2 G, rfl⟩)
    exact ⟨r1, x, D1, D2, e1, e2, e3, fun h => absurd h e4, e5⟩
  by_cases hod : (∃ h, h < 5 ∧ a1 = nn (2 * h + 1))
  rotate_left
  · have hw : F_X11_within a1 (nn 1) (nn 9) = nn 0 ∨ (F_X11_within a1 (nn 1) (nn 9) = nn 1 ∧ ¬ a1 < nn 1 ∧ ¬ nn 9 < a1 ∧ ¬ z_rem a1 (nn 2) = nn 1) := by
      by_cases h1 : a1 < nn 1
      · exact Or.inl (within_out (Or.inl h1))
      · by_cases h9 : nn 9 < a1
        · exact Or.inl (within_out (Or.inr h9))
        · refine Or.inr ⟨?_, h1, h9, ?_⟩
          · unfold F_X11_within
            rw [if_neg h1, if_neg h9]
            rfl
          · have h0 : ¬ a1 < 0 := fun q => h1 (Int32.lt_trans q (by decide))
            obtain ⟨k, hk, rfl⟩ := n_of h0 h9 (by decide)
            rw [nn_rem (by omega) (by decide), nn_eq (by omega) (by omega)]
            intro hk2
            exact hod ⟨k / 2, by omega, by congr 1; omega⟩
    rcases hw with hw | ⟨hw, x1, x2, x3⟩
    · refine bad ?_ (fun G => ?_)
      · by_cases h1 : a1 < nn 1
        · simp (disch := omega) only [F_L_night, F_X10_night, F_X10_night_J23, F_X10_night_J24, h1, dem_ok, dem_no, demT_ok, demT_no, z_bt_l, z_bt_r, z_try_l, z_try_r, nl_I, nl_N, nl_IN, nl_NI, may_okU, may_noU, z_up_at, z_up_i, z_up_r, ↓reduceIte, ↓z_letE, ↓z_bdE, nn_l2, nn_add, nn_mul, nn_sub, nn_addM, nn_div, nn_rem, nn_min, nn_max, nn_abs, nn_ltT, nn_ltF, nn_leT, nn_leF, nn_eqT, nn_eqF, nn_eqM, nn_Meq, nn_ltM, nn_Mlt, nn_leM, nn_Mle, z_ix_nn, z_inb_nn, F_at_nn, F_put_nn, Nat.zero_add, Nat.add_zero, z_P_some, z_R_some, z_P_bd]
        · by_cases h9 : nn 9 < a1
          · simp (disch := omega) only [F_L_night, F_X10_night, F_X10_night_J23, F_X10_night_J24, h1, h9, dem_ok, dem_no, demT_ok, demT_no, z_bt_l, z_bt_r, z_try_l, z_try_r, nl_I, nl_N, nl_IN, nl_NI, may_okU, may_noU, z_up_at, z_up_i, z_up_r, ↓reduceIte, ↓z_letE, ↓z_bdE, nn_l2, nn_add, nn_mul, nn_sub, nn_addM, nn_div, nn_rem, nn_min, nn_max, nn_abs, nn_ltT, nn_ltF, nn_leT, nn_leF, nn_eqT, nn_eqF, nn_eqM, nn_Meq, nn_ltM, nn_Mlt, nn_leM, nn_Mle, z_ix_nn, z_inb_nn, F_at_nn, F_put_nn, Nat.zero_add, Nat.add_zero, z_P_some, z_R_some, z_P_bd]
          · unfold F_X11_within at hw
            rw [if_neg h1, if_neg h9] at hw
            exact absurd hw (by decide)
      · simp (disch := omega) only [F_X11_night, F_X11_night_J46, F_X11_night_J47, hw, dem_ok, dem_no, demT_ok, demT_no, z_bt_l, z_bt_r, z_try_l, z_try_r, nl_I, nl_N, nl_IN, nl_NI, may_okU, may_noU, z_up_at, z_up_i, z_up_r, ↓reduceIte, ↓z_letE, ↓z_bdE, nn_l2, nn_add, nn_mul, nn_sub, nn_addM, nn_div, nn_rem, nn_min, nn_max, nn_abs, nn_ltT, nn_ltF, nn_leT, nn_leF, nn_eqT, nn_eqF, nn_eqM, nn_Meq, nn_ltM, nn_Mlt, nn_leM, nn_Mle, z_ix_nn, z_inb_nn, F_at_nn, F_put_nn, Nat.zero_add, Nat.add_zero, z_P_some, z_R_some, z_P_bd]
    · refine bad ?_ (fun G => ?_)
      · simp (disch := omega) only [F_L_night, F_X10_night, F_X10_night_J23, F_X10_night_J24, x1, x2, x3, dem_ok, dem_no, demT_ok, demT_no, z_bt_l, z_bt_r, z_try_l, z_try_r, nl_I, nl_N, nl_IN, nl_NI, may_okU, may_noU, z_up_at, z_up_i, z_up_r, ↓reduceIte, ↓z_letE, ↓z_bdE, nn_l2, nn_add, nn_mul, nn_sub, nn_addM, nn_div, nn_rem, nn_min, nn_max, nn_abs, nn_ltT, nn_ltF, nn_leT, nn_leF, nn_eqT, nn_eqF, nn_eqM, nn_Meq, nn_ltM, nn_Mlt, nn_leM, nn_Mle, z_ix_nn, z_inb_nn, F_at_nn, F_put_nn, Nat.zero_add, Nat.add_zero, z_P_some, z_R_some, z_P_bd]
      · simp (disch := omega) only [F_X11_night, F_X11_night_J46, F_X11_night_J47, hw, x3, dem_ok, dem_no, demT_ok, demT_no, z_bt_l, z_bt_r, z_try_l, z_try_r, nl_I, nl_N, nl_IN, nl_NI, may_okU, may_noU, z_up_at, z_up_i, z_up_r, ↓reduceIte, ↓z_letE, ↓z_bdE, nn_l2, nn_add, nn_mul, nn_sub, nn_addM, nn_div, nn_rem, nn_min, nn_max, nn_abs, nn_ltT, nn_ltF, nn_leT, nn_leF, nn_eqT, nn_eqF, nn_eqM, nn_Meq, nn_ltM, nn_Mlt, nn_leM, nn_Mle, z_ix_nn, z_inb_nn, F_at_nn, F_put_nn, Nat.zero_add, Nat.add_zero, z_P_some, z_R_some, z_P_bd]
  obtain ⟨h, hh, rfl⟩ := hod
  have hwi : F_X11_within (nn (2 * h + 1)) (nn 1) (nn 9) = nn 1 := by
    unfold F_X11_within
    simp (disch := omega) only [↓reduceIte, ↓z_letE, ↓z_bdE, nn_l2, nn_add, nn_mul, nn_sub, nn_addM, nn_div, nn_rem, nn_min, nn_max, nn_abs, nn_ltT, nn_ltF, nn_leT, nn_leF, nn_eqT, nn_eqF, nn_eqM, nn_Meq, nn_ltM, nn_Mlt, nn_leM, nn_Mle, z_ix_nn, z_inb_nn, F_at_nn, F_put_nn, Nat.zero_add, Nat.add_zero, z_P_some, z_R_some, z_P_bd]
  have hrem : z_rem (nn (2 * h + 1)) (nn 2) = nn 1 := by
    rw [nn_rem (by omega) (by decide)]
    congr 1
    omega
  rcases wi_or (m := 16) (by decide) a2 with ⟨k, hk, rfl, ek⟩ | ⟨hx, ek⟩
  rotate_left
  · refine bad ?_ (fun G => ?_)
    · rcases hx with hx | hx
      · simp (disch := omega) only [F_L_night, F_X10_night, F_X10_night_J24x, F_X10_night_J51, F_X10_night_J52, hrem, hx, dem_ok, dem_no, demT_ok, demT_no, z_bt_l, z_bt_r, z_try_l, z_try_r, nl_I, nl_N, nl_IN, nl_NI, may_okU, may_noU, z_up_at, z_up_i, z_up_r, ↓reduceIte, ↓z_letE, ↓z_bdE, nn_l2, nn_add, nn_mul, nn_sub, nn_addM, nn_div, nn_rem, nn_min, nn_max, nn_abs, nn_ltT, nn_ltF, nn_leT, nn_leF, nn_eqT, nn_eqF, nn_eqM, nn_Meq, nn_ltM, nn_Mlt, nn_leM, nn_Mle, z_ix_nn, z_inb_nn, F_at_nn, F_put_nn, Nat.zero_add, Nat.add_zero, z_P_some, z_R_some, z_P_bd]
      · simp (disch := omega) only [F_L_night, F_X10_night, F_X10_night_J24x, F_X10_night_J51, F_X10_night_J52, hrem, hx.1, hx.2, dem_ok, dem_no, demT_ok, demT_no, z_bt_l, z_bt_r, z_try_l, z_try_r, nl_I, nl_N, nl_IN, nl_NI, may_okU, may_noU, z_up_at, z_up_i, z_up_r, ↓reduceIte, ↓z_letE, ↓z_bdE, nn_l2, nn_add, nn_mul, nn_sub, nn_addM, nn_div, nn_rem, nn_min, nn_max, nn_abs, nn_ltT, nn_ltF, nn_leT, nn_leF, nn_eqT, nn_eqF, nn_eqM, nn_Meq, nn_ltM, nn_Mlt, nn_leM, nn_Mle, z_ix_nn, z_inb_nn, F_at_nn, F_put_nn, Nat.zero_add, Nat.add_zero, z_P_some, z_R_some, z_P_bd]
    · simp (disch := omega) only [F_X11_night, F_X11_night_J46, F_X11_night_J47, hwi, hrem, ek, dem_ok, dem_no, demT_ok, demT_no, z_bt_l, z_bt_r, z_try_l, z_try_r, nl_I, nl_N, nl_IN, nl_NI, may_okU, may_noU, z_up_at, z_up_i, z_up_r, ↓reduceIte, ↓z_letE, ↓z_bdE, nn_l2, nn_add, nn_mul, nn_sub, nn_addM, nn_div, nn_rem, nn_min, nn_max, nn_abs, nn_ltT, nn_ltF, nn_leT, nn_leF, nn_eqT, nn_eqF, nn_eqM, nn_Meq, nn_ltM, nn_Mlt, nn_leM, nn_Mle, z_ix_nn, z_inb_nn, F_at_nn, F_put_nn, Nat.zero_add, Nat.add_zero, z_P_some, z_R_some, z_P_bd]
  rcases wi_or (m := 1) (by decide) a3 with ⟨w, hw, rfl, ew⟩ | ⟨hx, ew⟩
  rotate_left
  · refine bad ?_ (fun G => ?_)
    · rcases hx with hx | hx
      · simp (disch := omega) only [F_L_night, F_X10_night, F_X10_night_J24x, F_X10_night_J51, F_X10_night_J52, hrem, hx, dem_ok, dem_no, demT_ok, demT_no, z_bt_l, z_bt_r, z_try_l, z_try_r, nl_I, nl_N, nl_IN, nl_NI, may_okU, may_noU, z_up_at, z_up_i, z_up_r, ↓reduceIte, ↓z_letE, ↓z_bdE, nn_l2, nn_add, nn_mul, nn_sub, nn_addM, nn_div, nn_rem, nn_min, nn_max, nn_abs, nn_ltT, nn_ltF, nn_leT, nn_leF, nn_eqT, nn_eqF, nn_eqM, nn_Meq, nn_ltM, nn_Mlt, nn_leM, nn_Mle, z_ix_nn, z_inb_nn, F_at_nn, F_put_nn, Nat.zero_add, Nat.add_zero, z_P_some, z_R_some, z_P_bd]
      · simp (disch := omega) only [F_L_night, F_X10_night, F_X10_night_J24x, F_X10_night_J51, F_X10_night_J52, hrem, hx.1, hx.2, dem_ok, dem_no, demT_ok, demT_no, z_bt_l, z_bt_r, z_try_l, z_try_r, nl_I, nl_N, nl_IN, nl_NI, may_okU, may_noU, z_up_at, z_up_i, z_up_r, ↓reduceIte, ↓z_letE, ↓z_bdE, nn_l2, nn_add, nn_mul, nn_sub, nn_addM, nn_div, nn_rem, nn_min, nn_max, nn_abs, nn_ltT, nn_ltF, nn_leT, nn_leF, nn_eqT, nn_eqF, nn_eqM, nn_Meq, nn_ltM, nn_Mlt, nn_leM, nn_Mle, z_ix_nn, z_inb_nn, F_at_nn, F_put_nn, Nat.zero_add, Nat.add_zero, z_P_some, z_R_some, z_P_bd]
    · simp (disch := omega) only [F_X11_night, F_X11_night_J46, F_X11_night_J47, hwi, hrem, ek, ew, dem_ok, dem_no, demT_ok, demT_no, z_bt_l, z_bt_r, z_try_l, z_try_r, nl_I, nl_N, nl_IN, nl_NI, may_okU, may_noU, z_up_at, z_up_i, z_up_r, ↓reduceIte, ↓z_letE, ↓z_bdE, nn_l2, nn_add, nn_mul, nn_sub, nn_addM, nn_div, nn_rem, nn_min, nn_max, nn_abs, nn_ltT, nn_ltF, nn_leT, nn_leF, nn_eqT, nn_eqF, nn_eqM, nn_Meq, nn_ltM, nn_Mlt, nn_leM, nn_Mle, z_ix_nn, z_inb_nn, F_at_nn, F_put_nn, Nat.zero_add, Nat.add_zero, z_P_some, z_R_some, z_P_bd]
  obtain ⟨c1, c2, c3, g, c4, c5, c6, c7⟩ := nck_e (nck_all h hh k (by omega))
  have hw2 : w = 0 ∨ w = 1 := by omega
  have m1 := mostRight_P (N := N) (n := 2 * h + 1) (k := k) hN (by omega) hk
  rw [c1] at m1
  have m2 : F_X10_power N (nn 16) (nn (2 * h + 1)) = _ := power_P (N := N) (b := 16) (e := 2 * h + 1) hN (by decide) (by omega)
  have m3 := fun D => halve_P (N := N) (n := 2 * h + 1) (w := w) (P := nOut (2 * h + 1) k (2 ^ (2 * h + 1))) (Q := 16 ^ (2 * h + 1)) (D := D) hN (by omega) hw2 c2 c3
  rw [c7] at m3
  generalize hn : 2 * h + 1 = n' at *
  have hn9 : n' < 10 := by omega
  have hFL : F_L_night N (nn n') (nn k) (nn w) D = some (nn 0, z_upJ D 67 0 (mm (if w = 0 then nOut n' k (2 ^ n') / g else 16 ^ n' / g))) := by
    have m3' := m3 D
    dsimp only at m3'
    simp (disch := omega) only [F_L_night, F_X10_night, F_X10_night_J24x, F_X10_night_J52x, hrem, m1, m2, m3', dem_ok, dem_no, demT_ok, demT_no, z_bt_l, z_bt_r, z_try_l, z_try_r, nl_I, nl_N, nl_IN, nl_NI, may_okU, may_noU, z_up_at, z_up_i, z_up_r, ↓reduceIte, ↓z_letE, ↓z_bdE, nn_l2, nn_add, nn_mul, nn_sub, nn_addM, nn_div, nn_rem, nn_min, nn_max, nn_abs, nn_ltT, nn_ltF, nn_leT, nn_leF, nn_eqT, nn_eqF, nn_eqM, nn_Meq, nn_ltM, nn_Mlt, nn_leM, nn_Mle, z_ix_nn, z_inb_nn, F_at_nn, F_put_nn, Nat.zero_add, Nat.add_zero, z_P_some, z_R_some, z_P_bd]
  obtain ⟨⟨x, E⟩, f1, f2⟩ := witness_P (N := N) (n := n') (k := k) (w := w) (g := g) (D := z_up (z_upJ D 67 0 (mm (if w = 0 then nOut n' k (2 ^ n') / g else 16 ^ n' / g))) 40 0 (nn 0)) (z := nn 1) hN hn9 hk hw2 c2 c3 c4 c5 c6
  cases f2
  generalize mm (if w = 0 then nOut n' k (2 ^ n') / g else 16 ^ n' / g) = X at hFL f1
  have hJ2 := hJ.keep (KA.upJ (x := X) KA.rf)
  refine ⟨nn 0, X, z_upJ D 67 0 X, z_up (z_upJ D 67 0 X) 40 0 (nn 0), hFL, ?_, ?_, fun _ => ?_, hJ2.keep upK⟩
  · simp (disch := omega) only [F_X11_night, F_X11_night_J47x, hwi, hrem, ek, ew, dem_ok, dem_no, demT_ok, demT_no, z_bt_l, z_bt_r, z_try_l, z_try_r, nl_I, nl_N, nl_IN, nl_NI, may_okU, may_noU, z_up_at, z_up_i, z_up_r, ↓reduceIte, ↓z_letE, ↓z_bdE, nn_l2, nn_add, nn_mul, nn_sub, nn_addM, nn_div, nn_rem, nn_min, nn_max, nn_abs, nn_ltT, nn_ltF, nn_leT, nn_leF, nn_eqT, nn_eqF, nn_eqM, nn_Meq, nn_ltM, nn_Mlt, nn_leM, nn_Mle, z_ix_nn, z_inb_nn, F_at_nn, F_put_nn, Nat.zero_add, Nat.add_zero, z_P_some, z_R_some, z_P_bd]
    exact f1
  · unfold F_X11_thrown
    rw [z_up_at rfl rfl]
  · rw [ld_row up67, z_upJ_same]
    exact lg_self _
