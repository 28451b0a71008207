/-! ===== dips, washings, salt, rain, marriages on both sides ===== -/
theorem TR_all {pe Y Y' p : Nat} {f g f' g' : Nat → Int32} (hT : TR pe Y f g) (hpe : pe ≤ 8) (hp : p < pe) (hf : ∀ j, j < 40 → (j < p * 5 ∨ p * 5 + 5 ≤ j) → f' j = f j) (hg : ∀ j, j < 56 → j ≠ 3 * p → j ≠ 3 * p + 1 → j ≠ 3 * p + 2 → j ≠ 24 + p → j ≠ 32 + p → j ≠ 40 + p → j ≠ 48 + p → g' j = g j)
    (hP : ∃ n, n < 1000 ∧ f' (p * 5) = nn n ∧ (g' (3 * p) = nn (n / 100) ∧ g' (3 * p + 1) = nn (n / 10 % 10) ∧ g' (3 * p + 2) = nn (n % 10)) ∧ f' (p * 5 + 1) = g' (48 + p) ∧ f' (p * 5 + 2) = g' (24 + p) ∧ f' (p * 5 + 3) = g' (32 + p) ∧ f' (p * 5 + 4) = g' (40 + p))
    (hs : ∀ d, d < 3 → ∃ s, s ≤ 200 ∧ f' (40 + d) = nn s ∧ g' (56 + d) = nn s) (hy : ∃ y, y ≤ Y' ∧ f' 43 = nn y ∧ g' 59 = nn y) : TR pe Y' f' g' := by
  refine ⟨fun q hq => ?_, hs, hy⟩
  by_cases h : q = p
  · subst h
    exact hP
  · obtain ⟨n, hn, q0, ⟨q1, q2, q3⟩, q4, q5, q6, q7⟩ := hT.1 q hq
    refine ⟨n, hn, ?_, ⟨?_, ?_, ?_⟩, ?_, ?_, ?_, ?_⟩
    · rw [hf _ (by omega) (by omega)]; exact q0
    · rw [hg _ (by omega) (by omega) (by omega) (by omega) (by omega) (by omega) (by omega) (by omega)]; exact q1
    · rw [hg _ (by omega) (by omega) (by omega) (by omega) (by omega) (by omega) (by omega) (by omega)]; exact q2
    · rw [hg _ (by omega) (by omega) (by omega) (by omega) (by omega) (by omega) (by omega) (by omega)]; exact q3
    · rw [hf _ (by omega) (by omega), hg _ (by omega) (by omega) (by omega) (by omega) (by omega) (by omega) (by omega) (by omega)]; exact q4
    · rw [hf _ (by omega) (by omega), hg _ (by omega) (by omega) (by omega) (by omega) (by omega) (by omega) (by omega) (by omega)]; exact q5
    · rw [hf _ (by omega) (by omega), hg _ (by omega) (by omega) (by omega) (by omega) (by omega) (by omega) (by omega) (by omega)]; exact q6
    · rw [hf _ (by omega) (by omega), hg _ (by omega) (by omega) (by omega) (by omega) (by omega) (by omega) (by omega) (by omega)]; exact q7
theorem dig_sum (n : Nat) : 100 * (n / 100) + 10 * (n / 10 % 10) + n % 10 = n := by omega
theorem shadeOf_e {p n : Nat} {D' : z_Dat} (hp : p < 8) (q1 : D' 58 (3 * p) = nn (n / 100)) (q2 : D' 58 (3 * p + 1) = nn (n / 10 % 10)) (q3 : D' 58 (3 * p + 2) = nn (n % 10)) : F_X11_shadeOf (nn p) D' = some (nn n) := by
  simp (disch := omega) only [F_X11_shadeOf, q1, q2, q3, dig_sum, z_let, nn_lit, nn_add, nn_mul, nn_sub, nn_addM, nn_div, nn_rem, nn_min, nn_max, nn_abs, nn_lt, nn_le, nn_eq, nn_eqM, nn_Meq, nn_ltM, nn_Mlt, nn_leM, nn_Mle, z_ix_nn, z_inb_nn, F_at_nn, F_put_nn, Nat.zero_add, Nat.add_zero, z_P_some, z_R_some, z_P_bd, if_true, if_false, if_pos, if_neg]
theorem vatOf_e {b v : Nat} {D' : z_Dat} (hb : b < 6) (q1 : D' 47 (4 * b) = nn (v / 100)) (q2 : D' 47 (4 * b + 1) = nn (v / 10 % 10)) (q3 : D' 47 (4 * b + 2) = nn (v % 10)) : F_X11_vatOf (nn b) D' = some (nn v) := by
  simp (disch := omega) only [F_X11_vatOf, q1, q2, q3, dig_sum, z_let, nn_lit, nn_add, nn_mul, nn_sub, nn_addM, nn_div, nn_rem, nn_min, nn_max, nn_abs, nn_lt, nn_le, nn_eq, nn_eqM, nn_Meq, nn_ltM, nn_Mlt, nn_leM, nn_Mle, z_ix_nn, z_inb_nn, F_at_nn, F_put_nn, Nat.zero_add, Nat.add_zero, z_P_some, z_R_some, z_P_bd, if_true, if_false, if_pos, if_neg]
theorem shades_e {p v : Nat} {D' : z_Dat} (hp : p < 8) (hv : v < 1000) : F_X11_shades (nn p) (nn v) D' = some (z_up (z_up (z_up D' 58 (3 * p) (nn (v / 100))) 58 (3 * p + 1) (nn (v / 10 % 10))) 58 (3 * p + 2) (nn (v % 10))) := by
  simp (disch := omega) only [F_X11_shades, F_X11_shades_J2xxx, F_X11_shades_J2xx, F_X11_shades_J2x, F_X11_shades_J2, dyeOf_0, dyeOf_1, dyeOf_2, z_let, nn_lit, nn_add, nn_mul, nn_sub, nn_addM, nn_div, nn_rem, nn_min, nn_max, nn_abs, nn_lt, nn_le, nn_eq, nn_eqM, nn_Meq, nn_ltM, nn_Mlt, nn_leM, nn_Mle, z_ix_nn, z_inb_nn, F_at_nn, F_put_nn, Nat.zero_add, Nat.add_zero, z_P_some, z_R_some, z_P_bd, if_true, if_false, if_pos, if_neg]
theorem dippedIn_e {n b v : Nat} {D' : z_Dat} (hn : n < 1000) (hb : b < 6) (hv : v < 1000) (q1 : D' 47 (4 * b) = nn (v / 100)) (q2 : D' 47 (4 * b + 1) = nn (v / 10 % 10)) (q3 : D' 47 (4 * b + 2) = nn (v % 10)) : F_X11_dippedIn (nn n) (nn b) D' = some (nn (dp n v)) := by
  by_cases c0 : n / 100 + v / 100 ≤ 9 <;> by_cases c1 : n / 10 % 10 + v / 10 % 10 ≤ 9 <;> by_cases c2 : n % 10 + v % 10 ≤ 9 <;> (
    simp (disch := omega) only [F_X11_dippedIn_J5, F_X11_dippedIn_J49, F_X11_dippedIn_J49x, F_X11_dippedIn_J5x, F_X11_dippedIn_J49xx, F_X11_dippedIn_J49xxx, F_X11_dippedIn_J5xx, F_X11_dippedIn_J49xxxx, F_X11_dippedIn_J49xxxxx, F_X11_dippedIn_J49xxxxxx, F_X11_dippedIn_J5xxx, F_X11_dippedIn_J49xxxxxxx, F_X11_dippedIn_J5xxxx, F_X11_dippedIn_J49xxxxxxxx, F_X11_dippedIn_J5xxxxx, F_X11_dippedIn_J49xxxxxxxxx, F_X11_dippedIn_J5xxxxxx, F_X11_dippedIn, q1, q2, q3, dyeOf_0, dyeOf_1, dyeOf_2, Option.some.injEq, z_let, nn_lit, nn_add, nn_mul, nn_sub, nn_addM, nn_div, nn_rem, nn_min, nn_max, nn_abs, nn_lt, nn_le, nn_eq, nn_eqM, nn_Meq, nn_ltM, nn_Mlt, nn_leM, nn_Mle, z_ix_nn, z_inb_nn, F_at_nn, F_put_nn, Nat.zero_add, Nat.add_zero, z_P_some, z_R_some, z_P_bd, if_true, if_false, if_pos, if_neg]
    congr 1
    unfold dp
    omega)
theorem affords_e {t v s0 s1 s2 : Nat} {D : z_Dat} (hv : v < 1000) (h0 : s0 ≤ 200) (h1 : s1 ≤ 200) (h2 : s2 ≤ 200) (b0 : D (t + 1) 40 = nn s0) (b1 : D (t + 1) 41 = nn s1) (b2 : D (t + 1) 42 = nn s2) : F_X9_affords t (nn v) D = if v / 100 ≤ s0 ∧ v / 10 % 10 ≤ s1 ∧ v % 10 ≤ s2 then nn 1 else nn 0 := by
  by_cases c0 : v / 100 ≤ s0 <;> by_cases c1 : v / 10 % 10 ≤ s1 <;> by_cases c2 : v % 10 ≤ s2 <;> (
    simp (disch := omega) only [F_X9_affords, F_X9_affords_J2xxx, F_X9_affords_J2xx, F_X9_affords_J2x, F_X9_affords_J2, F_X9_stored, partOf_0, partOf_1, partOf_2, b0, b1, b2, c0, c1, c2, and_true, true_and, and_false, false_and, z_let, nn_lit, nn_add, nn_mul, nn_sub, nn_addM, nn_div, nn_rem, nn_min, nn_max, nn_abs, nn_lt, nn_le, nn_eq, nn_eqM, nn_Meq, nn_ltM, nn_Mlt, nn_leM, nn_Mle, z_ix_nn, z_inb_nn, F_at_nn, F_put_nn, Nat.zero_add, Nat.add_zero, z_P_some, z_R_some, z_P_bd, if_true, if_false, if_pos, if_neg])
