/-! ===== rain, on both sides ===== -/
theorem TR_sh {pe Y : Nat} {f g : Nat → Int32} (hT : TR pe Y f g) : ∃ sh : Nat → Nat, ∀ p, p < pe → sh p < 1000 ∧ f (p * 5) = nn (sh p) ∧ (g (3 * p) = nn (sh p / 100) ∧ g (3 * p + 1) = nn (sh p / 10 % 10) ∧ g (3 * p + 2) = nn (sh p % 10)) := by
  have h : ∀ p : Nat, ∃ n : Nat, p < pe → n < 1000 ∧ f (p * 5) = nn n ∧ (g (3 * p) = nn (n / 100) ∧ g (3 * p + 1) = nn (n / 10 % 10) ∧ g (3 * p + 2) = nn (n % 10)) := fun p => by
    by_cases hp : p < pe
    · obtain ⟨n, hn, q0, q, -⟩ := hT.1 p hp
      exact ⟨n, fun _ => ⟨hn, q0, q⟩⟩
    · exact ⟨0, fun h => absurd h hp⟩
  obtain ⟨sh, hs⟩ := Classical.axiomOfChoice h
  exact ⟨sh, hs⟩
def cntS (u : Nat → Bool) : Nat → Nat
  | 0 => 0
  | k + 1 => cntS u k + (if u k then 1 else 0)
def sumS (u : Nat → Bool) (w : Nat → Nat) : Nat → Nat
  | 0 => 0
  | k + 1 => sumS u w k + (if u k then w k else 0)
theorem cntS_le (u : Nat → Bool) : ∀ k, cntS u k ≤ k
  | 0 => Nat.le_refl _
  | k + 1 => by
    have := cntS_le u k
    unfold cntS
    split <;> omega
theorem sumS_le {u : Nat → Bool} {w : Nat → Nat} {c n : Nat} (h : ∀ p, p < n → w p ≤ c) : ∀ k, k ≤ n → sumS u w k ≤ c * cntS u k
  | 0, _ => by simp [sumS]
  | k + 1, hk => by
    have := sumS_le (u := u) h k (by omega)
    have hw := h k (by omega)
    unfold sumS cntS
    split
    · rw [Nat.mul_add, Nat.mul_one]
      omega
    · simpa using this
theorem cntS_t {u : Nat → Bool} {k : Nat} (h : u k = true) : cntS u (k + 1) = cntS u k + 1 := by simp [cntS, h]
theorem cntS_f {u : Nat → Bool} {k : Nat} (h : u k = false) : cntS u (k + 1) = cntS u k := by simp [cntS, h]
theorem sumS_t {u : Nat → Bool} {w : Nat → Nat} {k : Nat} (h : u k = true) : sumS u w (k + 1) = sumS u w k + w k := by simp [sumS, h]
theorem sumS_f {u : Nat → Bool} {w : Nat → Nat} {k : Nat} (h : u k = false) : sumS u w (k + 1) = sumS u w k := by simp [sumS, h]
/-- the one who is not salted -/
def uS (f : Nat → Int32) (p : Nat) : Bool := decide (f (p * 5 + 2) = nn 0)
def mn (u : Nat → Bool) (sh : Nat → Nat) (pe : Nat) : Nat := sumS u (fun p => sh p / 100) pe / cntS u pe * 100 + sumS u (fun p => sh p / 10 % 10) pe / cntS u pe * 10 + sumS u (fun p => sh p % 10) pe / cntS u pe
theorem div_le9 {a c : Nat} (h : a ≤ 9 * c) (hc : 0 < c) : a / c ≤ 9 := by
  rw [Nat.div_le_iff_le_mul hc]
  omega
theorem unsalted_P {N t pe : Nat} {D : z_Dat} (hN : 100 < N) (hpe : pe ≤ 8) : z_P (F_X9_unsalted N t (nn pe) D) (fun a => a = nn (cntS (uS (D (t + 1))) pe)) := by
  unfold F_X9_unsalted
  refine z_P_loop (fun k s => ∃ p, p + k = pe ∧ s.1 = nn (cntS (uS (D (t + 1))) p) ∧ s.2 = nn p) ?_ pe N _ (by omega) ⟨0, by omega, rfl, rfl⟩
  rintro k ⟨v, w⟩ kc ⟨p, hk, rfl, rfl⟩ ih
  dsimp only
  have hc := cntS_le (uS (D (t + 1))) p
  by_cases hp : p < pe
  · by_cases hs : D (t + 1) (p * 5 + 2) = nn 0
    · simp (disch := omega) only [F_X9_unsalted_L4, F_X9_has, hs, z_let, nn_lit, nn_add, nn_mul, nn_sub, nn_addM, nn_div, nn_rem, nn_min, nn_max, nn_abs, nn_lt, nn_le, nn_eq, nn_eqM, nn_Meq, nn_ltM, nn_Mlt, nn_leM, nn_Mle, z_ix_nn, z_inb_nn, F_at_nn, F_put_nn, Nat.zero_add, Nat.add_zero, z_P_some, z_R_some, z_P_bd, if_true, if_false, if_pos, if_neg]
      exact ih (k - 1) _ (by omega) ⟨p + 1, by omega, by rw [cntS_t (by simp [uS, hs])], rfl⟩
    · simp (disch := omega) only [F_X9_unsalted_L4, F_X9_has, hs, z_let, nn_lit, nn_add, nn_mul, nn_sub, nn_addM, nn_div, nn_rem, nn_min, nn_max, nn_abs, nn_lt, nn_le, nn_eq, nn_eqM, nn_Meq, nn_ltM, nn_Mlt, nn_leM, nn_Mle, z_ix_nn, z_inb_nn, F_at_nn, F_put_nn, Nat.zero_add, Nat.add_zero, z_P_some, z_R_some, z_P_bd, if_true, if_false, if_pos, if_neg]
      exact ih (k - 1) _ (by omega) ⟨p + 1, by omega, by rw [cntS_f (by simp [uS, hs])], rfl⟩
  · have hpp : p = pe := by omega
    subst hpp
    simp (disch := omega) only [F_X9_unsalted_L4, z_let, nn_lit, nn_add, nn_mul, nn_sub, nn_addM, nn_div, nn_rem, nn_min, nn_max, nn_abs, nn_lt, nn_le, nn_eq, nn_eqM, nn_Meq, nn_ltM, nn_Mlt, nn_leM, nn_Mle, z_ix_nn, z_inb_nn, F_at_nn, F_put_nn, Nat.zero_add, Nat.add_zero, z_P_some, z_R_some, z_P_bd, if_true, if_false, if_pos, if_neg]
set_option maxHeartbeats 4000000 in
theorem rainShade_P {N t pe : Nat} {D : z_Dat} {sh : Nat → Nat} (hN : 100 < N) (hpe : pe ≤ 8) (hsh : ∀ p, p < pe → sh p < 1000 ∧ D (t + 1) (p * 5) = nn (sh p)) : z_P (F_X9_rainShade N t (nn pe) D) (fun a => a = if cntS (uS (D (t + 1))) pe < 2 then -nn 1 else nn (mn (uS (D (t + 1))) sh pe)) := by
  unfold F_X9_rainShade
  rw [z_P_bd]
  refine z_P_mono (unsalted_P hN hpe) (fun a ha => ?_)
  subst ha
  have hu : ∃ u, u = uS (D (t + 1)) := ⟨_, rfl⟩
  obtain ⟨u, hu⟩ := hu
  rw [← hu]
  have hcp := cntS_le u pe
  by_cases hc : cntS u pe < 2
  · simp (disch := omega) only [hc, z_let, nn_lit, nn_add, nn_mul, nn_sub, nn_addM, nn_div, nn_rem, nn_min, nn_max, nn_abs, nn_lt, nn_le, nn_eq, nn_eqM, nn_Meq, nn_ltM, nn_Mlt, nn_leM, nn_Mle, z_ix_nn, z_inb_nn, F_at_nn, F_put_nn, Nat.zero_add, Nat.add_zero, z_P_some, z_R_some, z_P_bd, if_true, if_false, if_pos, if_neg]
  simp (disch := omega) only [hc, z_let, nn_lit, nn_add, nn_mul, nn_sub, nn_addM, nn_div, nn_rem, nn_min, nn_max, nn_abs, nn_lt, nn_le, nn_eq, nn_eqM, nn_Meq, nn_ltM, nn_Mlt, nn_leM, nn_Mle, z_ix_nn, z_inb_nn, F_at_nn, F_put_nn, Nat.zero_add, Nat.add_zero, z_P_some, z_R_some, z_P_bd, if_true, if_false, if_pos, if_neg]
  unfold F_X9_rainShade_J18xxx
  refine z_P_loop (fun k s => ∃ p, p + k = pe ∧ s.1 = nn (sumS u (fun p => sh p / 100) p) ∧ s.2 = nn p) ?_ pe N _ (by omega) ⟨0, by omega, rfl, rfl⟩
  rintro k ⟨v, w⟩ kc ⟨p, hk, rfl, rfl⟩ ih
  dsimp only
  have hs0 := sumS_le (u := u) (w := fun p => sh p / 100) (c := 9) (n := pe) (fun p hp => by have := (hsh p hp).1; show sh p / 100 ≤ 9; omega) p (by omega)
  have hc0 := cntS_le u p
  by_cases hp : p < pe
  · obtain ⟨h1, h2⟩ := hsh p hp
    by_cases hs : D (t + 1) (p * 5 + 2) = nn 0
    · simp (disch := omega) only [F_X9_rainShade_L30xx, F_X9_has, hs, h2, partOf_0, z_let, nn_lit, nn_add, nn_mul, nn_sub, nn_addM, nn_div, nn_rem, nn_min, nn_max, nn_abs, nn_lt, nn_le, nn_eq, nn_eqM, nn_Meq, nn_ltM, nn_Mlt, nn_leM, nn_Mle, z_ix_nn, z_inb_nn, F_at_nn, F_put_nn, Nat.zero_add, Nat.add_zero, z_P_some, z_R_some, z_P_bd, if_true, if_false, if_pos, if_neg]
      exact ih (k - 1) _ (by omega) ⟨p + 1, by omega, by rw [sumS_t (by simp [hu, uS, hs])], rfl⟩
    · simp (disch := omega) only [F_X9_rainShade_L30xx, F_X9_has, hs, z_let, nn_lit, nn_add, nn_mul, nn_sub, nn_addM, nn_div, nn_rem, nn_min, nn_max, nn_abs, nn_lt, nn_le, nn_eq, nn_eqM, nn_Meq, nn_ltM, nn_Mlt, nn_leM, nn_Mle, z_ix_nn, z_inb_nn, F_at_nn, F_put_nn, Nat.zero_add, Nat.add_zero, z_P_some, z_R_some, z_P_bd, if_true, if_false, if_pos, if_neg]
      exact ih (k - 1) _ (by omega) ⟨p + 1, by omega, by rw [sumS_f (by simp [hu, uS, hs])], rfl⟩
  have hpp : p = pe := by omega
  subst hpp
  clear ih
  have hm0 := div_le9 hs0 (by omega)
  simp (disch := omega) only [F_X9_rainShade_L30xx, unitOf_0, z_let, nn_lit, nn_add, nn_mul, nn_sub, nn_addM, nn_div, nn_rem, nn_min, nn_max, nn_abs, nn_lt, nn_le, nn_eq, nn_eqM, nn_Meq, nn_ltM, nn_Mlt, nn_leM, nn_Mle, z_ix_nn, z_inb_nn, F_at_nn, F_put_nn, Nat.zero_add, Nat.add_zero, z_P_some, z_R_some, z_P_bd, if_true, if_false, if_pos, if_neg]
  unfold F_X9_rainShade_J18xx
  refine z_P_loop (fun k s => ∃ q, q + k = p ∧ s.1 = nn (sumS u (fun p => sh p / 10 % 10) q) ∧ s.2 = nn q) ?_ p N _ (by omega) ⟨0, by omega, rfl, rfl⟩
  rintro k ⟨v, w⟩ kc ⟨q, hk, rfl, rfl⟩ ih
  dsimp only
  have hs1 := sumS_le (u := u) (w := fun p => sh p / 10 % 10) (c := 9) (n := p) (fun p hp => by show sh p / 10 % 10 ≤ 9; omega) q (by omega)
  have hc1 := cntS_le u q
  by_cases hp : q < p
  · obtain ⟨h1, h2⟩ := hsh q hp
    by_cases hs : D (t + 1) (q * 5 + 2) = nn 0
    · simp (disch := omega) only [F_X9_rainShade_L30x, F_X9_has, hs, h2, partOf_1, z_let, nn_lit, nn_add, nn_mul, nn_sub, nn_addM, nn_div, nn_rem, nn_min, nn_max, nn_abs, nn_lt, nn_le, nn_eq, nn_eqM, nn_Meq, nn_ltM, nn_Mlt, nn_leM, nn_Mle, z_ix_nn, z_inb_nn, F_at_nn, F_put_nn, Nat.zero_add, Nat.add_zero, z_P_some, z_R_some, z_P_bd, if_true, if_false, if_pos, if_neg]
      exact ih (k - 1) _ (by omega) ⟨q + 1, by omega, by rw [sumS_t (by simp [hu, uS, hs])], rfl⟩
    · simp (disch := omega) only [F_X9_rainShade_L30x, F_X9_has, hs, z_let, nn_lit, nn_add, nn_mul, nn_sub, nn_addM, nn_div, nn_rem, nn_min, nn_max, nn_abs, nn_lt, nn_le, nn_eq, nn_eqM, nn_Meq, nn_ltM, nn_Mlt, nn_leM, nn_Mle, z_ix_nn, z_inb_nn, F_at_nn, F_put_nn, Nat.zero_add, Nat.add_zero, z_P_some, z_R_some, z_P_bd, if_true, if_false, if_pos, if_neg]
      exact ih (k - 1) _ (by omega) ⟨q + 1, by omega, by rw [sumS_f (by simp [hu, uS, hs])], rfl⟩
  have hpp : q = p := by omega
  subst hpp
  clear ih
  have hm1 := div_le9 hs1 (by omega)
  simp (disch := omega) only [F_X9_rainShade_L30x, unitOf_1, z_let, nn_lit, nn_add, nn_mul, nn_sub, nn_addM, nn_div, nn_rem, nn_min, nn_max, nn_abs, nn_lt, nn_le, nn_eq, nn_eqM, nn_Meq, nn_ltM, nn_Mlt, nn_leM, nn_Mle, z_ix_nn, z_inb_nn, F_at_nn, F_put_nn, Nat.zero_add, Nat.add_zero, z_P_some, z_R_some, z_P_bd, if_true, if_false, if_pos, if_neg]
  unfold F_X9_rainShade_J18x
  refine z_P_loop (fun k s => ∃ r, r + k = q ∧ s.1 = nn (sumS u (fun p => sh p % 10) r) ∧ s.2 = nn r) ?_ q N _ (by omega) ⟨0, by omega, rfl, rfl⟩
  rintro k ⟨v, w⟩ kc ⟨r, hk, rfl, rfl⟩ ih
  dsimp only
  have hs2 := sumS_le (u := u) (w := fun p => sh p % 10) (c := 9) (n := q) (fun p hp => by show sh p % 10 ≤ 9; omega) r (by omega)
  have hc2 := cntS_le u r
  by_cases hp : r < q
  · obtain ⟨h1, h2⟩ := hsh r hp
    by_cases hs : D (t + 1) (r * 5 + 2) = nn 0
    · simp (disch := omega) only [F_X9_rainShade_L30, F_X9_has, hs, h2, partOf_2, z_let, nn_lit, nn_add, nn_mul, nn_sub, nn_addM, nn_div, nn_rem, nn_min, nn_max, nn_abs, nn_lt, nn_le, nn_eq, nn_eqM, nn_Meq, nn_ltM, nn_Mlt, nn_leM, nn_Mle, z_ix_nn, z_inb_nn, F_at_nn, F_put_nn, Nat.zero_add, Nat.add_zero, z_P_some, z_R_some, z_P_bd, if_true, if_false, if_pos, if_neg]
      exact ih (k - 1) _ (by omega) ⟨r + 1, by omega, by rw [sumS_t (by simp [hu, uS, hs])], rfl⟩
    · simp (disch := omega) only [F_X9_rainShade_L30, F_X9_has, hs, z_let, nn_lit, nn_add, nn_mul, nn_sub, nn_addM, nn_div, nn_rem, nn_min, nn_max, nn_abs, nn_lt, nn_le, nn_eq, nn_eqM, nn_Meq, nn_ltM, nn_Mlt, nn_leM, nn_Mle, z_ix_nn, z_inb_nn, F_at_nn, F_put_nn, Nat.zero_add, Nat.add_zero, z_P_some, z_R_some, z_P_bd, if_true, if_false, if_pos, if_neg]
      exact ih (k - 1) _ (by omega) ⟨r + 1, by omega, by rw [sumS_f (by simp [hu, uS, hs])], rfl⟩
  have hpp : r = q := by omega
  subst hpp
  have hm2 := div_le9 hs2 (by omega)
  simp (disch := omega) only [F_X9_rainShade_L30, F_X9_rainShade_J18, unitOf_2, Nat.mul_one, z_let, nn_lit, nn_add, nn_mul, nn_sub, nn_addM, nn_div, nn_rem, nn_min, nn_max, nn_abs, nn_lt, nn_le, nn_eq, nn_eqM, nn_Meq, nn_ltM, nn_Mlt, nn_leM, nn_Mle, z_ix_nn, z_inb_nn, F_at_nn, F_put_nn, Nat.zero_add, Nat.add_zero, z_P_some, z_R_some, z_P_bd, if_true, if_false, if_pos, if_neg]
  rfl
set_option maxHeartbeats 4000000 in
theorem meanShade_P {N pe : Nat} {D' : z_Dat} {u : Nat → Bool} {sh : Nat → Nat} (hN : 100 < N) (hpe : pe ≤ 8) (h20 : D' 40 20 = nn pe) (hu : ∀ p, p < pe → u p = decide (D' 58 (24 + p) = nn 0)) (hsh : ∀ p, p < pe → sh p < 1000 ∧ (D' 58 (3 * p) = nn (sh p / 100) ∧ D' 58 (3 * p + 1) = nn (sh p / 10 % 10) ∧ D' 58 (3 * p + 2) = nn (sh p % 10))) : z_P (F_X11_meanShade N D') (fun a => a = if cntS u pe < 2 then -nn 1 else nn (mn u sh pe)) := by
  unfold F_X11_meanShade
  refine z_P_loop (fun k s => ∃ p, p + k = pe ∧ s.1 = nn (cntS u p) ∧ s.2 = nn p) ?_ pe N _ (by omega) ⟨0, by omega, rfl, rfl⟩
  rintro k ⟨v, w⟩ kc ⟨p, hk, rfl, rfl⟩ ih
  dsimp only
  have hcp := cntS_le u p
  by_cases hp : p < pe
  · have hup := hu p hp
    by_cases hs : D' 58 (24 + p) = nn 0
    · simp (disch := omega) only [F_X11_meanShade_L4, h20, hs, z_let, nn_lit, nn_add, nn_mul, nn_sub, nn_addM, nn_div, nn_rem, nn_min, nn_max, nn_abs, nn_lt, nn_le, nn_eq, nn_eqM, nn_Meq, nn_ltM, nn_Mlt, nn_leM, nn_Mle, z_ix_nn, z_inb_nn, F_at_nn, F_put_nn, Nat.zero_add, Nat.add_zero, z_P_some, z_R_some, z_P_bd, if_true, if_false, if_pos, if_neg]
      exact ih (k - 1) _ (by omega) ⟨p + 1, by omega, by rw [cntS_t (by simp [hup, hs])], rfl⟩
    · simp (disch := omega) only [F_X11_meanShade_L4, h20, hs, z_let, nn_lit, nn_add, nn_mul, nn_sub, nn_addM, nn_div, nn_rem, nn_min, nn_max, nn_abs, nn_lt, nn_le, nn_eq, nn_eqM, nn_Meq, nn_ltM, nn_Mlt, nn_leM, nn_Mle, z_ix_nn, z_inb_nn, F_at_nn, F_put_nn, Nat.zero_add, Nat.add_zero, z_P_some, z_R_some, z_P_bd, if_true, if_false, if_pos, if_neg]
      exact ih (k - 1) _ (by omega) ⟨p + 1, by omega, by rw [cntS_f (by simp [hup, hs])], rfl⟩
  have hpp : p = pe := by omega
  subst hpp
  clear ih
  by_cases hc : cntS u p < 2
  · simp (disch := omega) only [F_X11_meanShade_L4, h20, hc, z_let, nn_lit, nn_add, nn_mul, nn_sub, nn_addM, nn_div, nn_rem, nn_min, nn_max, nn_abs, nn_lt, nn_le, nn_eq, nn_eqM, nn_Meq, nn_ltM, nn_Mlt, nn_leM, nn_Mle, z_ix_nn, z_inb_nn, F_at_nn, F_put_nn, Nat.zero_add, Nat.add_zero, z_P_some, z_R_some, z_P_bd, if_true, if_false, if_pos, if_neg]
  simp (disch := omega) only [F_X11_meanShade_L4, h20, hc, z_let, nn_lit, nn_add, nn_mul, nn_sub, nn_addM, nn_div, nn_rem, nn_min, nn_max, nn_abs, nn_lt, nn_le, nn_eq, nn_eqM, nn_Meq, nn_ltM, nn_Mlt, nn_leM, nn_Mle, z_ix_nn, z_inb_nn, F_at_nn, F_put_nn, Nat.zero_add, Nat.add_zero, z_P_some, z_R_some, z_P_bd, if_true, if_false, if_pos, if_neg]
  unfold F_X11_meanShade_J49xxx
  refine z_P_loop (fun k s => ∃ q, q + k = p ∧ s.1 = nn (sumS u (fun p => sh p / 100) q) ∧ s.2 = nn q) ?_ p N _ (by omega) ⟨0, by omega, rfl, rfl⟩
  rintro k ⟨v, w⟩ kc ⟨q, hk, rfl, rfl⟩ ih
  dsimp only
  have hs0 := sumS_le (u := u) (w := fun p => sh p / 100) (c := 9) (n := p) (fun p hp => by have := (hsh p hp).1; show sh p / 100 ≤ 9; omega) q (by omega)
  have hc0 := cntS_le u q
  by_cases hp : q < p
  · obtain ⟨h1, h2, h3, h4⟩ := hsh q hp
    have hup := hu q hp
    by_cases hs : D' 58 (24 + q) = nn 0
    · simp (disch := omega) only [F_X11_meanShade_L60xx, h20, hs, h2, z_let, nn_lit, nn_add, nn_mul, nn_sub, nn_addM, nn_div, nn_rem, nn_min, nn_max, nn_abs, nn_lt, nn_le, nn_eq, nn_eqM, nn_Meq, nn_ltM, nn_Mlt, nn_leM, nn_Mle, z_ix_nn, z_inb_nn, F_at_nn, F_put_nn, Nat.zero_add, Nat.add_zero, z_P_some, z_R_some, z_P_bd, if_true, if_false, if_pos, if_neg]
      exact ih (k - 1) _ (by omega) ⟨q + 1, by omega, by rw [sumS_t (by simp [hup, hs])], rfl⟩
    · simp (disch := omega) only [F_X11_meanShade_L60xx, h20, hs, z_let, nn_lit, nn_add, nn_mul, nn_sub, nn_addM, nn_div, nn_rem, nn_min, nn_max, nn_abs, nn_lt, nn_le, nn_eq, nn_eqM, nn_Meq, nn_ltM, nn_Mlt, nn_leM, nn_Mle, z_ix_nn, z_inb_nn, F_at_nn, F_put_nn, Nat.zero_add, Nat.add_zero, z_P_some, z_R_some, z_P_bd, if_true, if_false, if_pos, if_neg]
      exact ih (k - 1) _ (by omega) ⟨q + 1, by omega, by rw [sumS_f (by simp [hup, hs])], rfl⟩
  have hpp : q = p := by omega
  subst hpp
  clear ih
  have hm0 := div_le9 hs0 (by omega)
  simp (disch := omega) only [F_X11_meanShade_L60xx, h20, z_let, nn_lit, nn_add, nn_mul, nn_sub, nn_addM, nn_div, nn_rem, nn_min, nn_max, nn_abs, nn_lt, nn_le, nn_eq, nn_eqM, nn_Meq, nn_ltM, nn_Mlt, nn_leM, nn_Mle, z_ix_nn, z_inb_nn, F_at_nn, F_put_nn, Nat.zero_add, Nat.add_zero, z_P_some, z_R_some, z_P_bd, if_true, if_false, if_pos, if_neg]
  unfold F_X11_meanShade_J49xx
  refine z_P_loop (fun k s => ∃ r, r + k = q ∧ s.1 = nn (sumS u (fun p => sh p / 10 % 10) r) ∧ s.2 = nn r) ?_ q N _ (by omega) ⟨0, by omega, rfl, rfl⟩
  rintro k ⟨v, w⟩ kc ⟨r, hk, rfl, rfl⟩ ih
  dsimp only
  have hs1 := sumS_le (u := u) (w := fun p => sh p / 10 % 10) (c := 9) (n := q) (fun p hp => by show sh p / 10 % 10 ≤ 9; omega) r (by omega)
  have hc1 := cntS_le u r
  by_cases hp : r < q
  · obtain ⟨h1, h2, h3, h4⟩ := hsh r hp
    have hup := hu r hp
    by_cases hs : D' 58 (24 + r) = nn 0
    · simp (disch := omega) only [F_X11_meanShade_L60x, h20, hs, h3, z_let, nn_lit, nn_add, nn_mul, nn_sub, nn_addM, nn_div, nn_rem, nn_min, nn_max, nn_abs, nn_lt, nn_le, nn_eq, nn_eqM, nn_Meq, nn_ltM, nn_Mlt, nn_leM, nn_Mle, z_ix_nn, z_inb_nn, F_at_nn, F_put_nn, Nat.zero_add, Nat.add_zero, z_P_some, z_R_some, z_P_bd, if_true, if_false, if_pos, if_neg]
      exact ih (k - 1) _ (by omega) ⟨r + 1, by omega, by rw [sumS_t (by simp [hup, hs])], rfl⟩
    · simp (disch := omega) only [F_X11_meanShade_L60x, h20, hs, z_let, nn_lit, nn_add, nn_mul, nn_sub, nn_addM, nn_div, nn_rem, nn_min, nn_max, nn_abs, nn_lt, nn_le, nn_eq, nn_eqM, nn_Meq, nn_ltM, nn_Mlt, nn_leM, nn_Mle, z_ix_nn, z_inb_nn, F_at_nn, F_put_nn, Nat.zero_add, Nat.add_zero, z_P_some, z_R_some, z_P_bd, if_true, if_false, if_pos, if_neg]
      exact ih (k - 1) _ (by omega) ⟨r + 1, by omega, by rw [sumS_f (by simp [hup, hs])], rfl⟩
  have hpp : r = q := by omega
  subst hpp
  clear ih
  have hm1 := div_le9 hs1 (by omega)
  simp (disch := omega) only [F_X11_meanShade_L60x, h20, z_let, nn_lit, nn_add, nn_mul, nn_sub, nn_addM, nn_div, nn_rem, nn_min, nn_max, nn_abs, nn_lt, nn_le, nn_eq, nn_eqM, nn_Meq, nn_ltM, nn_Mlt, nn_leM, nn_Mle, z_ix_nn, z_inb_nn, F_at_nn, F_put_nn, Nat.zero_add, Nat.add_zero, z_P_some, z_R_some, z_P_bd, if_true, if_false, if_pos, if_neg]
  unfold F_X11_meanShade_J49x
  refine z_P_loop (fun k s => ∃ j, j + k = r ∧ s.1 = nn (sumS u (fun p => sh p % 10) j) ∧ s.2 = nn j) ?_ r N _ (by omega) ⟨0, by omega, rfl, rfl⟩
  rintro k ⟨v, w⟩ kc ⟨j, hk, rfl, rfl⟩ ih
  dsimp only
  have hs2 := sumS_le (u := u) (w := fun p => sh p % 10) (c := 9) (n := r) (fun p hp => by show sh p % 10 ≤ 9; omega) j (by omega)
  have hc2 := cntS_le u j
  by_cases hp : j < r
  · obtain ⟨h1, h2, h3, h4⟩ := hsh j hp
    have hup := hu j hp
    by_cases hs : D' 58 (24 + j) = nn 0
    · simp (disch := omega) only [F_X11_meanShade_L60, h20, hs, h4, z_let, nn_lit, nn_add, nn_mul, nn_sub, nn_addM, nn_div, nn_rem, nn_min, nn_max, nn_abs, nn_lt, nn_le, nn_eq, nn_eqM, nn_Meq, nn_ltM, nn_Mlt, nn_leM, nn_Mle, z_ix_nn, z_inb_nn, F_at_nn, F_put_nn, Nat.zero_add, Nat.add_zero, z_P_some, z_R_some, z_P_bd, if_true, if_false, if_pos, if_neg]
      exact ih (k - 1) _ (by omega) ⟨j + 1, by omega, by rw [sumS_t (by simp [hup, hs])], rfl⟩
    · simp (disch := omega) only [F_X11_meanShade_L60, h20, hs, z_let, nn_lit, nn_add, nn_mul, nn_sub, nn_addM, nn_div, nn_rem, nn_min, nn_max, nn_abs, nn_lt, nn_le, nn_eq, nn_eqM, nn_Meq, nn_ltM, nn_Mlt, nn_leM, nn_Mle, z_ix_nn, z_inb_nn, F_at_nn, F_put_nn, Nat.zero_add, Nat.add_zero, z_P_some, z_R_some, z_P_bd, if_true, if_false, if_pos, if_neg]
      exact ih (k - 1) _ (by omega) ⟨j + 1, by omega, by rw [sumS_f (by simp [hup, hs])], rfl⟩
  have hpp : j = r := by omega
  subst hpp
  have hm2 := div_le9 hs2 (by omega)
  simp (disch := omega) only [F_X11_meanShade_L60, h20, F_X11_meanShade_J49, z_let, nn_lit, nn_add, nn_mul, nn_sub, nn_addM, nn_div, nn_rem, nn_min, nn_max, nn_abs, nn_lt, nn_le, nn_eq, nn_eqM, nn_Meq, nn_ltM, nn_Mlt, nn_leM, nn_Mle, z_ix_nn, z_inb_nn, F_at_nn, F_put_nn, Nat.zero_add, Nat.add_zero, z_P_some, z_R_some, z_P_bd, if_true, if_false, if_pos, if_neg]
  congr 1
  unfold mn
  omega
