/-! ===== a town on both sides ===== -/
def TR (pe Y : Nat) (f g : Nat → Int32) : Prop :=
  (∀ p, p < pe → ∃ n, n < 1000 ∧ f (p * 5) = nn n ∧ (g (3 * p) = nn (n / 100) ∧ g (3 * p + 1) = nn (n / 10 % 10) ∧ g (3 * p + 2) = nn (n % 10)) ∧ f (p * 5 + 1) = g (48 + p) ∧ f (p * 5 + 2) = g (24 + p) ∧ f (p * 5 + 3) = g (32 + p) ∧ f (p * 5 + 4) = g (40 + p)) ∧
  (∀ d, d < 3 → ∃ s, s ≤ 200 ∧ f (40 + d) = nn s ∧ g (56 + d) = nn s) ∧ ∃ y, y ≤ Y ∧ f 43 = nn y ∧ g 59 = nn y
theorem TR_person {pe Y p : Nat} {f g f' g' : Nat → Int32} (hT : TR pe Y f g) (hpe : pe ≤ 8) (hp : p < pe) (hf : ∀ j, (j < p * 5 ∨ p * 5 + 5 ≤ j) → f' j = f j) (hg : ∀ j, j ≠ 3 * p → j ≠ 3 * p + 1 → j ≠ 3 * p + 2 → j ≠ 24 + p → j ≠ 32 + p → j ≠ 40 + p → j ≠ 48 + p → g' j = g j)
    (hP : ∃ n, n < 1000 ∧ f' (p * 5) = nn n ∧ (g' (3 * p) = nn (n / 100) ∧ g' (3 * p + 1) = nn (n / 10 % 10) ∧ g' (3 * p + 2) = nn (n % 10)) ∧ f' (p * 5 + 1) = g' (48 + p) ∧ f' (p * 5 + 2) = g' (24 + p) ∧ f' (p * 5 + 3) = g' (32 + p) ∧ f' (p * 5 + 4) = g' (40 + p)) : TR pe Y f' g' := by
  refine ⟨fun q hq => ?_, fun d hd => ?_, ?_⟩
  · by_cases h : q = p
    · subst h
      exact hP
    · obtain ⟨n, hn, q0, ⟨q1, q2, q3⟩, q4, q5, q6, q7⟩ := hT.1 q hq
      refine ⟨n, hn, ?_, ⟨?_, ?_, ?_⟩, ?_, ?_, ?_, ?_⟩
      · rw [hf _ (by omega)]; exact q0
      · rw [hg _ (by omega) (by omega) (by omega) (by omega) (by omega) (by omega) (by omega)]; exact q1
      · rw [hg _ (by omega) (by omega) (by omega) (by omega) (by omega) (by omega) (by omega)]; exact q2
      · rw [hg _ (by omega) (by omega) (by omega) (by omega) (by omega) (by omega) (by omega)]; exact q3
      · rw [hf _ (by omega), hg _ (by omega) (by omega) (by omega) (by omega) (by omega) (by omega) (by omega)]; exact q4
      · rw [hf _ (by omega), hg _ (by omega) (by omega) (by omega) (by omega) (by omega) (by omega) (by omega)]; exact q5
      · rw [hf _ (by omega), hg _ (by omega) (by omega) (by omega) (by omega) (by omega) (by omega) (by omega)]; exact q6
      · rw [hf _ (by omega), hg _ (by omega) (by omega) (by omega) (by omega) (by omega) (by omega) (by omega)]; exact q7
  · obtain ⟨s, hs, q0, q1⟩ := hT.2.1 d hd
    refine ⟨s, hs, ?_, ?_⟩
    · rw [hf _ (by omega)]; exact q0
    · rw [hg _ (by omega) (by omega) (by omega) (by omega) (by omega) (by omega) (by omega)]; exact q1
  · obtain ⟨y, hy, q0, q1⟩ := hT.2.2
    refine ⟨y, hy, ?_, ?_⟩
    · rw [hf _ (by omega)]; exact q0
    · rw [hg _ (by omega) (by omega) (by omega) (by omega) (by omega) (by omega) (by omega)]; exact q1
/-- only the row a is other -/
def Fr (a : Nat) (D D1 : z_Dat) : Prop := ∀ r, r ≠ a → D1 r = D r
theorem Fr.rf {a : Nat} {D : z_Dat} : Fr a D D := fun _ _ => rfl
theorem Fr.up {a i : Nat} {x : Int32} {D D1 : z_Dat} (h : Fr a D D1) : Fr a D (z_up D1 a i x) := fun r hr => by
  rw [z_up_ne hr]
  exact h r hr
theorem Fr.tr {a : Nat} {D D1 D2 : z_Dat} (h : Fr a D D1) (h2 : Fr a D1 D2) : Fr a D D2 := fun r hr => (h2 r hr).trans (h r hr)
theorem TR_le {pe Y Y' : Nat} {f g : Nat → Int32} (h : TR pe Y f g) (hY : Y ≤ Y') : TR pe Y' f g := ⟨h.1, h.2.1, by
  obtain ⟨y, h1, h2⟩ := h.2.2
  exact ⟨y, by omega, h2⟩⟩
theorem pl_d0 {n : Nat} (h : n < 1000) : pl n 0 / 100 = n / 100 - 1 ∧ pl n 0 / 10 % 10 = n / 10 % 10 ∧ pl n 0 % 10 = n % 10 := by
  simp (disch := omega) only [pl, if_true, if_pos, if_neg]
  split <;> omega
theorem pl_d1 {n : Nat} (h : n < 1000) : pl n 1 / 100 = n / 100 ∧ pl n 1 / 10 % 10 = n / 10 % 10 - 1 ∧ pl n 1 % 10 = n % 10 := by
  simp (disch := omega) only [pl, if_true, if_pos, if_neg]
  split <;> omega
theorem pl_d2 {n : Nat} (h : n < 1000) : pl n 2 / 100 = n / 100 ∧ pl n 2 / 10 % 10 = n / 10 % 10 ∧ pl n 2 % 10 = n % 10 - 1 := by
  simp (disch := omega) only [pl, if_true, if_pos, if_neg]
  split <;> omega
theorem TR_rest {pe Y Y' : Nat} {f g f' g' : Nat → Int32} (hT : TR pe Y f g) (hpe : pe ≤ 8) (hf : ∀ j, j < 40 → f' j = f j) (hg : ∀ j, j < 56 → g' j = g j) (hs : ∀ d, d < 3 → ∃ s, s ≤ 200 ∧ f' (40 + d) = nn s ∧ g' (56 + d) = nn s) (hy : ∃ y, y ≤ Y' ∧ f' 43 = nn y ∧ g' 59 = nn y) : TR pe Y' f' g' := by
  refine ⟨fun q hq => ?_, hs, hy⟩
  obtain ⟨n, hn, q0, ⟨q1, q2, q3⟩, q4, q5, q6, q7⟩ := hT.1 q hq
  exact ⟨n, hn, by rw [hf _ (by omega)]; exact q0, ⟨by rw [hg _ (by omega)]; exact q1, by rw [hg _ (by omega)]; exact q2, by rw [hg _ (by omega)]; exact q3⟩, by rw [hf _ (by omega), hg _ (by omega)]; exact q4, by rw [hf _ (by omega), hg _ (by omega)]; exact q5, by rw [hf _ (by omega), hg _ (by omega)]; exact q6, by rw [hf _ (by omega), hg _ (by omega)]; exact q7⟩
set_option maxHeartbeats 4000000 in
theorem passes_R {N t pe rv Y : Nat} {D D' : z_Dat} (hN : 100 < N) (hpe : pe ≤ 8) (hrv : rv ≤ 20) (hY : Y < 1000000) (hT : TR pe Y (D (t + 1)) (D' 58)) (h20 : D' 40 20 = nn pe) (h21 : D' 40 21 = nn rv) :
    z_R (F_X9_passYear N t (nn pe) (nn rv) D) (F_X11_passes N D') (fun D1 D2 => TR pe (Y + 1) (D1 (t + 1)) (D2 58) ∧ Fr (t + 1) D D1 ∧ Fr 58 D' D2) := by
  obtain ⟨y, hy, y1, y2⟩ := hT.2.2
  unfold F_X9_passYear F_X11_passes
  simp (disch := omega) only [F_X9_year, y1, y2, z_let, nn_lit, nn_add, nn_mul, nn_sub, nn_addM, nn_div, nn_rem, nn_min, nn_max, nn_abs, nn_lt, nn_le, nn_eq, nn_eqM, nn_Meq, nn_ltM, nn_Mlt, nn_leM, nn_Mle, z_ix_nn, z_inb_nn, F_at_nn, F_put_nn, Nat.zero_add, Nat.add_zero, z_P_some, z_R_some, z_P_bd, if_true, if_false, if_pos, if_neg]
  have hd : y % 3 < 3 := Nat.mod_lt _ (by decide)
  generalize y % 3 = d at hd
  refine z_R_loop (fun k s s' => ∃ p, p + k = pe ∧ s.1 = nn p ∧ s'.1 = nn p ∧ TR pe Y (s.2 (t + 1)) (s'.2 58) ∧ Fr (t + 1) D s.2 ∧ Fr 58 D' s'.2) ?_ pe N N _ _ (by omega) (by omega) ⟨0, by omega, rfl, rfl, hT, Fr.rf, Fr.rf⟩
  rintro k ⟨v, E⟩ ⟨v', E'⟩ kc kc' ⟨p, hk, rfl, rfl, hT, hF, hF'⟩ ih
  dsimp only at hT hF hF' ⊢
  have e20 : E' 40 20 = nn pe := by rw [hF' 40 (by decide)]; exact h20
  have e21 : E' 40 21 = nn rv := by rw [hF' 40 (by decide)]; exact h21
  by_cases hlt : p < pe
  · obtain ⟨n, hn, q0, ⟨q1, q2, q3⟩, q4, q5, q6, q7⟩ := hT.1 p hlt
    have hd3 : d = 0 ∨ d = 1 ∨ d = 2 := by omega
    by_cases hs : E' 58 (24 + p) = nn 0
    · rcases hd3 with rfl | rfl | rfl
      · by_cases h0 : n / 100 ≤ 0
        · simp (disch := omega) only [F_X9_passYear_L10, F_X11_passes_L12, F_X9_has, F_X9_set, F_X9_passYear_J44, F_X11_passes_J59, q0, q1, q2, q3, q4, q5, q6, q7, hs, paler_0, e20, z_up_at, z_up_i, z_let, nn_lit, nn_add, nn_mul, nn_sub, nn_addM, nn_div, nn_rem, nn_min, nn_max, nn_abs, nn_lt, nn_le, nn_eq, nn_eqM, nn_Meq, nn_ltM, nn_Mlt, nn_leM, nn_Mle, z_ix_nn, z_inb_nn, F_at_nn, F_put_nn, Nat.zero_add, Nat.add_zero, z_P_some, z_R_some, z_P_bd, if_true, if_false, if_pos, if_neg]
          refine ih (k - 1) _ _ (by omega) ⟨p + 1, by omega, rfl, rfl, TR_person hT hpe hlt (fun j hj => by simp (disch := omega) only [z_up_i]) (fun j h1 h2 h3 h4 h5 h6 h7 => by simp (disch := omega) only [z_up_i]) ⟨pl n 0, pl_lt hn, ?_, ⟨?_, ?_, ?_⟩, ?_, ?_, ?_, ?_⟩, by repeat (first | exact hF | refine Fr.up ?_), by repeat (first | exact hF' | refine Fr.up ?_)⟩ <;> simp (disch := omega) only [z_up_at, z_up_i, q0, q1, q2, q3, q4, q5, q6, q7, (pl_d0 hn).1, (pl_d0 hn).2.1, (pl_d0 hn).2.2] <;> (congr 1; omega)
        · simp (disch := omega) only [F_X9_passYear_L10, F_X11_passes_L12, F_X9_has, F_X9_set, F_X9_passYear_J44, F_X11_passes_J59, q0, q1, q2, q3, q4, q5, q6, q7, hs, paler_0, e20, z_up_at, z_up_i, z_let, nn_lit, nn_add, nn_mul, nn_sub, nn_addM, nn_div, nn_rem, nn_min, nn_max, nn_abs, nn_lt, nn_le, nn_eq, nn_eqM, nn_Meq, nn_ltM, nn_Mlt, nn_leM, nn_Mle, z_ix_nn, z_inb_nn, F_at_nn, F_put_nn, Nat.zero_add, Nat.add_zero, z_P_some, z_R_some, z_P_bd, if_true, if_false, if_pos, if_neg]
          refine ih (k - 1) _ _ (by omega) ⟨p + 1, by omega, rfl, rfl, TR_person hT hpe hlt (fun j hj => by simp (disch := omega) only [z_up_i]) (fun j h1 h2 h3 h4 h5 h6 h7 => by simp (disch := omega) only [z_up_i]) ⟨pl n 0, pl_lt hn, ?_, ⟨?_, ?_, ?_⟩, ?_, ?_, ?_, ?_⟩, by repeat (first | exact hF | refine Fr.up ?_), by repeat (first | exact hF' | refine Fr.up ?_)⟩ <;> simp (disch := omega) only [z_up_at, z_up_i, q0, q1, q2, q3, q4, q5, q6, q7, (pl_d0 hn).1, (pl_d0 hn).2.1, (pl_d0 hn).2.2] <;> (congr 1; omega)
      · by_cases h0 : n / 10 % 10 ≤ 0
        · simp (disch := omega) only [F_X9_passYear_L10, F_X11_passes_L12, F_X9_has, F_X9_set, F_X9_passYear_J44, F_X11_passes_J59, q0, q1, q2, q3, q4, q5, q6, q7, hs, paler_1, e20, z_up_at, z_up_i, z_let, nn_lit, nn_add, nn_mul, nn_sub, nn_addM, nn_div, nn_rem, nn_min, nn_max, nn_abs, nn_lt, nn_le, nn_eq, nn_eqM, nn_Meq, nn_ltM, nn_Mlt, nn_leM, nn_Mle, z_ix_nn, z_inb_nn, F_at_nn, F_put_nn, Nat.zero_add, Nat.add_zero, z_P_some, z_R_some, z_P_bd, if_true, if_false, if_pos, if_neg]
          refine ih (k - 1) _ _ (by omega) ⟨p + 1, by omega, rfl, rfl, TR_person hT hpe hlt (fun j hj => by simp (disch := omega) only [z_up_i]) (fun j h1 h2 h3 h4 h5 h6 h7 => by simp (disch := omega) only [z_up_i]) ⟨pl n 1, pl_lt hn, ?_, ⟨?_, ?_, ?_⟩, ?_, ?_, ?_, ?_⟩, by repeat (first | exact hF | refine Fr.up ?_), by repeat (first | exact hF' | refine Fr.up ?_)⟩ <;> simp (disch := omega) only [z_up_at, z_up_i, q0, q1, q2, q3, q4, q5, q6, q7, (pl_d1 hn).1, (pl_d1 hn).2.1, (pl_d1 hn).2.2] <;> (congr 1; omega)
        · simp (disch := omega) only [F_X9_passYear_L10, F_X11_passes_L12, F_X9_has, F_X9_set, F_X9_passYear_J44, F_X11_passes_J59, q0, q1, q2, q3, q4, q5, q6, q7, hs, paler_1, e20, z_up_at, z_up_i, z_let, nn_lit, nn_add, nn_mul, nn_sub, nn_addM, nn_div, nn_rem, nn_min, nn_max, nn_abs, nn_lt, nn_le, nn_eq, nn_eqM, nn_Meq, nn_ltM, nn_Mlt, nn_leM, nn_Mle, z_ix_nn, z_inb_nn, F_at_nn, F_put_nn, Nat.zero_add, Nat.add_zero, z_P_some, z_R_some, z_P_bd, if_true, if_false, if_pos, if_neg]
          refine ih (k - 1) _ _ (by omega) ⟨p + 1, by omega, rfl, rfl, TR_person hT hpe hlt (fun j hj => by simp (disch := omega) only [z_up_i]) (fun j h1 h2 h3 h4 h5 h6 h7 => by simp (disch := omega) only [z_up_i]) ⟨pl n 1, pl_lt hn, ?_, ⟨?_, ?_, ?_⟩, ?_, ?_, ?_, ?_⟩, by repeat (first | exact hF | refine Fr.up ?_), by repeat (first | exact hF' | refine Fr.up ?_)⟩ <;> simp (disch := omega) only [z_up_at, z_up_i, q0, q1, q2, q3, q4, q5, q6, q7, (pl_d1 hn).1, (pl_d1 hn).2.1, (pl_d1 hn).2.2] <;> (congr 1; omega)
      · by_cases h0 : n % 10 ≤ 0
        · simp (disch := omega) only [F_X9_passYear_L10, F_X11_passes_L12, F_X9_has, F_X9_set, F_X9_passYear_J44, F_X11_passes_J59, q0, q1, q2, q3, q4, q5, q6, q7, hs, paler_2, e20, z_up_at, z_up_i, z_let, nn_lit, nn_add, nn_mul, nn_sub, nn_addM, nn_div, nn_rem, nn_min, nn_max, nn_abs, nn_lt, nn_le, nn_eq, nn_eqM, nn_Meq, nn_ltM, nn_Mlt, nn_leM, nn_Mle, z_ix_nn, z_inb_nn, F_at_nn, F_put_nn, Nat.zero_add, Nat.add_zero, z_P_some, z_R_some, z_P_bd, if_true, if_false, if_pos, if_neg]
          refine ih (k - 1) _ _ (by omega) ⟨p + 1, by omega, rfl, rfl, TR_person hT hpe hlt (fun j hj => by simp (disch := omega) only [z_up_i]) (fun j h1 h2 h3 h4 h5 h6 h7 => by simp (disch := omega) only [z_up_i]) ⟨pl n 2, pl_lt hn, ?_, ⟨?_, ?_, ?_⟩, ?_, ?_, ?_, ?_⟩, by repeat (first | exact hF | refine Fr.up ?_), by repeat (first | exact hF' | refine Fr.up ?_)⟩ <;> simp (disch := omega) only [z_up_at, z_up_i, q0, q1, q2, q3, q4, q5, q6, q7, (pl_d2 hn).1, (pl_d2 hn).2.1, (pl_d2 hn).2.2] <;> (congr 1; omega)
        · simp (disch := omega) only [F_X9_passYear_L10, F_X11_passes_L12, F_X9_has, F_X9_set, F_X9_passYear_J44, F_X11_passes_J59, q0, q1, q2, q3, q4, q5, q6, q7, hs, paler_2, e20, z_up_at, z_up_i, z_let, nn_lit, nn_add, nn_mul, nn_sub, nn_addM, nn_div, nn_rem, nn_min, nn_max, nn_abs, nn_lt, nn_le, nn_eq, nn_eqM, nn_Meq, nn_ltM, nn_Mlt, nn_leM, nn_Mle, z_ix_nn, z_inb_nn, F_at_nn, F_put_nn, Nat.zero_add, Nat.add_zero, z_P_some, z_R_some, z_P_bd, if_true, if_false, if_pos, if_neg]
          refine ih (k - 1) _ _ (by omega) ⟨p + 1, by omega, rfl, rfl, TR_person hT hpe hlt (fun j hj => by simp (disch := omega) only [z_up_i]) (fun j h1 h2 h3 h4 h5 h6 h7 => by simp (disch := omega) only [z_up_i]) ⟨pl n 2, pl_lt hn, ?_, ⟨?_, ?_, ?_⟩, ?_, ?_, ?_, ?_⟩, by repeat (first | exact hF | refine Fr.up ?_), by repeat (first | exact hF' | refine Fr.up ?_)⟩ <;> simp (disch := omega) only [z_up_at, z_up_i, q0, q1, q2, q3, q4, q5, q6, q7, (pl_d2 hn).1, (pl_d2 hn).2.1, (pl_d2 hn).2.2] <;> (congr 1; omega)
    · simp (disch := omega) only [F_X9_passYear_L10, F_X11_passes_L12, F_X9_has, F_X9_set, F_X9_passYear_J44, F_X11_passes_J59, q0, q1, q2, q3, q4, q5, q6, q7, hs, e20, z_up_at, z_up_i, z_let, nn_lit, nn_add, nn_mul, nn_sub, nn_addM, nn_div, nn_rem, nn_min, nn_max, nn_abs, nn_lt, nn_le, nn_eq, nn_eqM, nn_Meq, nn_ltM, nn_Mlt, nn_leM, nn_Mle, z_ix_nn, z_inb_nn, F_at_nn, F_put_nn, Nat.zero_add, Nat.add_zero, z_P_some, z_R_some, z_P_bd, if_true, if_false, if_pos, if_neg]
      refine ih (k - 1) _ _ (by omega) ⟨p + 1, by omega, rfl, rfl, TR_person hT hpe hlt (fun j hj => by simp (disch := omega) only [z_up_i]) (fun j h1 h2 h3 h4 h5 h6 h7 => by simp (disch := omega) only [z_up_i]) ⟨n, hn, ?_, ⟨?_, ?_, ?_⟩, ?_, ?_, ?_, ?_⟩, by repeat (first | exact hF | refine Fr.up ?_), by repeat (first | exact hF' | refine Fr.up ?_)⟩ <;> simp (disch := omega) only [z_up_at, z_up_i, q0, q1, q2, q3, q4, q5, q6, q7]
  · obtain ⟨s0, a0, b0, c0⟩ := hT.2.1 0 (by decide)
    obtain ⟨s1, a1, b1, c1⟩ := hT.2.1 1 (by decide)
    obtain ⟨s2, a2, b2, c2⟩ := hT.2.1 2 (by decide)
    obtain ⟨y, hy, y1, y2⟩ := hT.2.2
    simp only [Nat.add_zero] at b0 c0
    have b1' : E (t + 1) 41 = nn s1 := b1
    have b2' : E (t + 1) 42 = nn s2 := b2
    have c1' : E' 58 57 = nn s1 := c1
    have c2' : E' 58 58 = nn s2 := c2
    have hpp : p = pe := by omega
    subst hpp
    by_cases d0 : s0 + rv ≤ 200 <;> by_cases d1 : s1 + rv ≤ 200 <;> by_cases d2 : s2 + rv ≤ 200 <;> (
      simp (disch := omega) only [F_X9_passYear_L10, F_X11_passes_L12, F_X9_passYear_J77, F_X9_passYear_J77x, F_X9_passYear_J77xx, F_X9_passYear_J77xxx, F_X11_passes_J90, F_X11_passes_J90x, F_X11_passes_J90xx, F_X11_passes_J90xxx, F_X11_passes_J143, F_X11_passes_J143x, F_X11_passes_J143xx, F_X11_passes_J143xxx, F_X11_passes_J143xxxx, F_X11_passes_J143xxxxx, F_X9_stored, F_X9_year, a0, b0, c0, b1', c1', b2', c2', y1, y2, e20, e21, z_up_at, z_up_i, z_up_r, z_let, nn_lit, nn_add, nn_mul, nn_sub, nn_addM, nn_div, nn_rem, nn_min, nn_max, nn_abs, nn_lt, nn_le, nn_eq, nn_eqM, nn_Meq, nn_ltM, nn_Mlt, nn_leM, nn_Mle, z_ix_nn, z_inb_nn, F_at_nn, F_put_nn, Nat.zero_add, Nat.add_zero, z_P_some, z_R_some, z_P_bd, if_true, if_false, if_pos, if_neg]
      refine ⟨TR_rest hT hpe (fun j hj => by simp (disch := omega) only [z_up_i]) (fun j hj => by simp (disch := omega) only [z_up_i]) (fun d hd => ?_) ⟨y + 1, by omega, by simp (disch := omega) only [z_up_at, z_up_i], by simp (disch := omega) only [z_up_at, z_up_i]⟩, by repeat (first | exact hF | refine Fr.up ?_), by repeat (first | exact hF' | refine Fr.up ?_)⟩
      have hd3 : d = 0 ∨ d = 1 ∨ d = 2 := by omega
      rcases hd3 with rfl | rfl | rfl
      · exact ⟨min 200 (s0 + rv), by omega, by simp (disch := omega) only [z_up_at, z_up_i, Nat.add_zero], by simp (disch := omega) only [z_up_at, z_up_i, Nat.add_zero] <;> congr 1 <;> omega⟩
      · exact ⟨min 200 (s1 + rv), by omega, by simp (disch := omega) only [z_up_at, z_up_i, Nat.add_zero], by simp (disch := omega) only [z_up_at, z_up_i, Nat.add_zero] <;> congr 1 <;> omega⟩
      · exact ⟨min 200 (s2 + rv), by omega, by simp (disch := omega) only [z_up_at, z_up_i, Nat.add_zero], by simp (disch := omega) only [z_up_at, z_up_i, Nat.add_zero] <;> congr 1 <;> omega⟩)
