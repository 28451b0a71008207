/-! ===== a washing, salt, a marriage, on both sides ===== -/
def ws (n : Nat) : Nat := pl (pl (pl n 0) 1) 2
theorem ws_lt {n : Nat} (h : n < 1000) : ws n < 1000 := pl_lt (pl_lt (pl_lt h))
theorem ws_d {n : Nat} (h : n < 1000) : ws n / 100 = n / 100 - 1 ∧ ws n / 10 % 10 = n / 10 % 10 - 1 ∧ ws n % 10 = n % 10 - 1 := by
  have h0 := pl_d0 h
  have h1 := pl_d1 (pl_lt (d := 0) h)
  have h2 := pl_d2 (pl_lt (d := 1) (pl_lt (d := 0) h))
  unfold ws
  omega
theorem wash_e {t p n : Nat} {D : z_Dat} (hp : p < 8) (hn : n < 1000) (q0 : D (t + 1) (p * 5) = nn n) : F_X9_wash t (nn p) D = if n = 0 then (nn 0, D) else (nn 1, z_up (z_up D (t + 1) (p * 5) (nn (ws n))) (t + 1) (p * 5 + 2) (nn 0)) := by
  by_cases h : n = 0
  · simp (disch := omega) only [F_X9_wash, F_X9_has, q0, h, z_let, nn_lit, nn_add, nn_mul, nn_sub, nn_addM, nn_div, nn_rem, nn_min, nn_max, nn_abs, nn_lt, nn_le, nn_eq, nn_eqM, nn_Meq, nn_ltM, nn_Mlt, nn_leM, nn_Mle, z_ix_nn, z_inb_nn, F_at_nn, F_put_nn, Nat.zero_add, Nat.add_zero, z_P_some, z_R_some, z_P_bd, if_true, if_false, if_pos, if_neg]
  · have h1 : pl n 0 < 1000 := pl_lt hn
    have h2 : pl (pl n 0) 1 < 1000 := pl_lt h1
    simp (disch := omega) only [F_X9_wash, F_X9_wash_J15, F_X9_wash_J15x, F_X9_wash_J15xx, F_X9_wash_J15xxx, F_X9_has, F_X9_set, q0, paler_0, paler_1, paler_2, z_let, nn_lit, nn_add, nn_mul, nn_sub, nn_addM, nn_div, nn_rem, nn_min, nn_max, nn_abs, nn_lt, nn_le, nn_eq, nn_eqM, nn_Meq, nn_ltM, nn_Mlt, nn_leM, nn_Mle, z_ix_nn, z_inb_nn, F_at_nn, F_put_nn, Nat.zero_add, Nat.add_zero, z_P_some, z_R_some, z_P_bd, if_true, if_false, if_pos, if_neg]
    rfl
set_option maxHeartbeats 4000000 in
theorem washes_e {p n : Nat} {D' : z_Dat} (hp : p < 8) (hn : n < 1000) (q1 : D' 58 (3 * p) = nn (n / 100)) (q2 : D' 58 (3 * p + 1) = nn (n / 10 % 10)) (q3 : D' 58 (3 * p + 2) = nn (n % 10)) (hne : n ≠ 0) :
    ∃ D2, F_X11_washes (nn p) D' = some (nn 1, D2) ∧ D2 58 (3 * p) = nn (n / 100 - 1) ∧ D2 58 (3 * p + 1) = nn (n / 10 % 10 - 1) ∧ D2 58 (3 * p + 2) = nn (n % 10 - 1) ∧ D2 58 (24 + p) = nn 0 ∧ (∀ j, j ≠ 3 * p → j ≠ 3 * p + 1 → j ≠ 3 * p + 2 → j ≠ 24 + p → D2 58 j = D' 58 j) ∧ Fr 58 D' D2 := by
  unfold F_X11_washes
  rw [shadeOf_e hp q1 q2 q3]
  by_cases c0 : n / 100 ≤ 0 <;> by_cases c1 : n / 10 % 10 ≤ 0 <;> by_cases c2 : n % 10 ≤ 0 <;> first | (exfalso; omega) | (
    simp (disch := omega) only [z_bd, F_X11_washes_J12, F_X11_washes_J48, F_X11_washes_J12x, F_X11_washes_J48x, F_X11_washes_J12xx, F_X11_washes_J48xx, F_X11_washes_J12xxx, q1, q2, q3, z_up_at, z_up_i, z_let, nn_lit, nn_add, nn_mul, nn_sub, nn_addM, nn_div, nn_rem, nn_min, nn_max, nn_abs, nn_lt, nn_le, nn_eq, nn_eqM, nn_Meq, nn_ltM, nn_Mlt, nn_leM, nn_Mle, z_ix_nn, z_inb_nn, F_at_nn, F_put_nn, Nat.zero_add, Nat.add_zero, z_P_some, z_R_some, z_P_bd, if_true, if_false, if_pos, if_neg]
    refine ⟨_, rfl, ?_, ?_, ?_, ?_, fun j h1 h2 h3 h4 => by simp (disch := omega) only [z_up_i], by repeat (first | exact Fr.rf | refine Fr.up ?_)⟩ <;> simp (disch := omega) only [z_up_at, z_up_i, q1, q2, q3] <;> (congr 1; omega))
theorem wash_R {t pe Y p : Nat} {D D' : z_Dat} (hpe : pe ≤ 8) (hp : p < pe) (hT : TR pe Y (D (t + 1)) (D' 58)) :
    z_R (some (F_X9_wash t (nn p) D)) (F_X11_washes (nn p) D') (QT pe Y t D D') := by
  obtain ⟨n, hn, q0, ⟨q1, q2, q3⟩, q4, q5, q6, q7⟩ := hT.1 p hp
  rw [wash_e (by omega) hn q0]
  by_cases h : n = 0
  · rw [if_pos h]
    unfold F_X11_washes
    rw [shadeOf_e (by omega) q1 q2 q3]
    simp (disch := omega) only [z_bd, h, z_let, nn_lit, nn_add, nn_mul, nn_sub, nn_addM, nn_div, nn_rem, nn_min, nn_max, nn_abs, nn_lt, nn_le, nn_eq, nn_eqM, nn_Meq, nn_ltM, nn_Mlt, nn_leM, nn_Mle, z_ix_nn, z_inb_nn, F_at_nn, F_put_nn, Nat.zero_add, Nat.add_zero, z_P_some, z_R_some, z_P_bd, if_true, if_false, if_pos, if_neg]
    exact ⟨rfl, Or.inl rfl, hT, Fr.rf, Fr.rf⟩
  · obtain ⟨D2, e, g0, g1, g2, g3, g4, g5⟩ := washes_e (by omega) hn q1 q2 q3 h
    rw [if_neg h, e, z_R_some]
    refine ⟨rfl, Or.inr rfl, TR_person hT hpe hp (fun j hj => by simp (disch := omega) only [z_up_i]) (fun j h1 h2 h3 h4 h5 h6 h7 => g4 j h1 h2 h3 h4) ⟨ws n, ws_lt hn, by simp (disch := omega) only [z_up_at, z_up_i], ⟨?_, ?_, ?_⟩, ?_, ?_, ?_, ?_⟩, Fr.rf.up.up, g5⟩
    · rw [(ws_d hn).1]; exact g0
    · rw [(ws_d hn).2.1]; exact g1
    · rw [(ws_d hn).2.2]; exact g2
    · dsimp only; rw [g4 _ (by omega) (by omega) (by omega) (by omega), ← q4]; simp (disch := omega) only [z_up_i]
    · dsimp only; rw [g3]; simp (disch := omega) only [z_up_at]
    · dsimp only; rw [g4 _ (by omega) (by omega) (by omega) (by omega), ← q6]; simp (disch := omega) only [z_up_i]
    · dsimp only; rw [g4 _ (by omega) (by omega) (by omega) (by omega), ← q7]; simp (disch := omega) only [z_up_i]
/-- the model's salting, as it stands in its step -/
def mSalt (p : Nat) (D' : z_Dat) : Option (Int32 × z_Dat) := if D' 58 (24 + p) = nn 1 then some (nn 0, D') else some (nn 1, z_up D' 58 (24 + p) (nn 1))
theorem salt_R {t pe Y p : Nat} {D D' : z_Dat} (hpe : pe ≤ 8) (hp : p < pe) (hT : TR pe Y (D (t + 1)) (D' 58)) :
    z_R (some (F_X9_salt t (nn p) D)) (mSalt p D') (QT pe Y t D D') := by
  obtain ⟨n, hn, q0, ⟨q1, q2, q3⟩, q4, q5, q6, q7⟩ := hT.1 p hp
  unfold mSalt
  by_cases h : D' 58 (24 + p) = nn 1
  · rw [if_pos h]
    simp (disch := omega) only [F_X9_salt, F_X9_has, q5, h, z_let, nn_lit, nn_add, nn_mul, nn_sub, nn_addM, nn_div, nn_rem, nn_min, nn_max, nn_abs, nn_lt, nn_le, nn_eq, nn_eqM, nn_Meq, nn_ltM, nn_Mlt, nn_leM, nn_Mle, z_ix_nn, z_inb_nn, F_at_nn, F_put_nn, Nat.zero_add, Nat.add_zero, z_P_some, z_R_some, z_P_bd, if_true, if_false, if_pos, if_neg]
    exact ⟨rfl, Or.inl rfl, hT, Fr.rf, Fr.rf⟩
  · rw [if_neg h]
    simp (disch := omega) only [F_X9_salt, F_X9_has, F_X9_set, q5, h, z_let, nn_lit, nn_add, nn_mul, nn_sub, nn_addM, nn_div, nn_rem, nn_min, nn_max, nn_abs, nn_lt, nn_le, nn_eq, nn_eqM, nn_Meq, nn_ltM, nn_Mlt, nn_leM, nn_Mle, z_ix_nn, z_inb_nn, F_at_nn, F_put_nn, Nat.zero_add, Nat.add_zero, z_P_some, z_R_some, z_P_bd, if_true, if_false, if_pos, if_neg]
    refine ⟨rfl, Or.inr rfl, TR_person hT hpe hp (fun j hj => by simp (disch := omega) only [z_up_i]) (fun j h1 h2 h3 h4 h5 h6 h7 => by simp (disch := omega) only [z_up_i]) ⟨n, hn, ?_, ⟨?_, ?_, ?_⟩, ?_, ?_, ?_, ?_⟩, Fr.rf.up, Fr.rf.up⟩ <;> simp (disch := omega) only [z_up_at, z_up_i, q0, q1, q2, q3, q4, q5, q6, q7]
set_option maxHeartbeats 4000000 in
theorem marry_R {t pe Y p b : Nat} {D D' : z_Dat} (hpe : pe ≤ 8) (hp : p < pe) (hb : b < pe) (hne : p ≠ b) (hT : TR pe Y (D (t + 1)) (D' 58)) :
    z_R (some (F_X9_marry t (nn p) (nn b) D)) (F_X11_weds (nn p) (nn b) D') (QT pe Y t D D') := by
  obtain ⟨n, hn, q0, ⟨q1, q2, q3⟩, q4, q5, q6, q7⟩ := hT.1 p hp
  obtain ⟨m, hm, r0, ⟨r1, r2, r3⟩, r4, r5, r6, r7⟩ := hT.1 b hb
  have eS : F_X11_shadeOf (nn p) D' = some (nn n) := shadeOf_e (by omega) q1 q2 q3
  have eB : F_X11_shadeOf (nn b) D' = some (nn m) := shadeOf_e (by omega) r1 r2 r3
  have ha := ap_le hn hm
  by_cases h1 : D' 58 (32 + p) = -nn 1
  · by_cases h2 : D' 58 (32 + b) = -nn 1
    · by_cases h3 : ap n m ≤ 6
      · simp (disch := omega) only [F_X9_marry, F_X11_weds, F_X9_has, F_X9_set, eS, eB, z_bd, q0, r0, q6, r6, h1, h2, apart_10, apart_11, z_let, nn_lit, nn_add, nn_mul, nn_sub, nn_addM, nn_div, nn_rem, nn_min, nn_max, nn_abs, nn_lt, nn_le, nn_eq, nn_eqM, nn_Meq, nn_ltM, nn_Mlt, nn_leM, nn_Mle, z_ix_nn, z_inb_nn, F_at_nn, F_put_nn, Nat.zero_add, Nat.add_zero, z_P_some, z_R_some, z_P_bd, if_true, if_false, if_pos, if_neg]
        have hT1 : TR pe Y (z_up D (t + 1) (p * 5 + 3) (nn b) (t + 1)) (z_up D' 58 (32 + p) (nn b) 58) := TR_person hT hpe hp (fun j hj => by simp (disch := omega) only [z_up_i]) (fun j h1 h2 h3 h4 h5 h6 h7 => by simp (disch := omega) only [z_up_i]) ⟨n, hn, by simp (disch := omega) only [z_up_at, z_up_i, q0], ⟨by simp (disch := omega) only [z_up_at, z_up_i, q1], by simp (disch := omega) only [z_up_at, z_up_i, q2], by simp (disch := omega) only [z_up_at, z_up_i, q3]⟩, by simp (disch := omega) only [z_up_at, z_up_i, q4], by simp (disch := omega) only [z_up_at, z_up_i, q5], by simp (disch := omega) only [z_up_at, z_up_i], by simp (disch := omega) only [z_up_at, z_up_i, q7]⟩
        refine ⟨rfl, Or.inr rfl, TR_person hT1 hpe hb (fun j hj => by simp (disch := omega) only [z_up_i]) (fun j h1 h2 h3 h4 h5 h6 h7 => by simp (disch := omega) only [z_up_i]) ⟨m, hm, ?_, ⟨?_, ?_, ?_⟩, ?_, ?_, ?_, ?_⟩, Fr.rf.up.up, Fr.rf.up.up⟩ <;> simp (disch := omega) only [z_up_at, z_up_i, r0, r1, r2, r3, r4, r5, r6, r7]
      · simp (disch := omega) only [F_X9_marry, F_X11_weds, F_X9_has, F_X9_set, eS, eB, z_bd, q0, r0, q6, r6, h1, h2, apart_10, apart_11, z_let, nn_lit, nn_add, nn_mul, nn_sub, nn_addM, nn_div, nn_rem, nn_min, nn_max, nn_abs, nn_lt, nn_le, nn_eq, nn_eqM, nn_Meq, nn_ltM, nn_Mlt, nn_leM, nn_Mle, z_ix_nn, z_inb_nn, F_at_nn, F_put_nn, Nat.zero_add, Nat.add_zero, z_P_some, z_R_some, z_P_bd, if_true, if_false, if_pos, if_neg]
        exact ⟨rfl, Or.inl rfl, hT, Fr.rf, Fr.rf⟩
    · simp (disch := omega) only [F_X9_marry, F_X11_weds, F_X9_has, q6, r6, h1, h2, z_let, nn_lit, nn_add, nn_mul, nn_sub, nn_addM, nn_div, nn_rem, nn_min, nn_max, nn_abs, nn_lt, nn_le, nn_eq, nn_eqM, nn_Meq, nn_ltM, nn_Mlt, nn_leM, nn_Mle, z_ix_nn, z_inb_nn, F_at_nn, F_put_nn, Nat.zero_add, Nat.add_zero, z_P_some, z_R_some, z_P_bd, if_true, if_false, if_pos, if_neg]
      exact ⟨rfl, Or.inl rfl, hT, Fr.rf, Fr.rf⟩
  · simp (disch := omega) only [F_X9_marry, F_X11_weds, F_X9_has, q6, r6, h1, z_let, nn_lit, nn_add, nn_mul, nn_sub, nn_addM, nn_div, nn_rem, nn_min, nn_max, nn_abs, nn_lt, nn_le, nn_eq, nn_eqM, nn_Meq, nn_ltM, nn_Mlt, nn_leM, nn_Mle, z_ix_nn, z_inb_nn, F_at_nn, F_put_nn, Nat.zero_add, Nat.add_zero, z_P_some, z_R_some, z_P_bd, if_true, if_false, if_pos, if_neg]
    exact ⟨rfl, Or.inl rfl, hT, Fr.rf, Fr.rf⟩
