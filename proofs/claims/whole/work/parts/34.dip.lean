/-! ===== a dip, on both sides ===== -/
def QT (pe Y t : Nat) (D D' : z_Dat) (a c : Int32 × z_Dat) : Prop := a.1 = c.1 ∧ (a.1 = nn 0 ∨ a.1 = nn 1) ∧ TR pe Y (a.2 (t + 1)) (c.2 58) ∧ Fr (t + 1) D a.2 ∧ Fr 58 D' c.2
set_option maxHeartbeats 4000000 in
theorem dip_R {t pe Y p b v : Nat} {D D' : z_Dat} (hpe : pe ≤ 8) (hp : p < pe) (hb : b < 6) (hv : v < 1000) (hT : TR pe Y (D (t + 1)) (D' 58)) (v1 : D' 47 (4 * b) = nn (v / 100)) (v2 : D' 47 (4 * b + 1) = nn (v / 10 % 10)) (v3 : D' 47 (4 * b + 2) = nn (v % 10)) :
    z_R (some (F_X9_dip t (nn p) (nn v) D)) (F_X11_dips (nn p) (nn b) D') (QT pe Y t D D') := by
  obtain ⟨n, hn, q0, ⟨q1, q2, q3⟩, q4, q5, q6, q7⟩ := hT.1 p hp
  obtain ⟨s0, hs0, b0, c0⟩ := hT.2.1 0 (by decide)
  obtain ⟨s1, hs1, b1, c1⟩ := hT.2.1 1 (by decide)
  obtain ⟨s2, hs2, b2, c2⟩ := hT.2.1 2 (by decide)
  have b0' : D (t + 1) 40 = nn s0 := b0
  have c0' : D' 58 56 = nn s0 := c0
  have b1' : D (t + 1) 41 = nn s1 := b1
  have b2' : D (t + 1) 42 = nn s2 := b2
  have c1' : D' 58 57 = nn s1 := c1
  have c2' : D' 58 58 = nn s2 := c2
  clear b0 c0 b1 c1 b2 c2
  have hdp : dp n v < 1000 := dp_lt
  have f1 : F_X9_has t (nn p) 0 D = nn n := by simp (disch := omega) only [F_X9_has, q0, z_let, nn_lit, nn_add, nn_mul, nn_sub, nn_addM, nn_div, nn_rem, nn_min, nn_max, nn_abs, nn_lt, nn_le, nn_eq, nn_eqM, nn_Meq, nn_ltM, nn_Mlt, nn_leM, nn_Mle, z_ix_nn, z_inb_nn, F_at_nn, F_put_nn, Nat.zero_add, Nat.add_zero, z_P_some, z_R_some, z_P_bd, if_true, if_false, if_pos, if_neg]
  have eS : F_X11_shadeOf (nn p) D' = some (nn n) := shadeOf_e (by omega) q1 q2 q3
  have eD : F_X11_dippedIn (nn n) (nn b) D' = some (nn (dp n v)) := dippedIn_e hn hb hv v1 v2 v3
  unfold F_X9_dip F_X11_dips
  rw [eS]
  simp only [z_let, f1, deeper_10 hn hv, z_bd, eD, affords_e hv hs0 hs1 hs2 b0' b1' b2']
  by_cases h : dp n v = n
  · simp (disch := omega) only [h, z_let, nn_lit, nn_add, nn_mul, nn_sub, nn_addM, nn_div, nn_rem, nn_min, nn_max, nn_abs, nn_lt, nn_le, nn_eq, nn_eqM, nn_Meq, nn_ltM, nn_Mlt, nn_leM, nn_Mle, z_ix_nn, z_inb_nn, F_at_nn, F_put_nn, Nat.zero_add, Nat.add_zero, z_P_some, z_R_some, z_P_bd, if_true, if_false, if_pos, if_neg]
    exact ⟨rfl, Or.inl rfl, hT, Fr.rf, Fr.rf⟩
  · have hne : ¬ nn (dp n v) = nn n := by simp (disch := omega) only [z_let, nn_lit, nn_add, nn_mul, nn_sub, nn_addM, nn_div, nn_rem, nn_min, nn_max, nn_abs, nn_lt, nn_le, nn_eq, nn_eqM, nn_Meq, nn_ltM, nn_Mlt, nn_leM, nn_Mle, z_ix_nn, z_inb_nn, F_at_nn, F_put_nn, Nat.zero_add, Nat.add_zero, z_P_some, z_R_some, z_P_bd, if_true, if_false, if_pos, if_neg]
                                          exact h
    rw [if_neg hne, if_neg hne]
    by_cases d0 : v / 100 ≤ s0
    · by_cases d1 : v / 10 % 10 ≤ s1
      · by_cases d2 : v % 10 ≤ s2
        · rw [if_pos (show v / 100 ≤ s0 ∧ v / 10 % 10 ≤ s1 ∧ v % 10 ≤ s2 from ⟨d0, d1, d2⟩)]
          simp (disch := omega) only [F_X9_dip_J33, F_X9_dip_J33x, F_X9_dip_J33xx, F_X9_dip_J33xxx, F_X11_dips_J66, F_X11_dips_J66x, F_X11_dips_J66xx, F_X11_dips_J66xxx, F_X11_dips_J25, F_X11_dips_J25x, F_X11_dips_J25xx, F_X11_dips_J25xxx, F_X9_set, F_X9_has, F_X9_stored, partOf_0, partOf_1, partOf_2, shades_e, z_bd, v1, v2, v3, b0', b1', b2', c0', c1', c2', q0, q1, q2, q3, q4, q5, q6, q7, z_up_at, z_up_i, z_up_r, z_let, nn_lit, nn_add, nn_mul, nn_sub, nn_addM, nn_div, nn_rem, nn_min, nn_max, nn_abs, nn_lt, nn_le, nn_eq, nn_eqM, nn_Meq, nn_ltM, nn_Mlt, nn_leM, nn_Mle, z_ix_nn, z_inb_nn, F_at_nn, F_put_nn, Nat.zero_add, Nat.add_zero, z_P_some, z_R_some, z_P_bd, if_true, if_false, if_pos, if_neg]
          refine ⟨rfl, Or.inr rfl, TR_all hT hpe hp (fun j h1 h2 => by simp (disch := omega) only [z_up_i]) (fun j h0 h1 h2 h3 h4 h5 h6 h7 => by simp (disch := omega) only [z_up_i]) ⟨dp n v, hdp, ?_, ⟨?_, ?_, ?_⟩, ?_, ?_, ?_, ?_⟩ (fun d hd => ?_) ?_, by repeat (first | exact Fr.rf | refine Fr.up ?_), by repeat (first | exact Fr.rf | refine Fr.up ?_)⟩
          · simp (disch := omega) only [z_up_at, z_up_i]
          · simp (disch := omega) only [z_up_at, z_up_i]
          · simp (disch := omega) only [z_up_at, z_up_i]
          · simp (disch := omega) only [z_up_at, z_up_i]
          · simp (disch := omega) only [z_up_at, z_up_i, q4]
          · simp (disch := omega) only [z_up_at, z_up_i, q5]
          · simp (disch := omega) only [z_up_at, z_up_i, q6]
          · simp (disch := omega) only [z_up_at, z_up_i, q7]
          · have hd3 : d = 0 ∨ d = 1 ∨ d = 2 := by omega
            rcases hd3 with rfl | rfl | rfl
            · exact ⟨s0 - v / 100, by omega, by simp (disch := omega) only [z_up_at, z_up_i, Nat.add_zero], by simp (disch := omega) only [z_up_at, z_up_i, Nat.add_zero]⟩
            · exact ⟨s1 - v / 10 % 10, by omega, by simp (disch := omega) only [z_up_at, z_up_i], by simp (disch := omega) only [z_up_at, z_up_i]⟩
            · exact ⟨s2 - v % 10, by omega, by simp (disch := omega) only [z_up_at, z_up_i], by simp (disch := omega) only [z_up_at, z_up_i]⟩
          · obtain ⟨y, hy, y1, y2⟩ := hT.2.2
            exact ⟨y, hy, by simp (disch := omega) only [z_up_i, y1], by simp (disch := omega) only [z_up_i, y2]⟩
        · have h' : ¬ (v / 100 ≤ s0 ∧ v / 10 % 10 ≤ s1 ∧ v % 10 ≤ s2) := fun q => d2 q.2.2
          rw [if_neg h']
          simp (disch := omega) only [F_X11_dips_J66, F_X11_dips_J66x, F_X11_dips_J66xx, F_X11_dips_J66xxx, F_X11_dips_J25, F_X11_dips_J25x, F_X11_dips_J25xx, F_X11_dips_J25xxx, v1, v2, v3, c0', c1', c2', z_let, nn_lit, nn_add, nn_mul, nn_sub, nn_addM, nn_div, nn_rem, nn_min, nn_max, nn_abs, nn_lt, nn_le, nn_eq, nn_eqM, nn_Meq, nn_ltM, nn_Mlt, nn_leM, nn_Mle, z_ix_nn, z_inb_nn, F_at_nn, F_put_nn, Nat.zero_add, Nat.add_zero, z_P_some, z_R_some, z_P_bd, if_true, if_false, if_pos, if_neg]
          exact ⟨rfl, Or.inl rfl, hT, Fr.rf, Fr.rf⟩
      · have h' : ¬ (v / 100 ≤ s0 ∧ v / 10 % 10 ≤ s1 ∧ v % 10 ≤ s2) := fun q => d1 q.2.1
        rw [if_neg h']
        simp (disch := omega) only [F_X11_dips_J66, F_X11_dips_J66x, F_X11_dips_J66xx, F_X11_dips_J66xxx, F_X11_dips_J25, F_X11_dips_J25x, F_X11_dips_J25xx, F_X11_dips_J25xxx, v1, v2, v3, c0', c1', c2', z_let, nn_lit, nn_add, nn_mul, nn_sub, nn_addM, nn_div, nn_rem, nn_min, nn_max, nn_abs, nn_lt, nn_le, nn_eq, nn_eqM, nn_Meq, nn_ltM, nn_Mlt, nn_leM, nn_Mle, z_ix_nn, z_inb_nn, F_at_nn, F_put_nn, Nat.zero_add, Nat.add_zero, z_P_some, z_R_some, z_P_bd, if_true, if_false, if_pos, if_neg]
        exact ⟨rfl, Or.inl rfl, hT, Fr.rf, Fr.rf⟩
    · have h' : ¬ (v / 100 ≤ s0 ∧ v / 10 % 10 ≤ s1 ∧ v % 10 ≤ s2) := fun q => d0 q.1
      rw [if_neg h']
      simp (disch := omega) only [F_X11_dips_J66, F_X11_dips_J66x, F_X11_dips_J66xx, F_X11_dips_J66xxx, F_X11_dips_J25, F_X11_dips_J25x, F_X11_dips_J25xx, F_X11_dips_J25xxx, v1, v2, v3, c0', c1', c2', z_let, nn_lit, nn_add, nn_mul, nn_sub, nn_addM, nn_div, nn_rem, nn_min, nn_max, nn_abs, nn_lt, nn_le, nn_eq, nn_eqM, nn_Meq, nn_ltM, nn_Mlt, nn_leM, nn_Mle, z_ix_nn, z_inb_nn, F_at_nn, F_put_nn, Nat.zero_add, Nat.add_zero, z_P_some, z_R_some, z_P_bd, if_true, if_false, if_pos, if_neg]
      exact ⟨rfl, Or.inl rfl, hT, Fr.rf, Fr.rf⟩
