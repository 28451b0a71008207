/-! ===== match answers alike ===== -/
set_option maxHeartbeats 4000000 in
theorem T_match {N o n : Nat} {a1 : Int32} {D : z_Dat} (hN : 2000 < N) (hJ : J o n D) : TOP (F_L_match N o a1 D) (F_X11_match N a1) (J o n) := by
  obtain ⟨ho, ns, pe, rv, hB⟩ := id hJ
  rcases wi_or (m := 1) (by decide) a1 with ⟨w, hw, rfl, ew⟩ | ⟨h, ew⟩
  · refine TOP_r hJ rfl (fun G hK => ?_)
    obtain ⟨F, m2, E, m1, x1, x2, x3, x4, k, x, q1, q2, q3, q4, q5, -⟩ := findMatch_R hN hJ.ho hB hK
    have e : (1000 * k - x + 999) / 1000 = k := by omega
    have e2 : 1000 * k - (1000 * k - x) = x := by omega
    have h2 : w = 0 ∨ w = 1 := by omega
    rcases h2 with rfl | rfl
    · simp (disch := omega) only [F_X10_match, F_X10_match_J15x, F_X11_match, ew, m1, m2, q3, q4, q5, e, dem_ok, dem_no, demT_ok, demT_no, z_bt_l, z_bt_r, z_try_l, z_try_r, nl_I, nl_N, nl_IN, nl_NI, may_okU, may_noU, z_up_at, z_up_i, z_up_r, ↓reduceIte, ↓z_letE, ↓z_bdE, nn_l2, nn_add, nn_mul, nn_sub, nn_addM, nn_div, nn_rem, nn_min, nn_max, nn_abs, nn_ltT, nn_ltF, nn_leT, nn_leF, nn_eqT, nn_eqF, nn_eqM, nn_Meq, nn_ltM, nn_Mlt, nn_leM, nn_Mle, z_ix_nn, z_inb_nn, F_at_nn, F_put_nn, Nat.zero_add, Nat.add_zero, z_P_some, z_R_some, z_P_bd]
      exact ⟨_, _, rfl, x1, rfl, x2, x3, x4⟩
    · simp (disch := omega) only [F_X10_match, F_X10_match_J15x, F_X11_match, ew, m1, m2, q3, q4, q5, e, e2, dem_ok, dem_no, demT_ok, demT_no, z_bt_l, z_bt_r, z_try_l, z_try_r, nl_I, nl_N, nl_IN, nl_NI, may_okU, may_noU, z_up_at, z_up_i, z_up_r, ↓reduceIte, ↓z_letE, ↓z_bdE, nn_l2, nn_add, nn_mul, nn_sub, nn_addM, nn_div, nn_rem, nn_min, nn_max, nn_abs, nn_ltT, nn_ltF, nn_leT, nn_leF, nn_eqT, nn_eqF, nn_eqM, nn_Meq, nn_ltM, nn_Mlt, nn_leM, nn_Mle, z_ix_nn, z_inb_nn, F_at_nn, F_put_nn, Nat.zero_add, Nat.add_zero, z_P_some, z_R_some, z_P_bd]
      exact ⟨_, _, rfl, x1, rfl, x2, x3, x4⟩
  · refine TOP_t (c := 1) (k := 1) hJ (by decide) (by decide) (by decide) ?_ (fun G hG => ?_)
    · rcases h with h | h
      · simp (disch := omega) only [F_L_match, F_X10_match, F_X10_match_J14, F_X10_match_J15, h, dem_ok, dem_no, demT_ok, demT_no, z_bt_l, z_bt_r, z_try_l, z_try_r, nl_I, nl_N, nl_IN, nl_NI, may_okU, may_noU, z_up_at, z_up_i, z_up_r, ↓reduceIte, ↓z_letE, ↓z_bdE, nn_l2, nn_add, nn_mul, nn_sub, nn_addM, nn_div, nn_rem, nn_min, nn_max, nn_abs, nn_ltT, nn_ltF, nn_leT, nn_leF, nn_eqT, nn_eqF, nn_eqM, nn_Meq, nn_ltM, nn_Mlt, nn_leM, nn_Mle, z_ix_nn, z_inb_nn, F_at_nn, F_put_nn, Nat.zero_add, Nat.add_zero, z_P_some, z_R_some, z_P_bd]
      · simp (disch := omega) only [F_L_match, F_X10_match, F_X10_match_J14, F_X10_match_J15, h.1, h.2, dem_ok, dem_no, demT_ok, demT_no, z_bt_l, z_bt_r, z_try_l, z_try_r, nl_I, nl_N, nl_IN, nl_NI, may_okU, may_noU, z_up_at, z_up_i, z_up_r, ↓reduceIte, ↓z_letE, ↓z_bdE, nn_l2, nn_add, nn_mul, nn_sub, nn_addM, nn_div, nn_rem, nn_min, nn_max, nn_abs, nn_ltT, nn_ltF, nn_leT, nn_leF, nn_eqT, nn_eqF, nn_eqM, nn_Meq, nn_ltM, nn_Mlt, nn_leM, nn_Mle, z_ix_nn, z_inb_nn, F_at_nn, F_put_nn, Nat.zero_add, Nat.add_zero, z_P_some, z_R_some, z_P_bd]
    · simp (disch := omega) only [F_X11_match, ew, dem_ok, dem_no, demT_ok, demT_no, z_bt_l, z_bt_r, z_try_l, z_try_r, nl_I, nl_N, nl_IN, nl_NI, may_okU, may_noU, z_up_at, z_up_i, z_up_r, ↓reduceIte, ↓z_letE, ↓z_bdE, nn_l2, nn_add, nn_mul, nn_sub, nn_addM, nn_div, nn_rem, nn_min, nn_max, nn_abs, nn_ltT, nn_ltF, nn_leT, nn_leF, nn_eqT, nn_eqF, nn_eqM, nn_Meq, nn_ltM, nn_Mlt, nn_leM, nn_Mle, z_ix_nn, z_inb_nn, F_at_nn, F_put_nn, Nat.zero_add, Nat.add_zero, z_P_some, z_R_some, z_P_bd]
