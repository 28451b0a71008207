/-! ===== whom a bride: the match looked up at one person ===== -/
set_option maxHeartbeats 4000000 in
theorem T_bride {N o n : Nat} {a1 : Int32} {D : z_Dat} (hN : 2000 < N) (hJ : J o n D) : TOP (F_L_bride N o a1 D) (F_X11_bride N a1) (J o n) := by
  obtain ⟨ho, ns, pe, rv, hB⟩ := id hJ
  obtain ⟨⟨hns, hpe, hrv⟩, ⟨c5, c6, c7⟩, ⟨k19, k20, k21⟩, hV, hH⟩ := id hB.1
  rcases has_or (m := pe) (by omega) a1 with ⟨p, hp, rfl, ew⟩ | ⟨hout, ew⟩
  · refine TOP_r hJ rfl (fun G hK => ?_)
    have g20 : G 40 20 = nn pe := by rw [hK.2.1 20 (by unfold KK; omega)]; exact k20
    obtain ⟨F, m2, E, m1, x1, x2, x3, x4, k, x, q1, q2, q3, q4, q5, q6⟩ := findMatch_R hN hJ.ho hB hK
    simp (disch := omega) only [F_X10_bride, F_X1_hasPerson, c6, F_X11_bride, F_X11_isPerson, g20, ew, m1, m2, F_X2_partnerOf, dem_ok, dem_no, demT_ok, demT_no, z_bt_l, z_bt_r, z_try_l, z_try_r, nl_I, nl_N, nl_IN, nl_NI, may_okU, may_noU, z_up_at, z_up_i, z_up_r, ↓reduceIte, ↓z_letE, ↓z_bdE, nn_l2, nn_add, nn_mul, nn_sub, nn_addM, nn_div, nn_rem, nn_min, nn_max, nn_abs, nn_ltT, nn_ltF, nn_leT, nn_leF, nn_eqT, nn_eqF, nn_eqM, nn_Meq, nn_ltM, nn_Mlt, nn_leM, nn_Mle, z_ix_nn, z_inb_nn, F_at_nn, F_put_nn, Nat.zero_add, Nat.add_zero, z_P_some, z_R_some, z_P_bd]
    exact ⟨_, _, rfl, x1, (q6 p hp).symm, x2, x3, x4⟩
  · refine TOP_t (c := 1) (k := 0) hJ (by decide) (by decide) (by decide) ?_ (fun G hG => ?_)
    · rcases hout with h | h
      · simp (disch := omega) only [F_L_bride, F_X10_bride, F_X1_hasPerson, c6, h, dem_ok, dem_no, demT_ok, demT_no, z_bt_l, z_bt_r, z_try_l, z_try_r, nl_I, nl_N, nl_IN, nl_NI, may_okU, may_noU, z_up_at, z_up_i, z_up_r, ↓reduceIte, ↓z_letE, ↓z_bdE, nn_l2, nn_add, nn_mul, nn_sub, nn_addM, nn_div, nn_rem, nn_min, nn_max, nn_abs, nn_ltT, nn_ltF, nn_leT, nn_leF, nn_eqT, nn_eqF, nn_eqM, nn_Meq, nn_ltM, nn_Mlt, nn_leM, nn_Mle, z_ix_nn, z_inb_nn, F_at_nn, F_put_nn, Nat.zero_add, Nat.add_zero, z_P_some, z_R_some, z_P_bd]
      · simp (disch := omega) only [F_L_bride, F_X10_bride, F_X1_hasPerson, c6, h.1, h.2, dem_ok, dem_no, demT_ok, demT_no, z_bt_l, z_bt_r, z_try_l, z_try_r, nl_I, nl_N, nl_IN, nl_NI, may_okU, may_noU, z_up_at, z_up_i, z_up_r, ↓reduceIte, ↓z_letE, ↓z_bdE, nn_l2, nn_add, nn_mul, nn_sub, nn_addM, nn_div, nn_rem, nn_min, nn_max, nn_abs, nn_ltT, nn_ltF, nn_leT, nn_leF, nn_eqT, nn_eqF, nn_eqM, nn_Meq, nn_ltM, nn_Mlt, nn_leM, nn_Mle, z_ix_nn, z_inb_nn, F_at_nn, F_put_nn, Nat.zero_add, Nat.add_zero, z_P_some, z_R_some, z_P_bd]
    · have g20 : G 40 20 = nn pe := by rw [hG 40 (by decide)]; exact k20
      simp (disch := omega) only [F_X11_bride, F_X11_isPerson, g20, ew, dem_ok, dem_no, demT_ok, demT_no, z_bt_l, z_bt_r, z_try_l, z_try_r, nl_I, nl_N, nl_IN, nl_NI, may_okU, may_noU, z_up_at, z_up_i, z_up_r, ↓reduceIte, ↓z_letE, ↓z_bdE, nn_l2, nn_add, nn_mul, nn_sub, nn_addM, nn_div, nn_rem, nn_min, nn_max, nn_abs, nn_ltT, nn_ltF, nn_leT, nn_leF, nn_eqT, nn_eqF, nn_eqM, nn_Meq, nn_ltM, nn_Mlt, nn_leM, nn_Mle, z_ix_nn, z_inb_nn, F_at_nn, F_put_nn, Nat.zero_add, Nat.add_zero, z_P_some, z_R_some, z_P_bd]
