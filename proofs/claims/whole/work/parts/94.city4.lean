/-! ===== a new city: J holds again ===== -/
set_option maxHeartbeats 2000000 in
theorem T_city {N o n : Nat} {a1 : Int32} {D : z_Dat} (hN : 2000 < N) (hJ : J o n D) : P_1_city N o n a1 D J := by
  obtain ⟨ho, ns0, pe0, rv0, hB⟩ := id hJ
  have hn : 68 ≤ n := by omega
  obtain ⟨⟨fd, hfd, fd1, fd2⟩, htape, hflt⟩ := id hB.2.2.2.2.2.2.1
  have hM := hB.2.2.2.2.2.2.2
  have h29 : D 29 0 = nn 0 := hB.2.2.2.1.2.2
  rcases in_or (m := fd) (by omega) a1 with ⟨L, hL, rfl⟩ | hout
  rotate_left
  · have hF : F_L_city N n a1 D = some (nn 1, 0, z_up D 0 14 (D 0 14 + nn 1)) := by
      unfold F_L_city F_X10_city
      rcases hout with h | h
      · simp (disch := omega) only [F_X8_has, h, dem_ok, dem_no, demT_ok, demT_no, z_bt_l, z_bt_r, z_try_l, z_try_r, nl_I, nl_N, nl_IN, nl_NI, may_okU, may_noU, z_up_at, z_up_i, z_up_r, ↓reduceIte, ↓z_letE, ↓z_bdE, nn_l2, nn_add, nn_mul, nn_sub, nn_addM, nn_div, nn_rem, nn_min, nn_max, nn_abs, nn_ltT, nn_ltF, nn_leT, nn_leF, nn_eqT, nn_eqF, nn_eqM, nn_Meq, nn_ltM, nn_Mlt, nn_leM, nn_Mle, z_ix_nn, z_inb_nn, F_at_nn, F_put_nn, Nat.zero_add, Nat.add_zero, z_P_some, z_R_some, z_P_bd]
      · simp (disch := omega) only [F_X8_has, fd1, h.1, h.2, dem_ok, dem_no, demT_ok, demT_no, z_bt_l, z_bt_r, z_try_l, z_try_r, nl_I, nl_N, nl_IN, nl_NI, may_okU, may_noU, z_up_at, z_up_i, z_up_r, ↓reduceIte, ↓z_letE, ↓z_bdE, nn_l2, nn_add, nn_mul, nn_sub, nn_addM, nn_div, nn_rem, nn_min, nn_max, nn_abs, nn_ltT, nn_ltF, nn_leT, nn_leF, nn_eqT, nn_eqF, nn_eqM, nn_Meq, nn_ltM, nn_Mlt, nn_leM, nn_Mle, z_ix_nn, z_inb_nn, F_at_nn, F_put_nn, Nat.zero_add, Nat.add_zero, z_P_some, z_R_some, z_P_bd]
    obtain ⟨r1, x, D1, D2, e1, e2, e3, e4, e5⟩ := TOP_tt (c := 1) (k := 1) (FL := some (nn 1, z_up D 0 14 (D 0 14 + nn 1))) (FM := F_X11_city N a1) hJ (by decide) (by decide) (by decide) rfl (fun G hG => by
      have g2 : G 40 2 = nn fd := by rw [hG 40 (by decide)]; exact fd2
      rcases hout with h | h
      · simp (disch := omega) only [F_X11_city, F_X11_city_J22, F_X11_city_J23, h, dem_ok, dem_no, demT_ok, demT_no, z_bt_l, z_bt_r, z_try_l, z_try_r, nl_I, nl_N, nl_IN, nl_NI, may_okU, may_noU, z_up_at, z_up_i, z_up_r, ↓reduceIte, ↓z_letE, ↓z_bdE, nn_l2, nn_add, nn_mul, nn_sub, nn_addM, nn_div, nn_rem, nn_min, nn_max, nn_abs, nn_ltT, nn_ltF, nn_leT, nn_leF, nn_eqT, nn_eqF, nn_eqM, nn_Meq, nn_ltM, nn_Mlt, nn_leM, nn_Mle, z_ix_nn, z_inb_nn, F_at_nn, F_put_nn, Nat.zero_add, Nat.add_zero, z_P_some, z_R_some, z_P_bd]
      · simp (disch := omega) only [F_X11_city, F_X11_city_J22, F_X11_city_J23, g2, h.1, h.2, dem_ok, dem_no, demT_ok, demT_no, z_bt_l, z_bt_r, z_try_l, z_try_r, nl_I, nl_N, nl_IN, nl_NI, may_okU, may_noU, z_up_at, z_up_i, z_up_r, ↓reduceIte, ↓z_letE, ↓z_bdE, nn_l2, nn_add, nn_mul, nn_sub, nn_addM, nn_div, nn_rem, nn_min, nn_max, nn_abs, nn_ltT, nn_ltF, nn_leT, nn_leF, nn_eqT, nn_eqF, nn_eqM, nn_Meq, nn_ltM, nn_Mlt, nn_leM, nn_Mle, z_ix_nn, z_inb_nn, F_at_nn, F_put_nn, Nat.zero_add, Nat.add_zero, z_P_some, z_R_some, z_P_bd])
    cases e1
    exact ⟨nn 1, 0, x, _, D2, hF, e2, e3, fun h => absurd h e4, e5⟩
  obtain ⟨t, E, E4, ht, m1, m2, m3, m4, key⟩ := city_G (N := N) (n := n) (L := L) (fd := fd) hN hn ⟨⟨fd, hfd, fd1, fd2⟩, htape, hflt⟩ hL hfd
  have hhas : F_X8_has (nn L) (nn 600) D = nn 1 := by simp (disch := omega) only [F_X8_has, fd1, ↓reduceIte, ↓z_letE, ↓z_bdE, nn_l2, nn_add, nn_mul, nn_sub, nn_addM, nn_div, nn_rem, nn_min, nn_max, nn_abs, nn_ltT, nn_ltF, nn_leT, nn_leF, nn_eqT, nn_eqF, nn_eqM, nn_Meq, nn_ltM, nn_Mlt, nn_leM, nn_Mle, z_ix_nn, z_inb_nn, F_at_nn, F_put_nn, Nat.zero_add, Nat.add_zero, z_P_some, z_R_some, z_P_bd]
  by_cases hOK : OK E4
  rotate_left
  · -- a fault
    have pre : ∀ v, F_X8_verdict E4 = v → F_L_city N n (nn L) D = some (nn 0, 1, z_upJ E4 67 0 v.toInt64) := fun v hv => by
      have hf : F_X8_failed E4 = nn 1 := by
        obtain ⟨F, -, f2, -⟩ := key D rfl fd2
        exact (f2.1.nf hOK).1
      have e : F_X10_city2 N n (nn L) D = some (v, false, E4) := by
        unfold F_X10_city2
        rw [m1, z_bdE, z_letE, z_letE]
        show z_bd (F_X1_read N n (city0 n E)) _ = _
        rw [m2, z_bdE]
        simp (disch := omega) only [hf, hv, ↓reduceIte, ↓z_letE, ↓z_bdE, nn_l2, nn_add, nn_mul, nn_sub, nn_addM, nn_div, nn_rem, nn_min, nn_max, nn_abs, nn_ltT, nn_ltF, nn_leT, nn_leF, nn_eqT, nn_eqF, nn_eqM, nn_Meq, nn_ltM, nn_Mlt, nn_leM, nn_Mle, z_ix_nn, z_inb_nn, F_at_nn, F_put_nn, Nat.zero_add, Nat.add_zero, z_P_some, z_R_some, z_P_bd]
      unfold F_L_city F_X10_city
      simp (disch := omega) only [hhas, e, dem_ok, dem_no, demT_ok, demT_no, z_bt_l, z_bt_r, z_try_l, z_try_r, nl_I, nl_N, nl_IN, nl_NI, may_okU, may_noU, z_up_at, z_up_i, z_up_r, ↓reduceIte, ↓z_letE, ↓z_bdE, nn_l2, nn_add, nn_mul, nn_sub, nn_addM, nn_div, nn_rem, nn_min, nn_max, nn_abs, nn_ltT, nn_ltF, nn_leT, nn_leF, nn_eqT, nn_eqF, nn_eqM, nn_Meq, nn_ltM, nn_Mlt, nn_leM, nn_Mle, z_ix_nn, z_inb_nn, F_at_nn, F_put_nn, Nat.zero_add, Nat.add_zero, z_P_some, z_R_some, z_P_bd]
      rfl
    generalize hv : F_X8_verdict E4 = v at pre
    have hFL := pre v rfl
    obtain ⟨F, ⟨y1, y2, y3, y4⟩, f2, f3⟩ := key (z_upJ E4 67 0 v.toInt64) (by
      rw [show z_upJ E4 67 0 v.toInt64 42 = E4 42 from by unfold z_upJ; rw [z_up_ne (by decide), z_up_ne (by decide)], m3 42 (by decide) (Or.inl (by omega))]) (by
      rw [show z_upJ E4 67 0 v.toInt64 40 2 = E4 40 2 from by unfold z_upJ; rw [z_up_r (by decide), z_up_r (by decide)], m3 40 (by decide) (Or.inl (by omega))]
      exact fd2)
    have hG : ∀ r, r ≠ 67 → z_upJ E4 67 0 v.toInt64 r = E4 r := fun r hr => by unfold z_upJ; rw [z_up_ne hr, z_up_ne hr]
    obtain ⟨k, pl, k1, k2, k3, k4, k5, k6, k7⟩ := f2.1.fa hOK
    have hJ164 : F_X11_city_J164 N F = some (nn k - nn 10, z_up F 40 8 (nn pl)) := by
      simp (disch := omega) only [F_X11_city_J164, F_X11_result, F_X11_fine, k6, k7, z_up_i, ↓reduceIte, ↓z_letE, ↓z_bdE, nn_l2, nn_add, nn_mul, nn_sub, nn_addM, nn_div, nn_rem, nn_min, nn_max, nn_abs, nn_ltT, nn_ltF, nn_leT, nn_leF, nn_eqT, nn_eqF, nn_eqM, nn_Meq, nn_ltM, nn_Mlt, nn_leM, nn_Mle, z_ix_nn, z_inb_nn, F_at_nn, F_put_nn, Nat.zero_add, Nat.add_zero, z_P_some, z_R_some, z_P_bd]
    have hvv : v = nn k - nn 10 := by
      rw [← hv]
      unfold F_X8_verdict
      rw [k4]
      rfl
    have rows : ∀ r, r < n → r ≠ 1 → r ≠ 40 → (r < 43 ∨ 46 < r) → r ≠ 67 → z_up F 40 8 (nn pl) r = D r := fun r h1 h2 h3 h4 h5 => by
      rw [z_up_ne h3, y1 r h3 h4, hG r h5, m3 r h2 (Or.inl h1)]
    refine ⟨nn 0, 1, _, _, _, hFL, f3.trans hJ164, ?_, fun _ => ?_, ?_⟩
    · unfold F_X11_thrown
      rw [z_up_i (by decide)]
      exact y3
    · rw [ld_row (D := z_up F 40 8 (nn pl)) (E := z_upJ E4 67 0 v.toInt64) (by rw [z_up_ne (by decide), y1 67 (by decide) (Or.inr (by decide))]), z_upJ_same, hvv]
      exact lg_self _
    · show J o (n + 6) _
      refine ⟨by omega, ns0, pe0, rv0, hB.keepX ho ⟨fun r h1 h2 h3 h4 => rows r h1 h3 h4.1 ?_ ?_, fun j hj h2 h8 => ?_, ?_⟩ ⟨⟨0, by omega, ?_, ?_⟩, fun j hj => ?_, ?_⟩⟩
      · by_cases h : r < 43 ∨ 46 < r
        · exact h
        · exact absurd (by unfold SC; omega) h2
      · intro h
        exact h2 (by unfold SC; omega)
      · rw [z_up_i h8]
        by_cases h18 : 18 < j
        · rw [y2 j h18, hG 40 (by decide), m3 40 (by decide) (Or.inl (by omega))]
        · unfold KK at hj
          omega
      · rw [rows 29 (by omega) (by decide) (by decide) (by decide) (by decide)]
      · rw [z_up_ne (by decide), y1 1 (by decide) (Or.inl (by decide)), hG 1 (by decide)]
        exact m4
      · rw [z_up_i (by decide)]
        exact y4
      · rw [rows 2 (by omega) (by decide) (by decide) (by decide) (by decide), rows 42 (by omega) (by decide) (by decide) (by decide) (by decide)]
        exact htape j hj
      · rw [z_up_at rfl rfl, z_up_ne (by decide), y1 1 (by decide) (Or.inl (by decide)), hG 1 (by decide)]
        exact k5
  · -- a city
    obtain ⟨F1, -, g2, -⟩ := key D rfl fd2
    obtain ⟨ns, pe, rv, hCD1⟩ := g2.2 hOK
    obtain ⟨D5, s1, s2, s3, s4, s5⟩ := settle_P (N := N) (n := n) (pe := pe) (D := E4) hN hn hCD1.1.2.1 hCD1.2.1.2.1
    obtain ⟨D7, c1, c2, c3⟩ := fill_P (N := N) (r := 13) (n := 3) (v := -nn 1) (D := z_up D5 7 6 (nn 0)) (by omega) (by decide)
    generalize hP : z_up (z_up (z_up (z_up D7 12 2 (nn 0)) 21 3 (nn 0)) 21 4 (nn 0)) 0 12 (nn 0) = P
    have hP' := hP.symm
    have pr : ∀ r, r ≠ 0 → r ≠ 4 → r ≠ 7 → r ≠ 12 → r ≠ 13 → r ≠ 21 → P r = E4 r := fun r h0 h4 h7 h12 h13 h21 => by
      rw [hP', z_up_ne h0, z_up_ne h21, z_up_ne h21, z_up_ne h12, c2 r h13, z_up_ne h7, s2 r h4]
    have p4 : P 4 = D5 4 := by
      rw [hP', z_up_ne (by decide), z_up_ne (by decide), z_up_ne (by decide), z_up_ne (by decide), c2 4 (by decide), z_up_ne (by decide)]
    have p7 : P 7 6 = nn 0 := by
      rw [hP', z_up_r (by decide), z_up_r (by decide), z_up_r (by decide), z_up_r (by decide), c2 7 (by decide), z_up_at rfl rfl]
    have p12 : P 12 2 = nn 0 := by
      rw [hP', z_up_r (by decide), z_up_r (by decide), z_up_r (by decide), z_up_at rfl rfl]
    have p13 : ∀ d, d < 3 → P 13 d = -nn 1 := fun d hd => by
      rw [hP', z_up_r (by decide), z_up_r (by decide), z_up_r (by decide), z_up_r (by decide), c3 d hd]
    have p213 : P 21 3 = nn 0 := by
      rw [hP', z_up_r (by decide), z_up_i (by decide), z_up_at rfl rfl]
    have p214 : P 21 4 = nn 0 := by
      rw [hP', z_up_r (by decide), z_up_at rfl rfl]
    have p012 : P 0 12 = nn 0 := by
      rw [hP', z_up_at rfl rfl]
    have p0 : ∀ j, j ≠ 12 → P 0 j = D 0 j := fun j hj => by
      rw [hP', z_up_i hj, z_up_r (by decide), z_up_r (by decide), z_up_r (by decide), c2 0 (by decide), z_up_r (by decide), s2 0 (by decide), m3 0 (by decide) (Or.inl (by omega))]
    have pn6 : P n 6 = nn pe := by
      rw [pr n (by omega) (by omega) (by omega) (by omega) (by omega) (by omega)]
      exact hCD1.2.1.2.1
    have hf : F_X8_failed E4 = nn 0 := OKf hOK
    have e : F_X10_city2 N n (nn L) D = some (nn pe, true, P) := by
      unfold F_X10_city2
      rw [m1, z_bdE, z_letE, z_letE]
      show z_bd (F_X1_read N n (city0 n E)) _ = _
      rw [m2, z_bdE]
      simp (disch := omega) only [hf, s1, F_X5_repeal, F_X0_clear, c1, F_X4_clear, hP, pn6, ↓reduceIte, ↓z_letE, ↓z_bdE, nn_l2, nn_add, nn_mul, nn_sub, nn_addM, nn_div, nn_rem, nn_min, nn_max, nn_abs, nn_ltT, nn_ltF, nn_leT, nn_leF, nn_eqT, nn_eqF, nn_eqM, nn_Meq, nn_ltM, nn_Mlt, nn_leM, nn_Mle, z_ix_nn, z_inb_nn, F_at_nn, F_put_nn, Nat.zero_add, Nat.add_zero, z_P_some, z_R_some, z_P_bd]
    have hFL : F_L_city N n (nn L) D = some (nn 0, 2, z_upJ P 67 0 (nn pe).toInt64) := by
      unfold F_L_city F_X10_city
      simp (disch := omega) only [hhas, e, dem_ok, dem_no, demT_ok, demT_no, z_bt_l, z_bt_r, z_try_l, z_try_r, nl_I, nl_N, nl_IN, nl_NI, may_okU, may_noU, z_up_at, z_up_i, z_up_r, ↓reduceIte, ↓z_letE, ↓z_bdE, nn_l2, nn_add, nn_mul, nn_sub, nn_addM, nn_div, nn_rem, nn_min, nn_max, nn_abs, nn_ltT, nn_ltF, nn_leT, nn_leF, nn_eqT, nn_eqF, nn_eqM, nn_Meq, nn_ltM, nn_Mlt, nn_leM, nn_Mle, z_ix_nn, z_inb_nn, F_at_nn, F_put_nn, Nat.zero_add, Nat.add_zero, z_P_some, z_R_some, z_P_bd]
      rfl
    have hG : ∀ r, r ≠ 67 → z_upJ P 67 0 (nn pe).toInt64 r = P r := fun r hr => by unfold z_upJ; rw [z_up_ne hr, z_up_ne hr]
    obtain ⟨F, ⟨y1, y2, y3, y4⟩, f2, f3⟩ := key (z_upJ P 67 0 (nn pe).toInt64) (by
      rw [hG 42 (by decide), pr 42 (by decide) (by decide) (by decide) (by decide) (by decide) (by decide), m3 42 (by decide) (Or.inl (by omega))]) (by
      rw [hG 40 (by decide), pr 40 (by decide) (by decide) (by decide) (by decide) (by decide) (by decide), m3 40 (by decide) (Or.inl (by omega))]
      exact fd2)
    obtain ⟨h', p', -, hI⟩ := f2.1.fi hOK
    obtain ⟨ns', pe', rv', hCD⟩ := f2.2 hOK
    have hpe : pe' = pe := nn_inj (by have := hCD.1; omega) (by have := hCD1.1; omega) (hCD.2.1.2.1.symm.trans hCD1.2.1.2.1)
    subst hpe
    have f5 := hI.2.2.2.2.2
    obtain ⟨S, t1, t2, t3, t4, t5, t6, t7, t8, t9, t10⟩ := sets_P (N := N) (F := z_up F 40 8 (-nn 1)) (ns := ns') (pe := pe') (rv := rv') hN hCD.1.2.1 (by rw [z_up_i (by decide)]; exact hCD.2.2.1.1) (by rw [z_up_i (by decide)]; exact hCD.2.2.1.2.1) (by rw [z_up_i (by decide)]; exact hCD.2.2.1.2.2)
    have g17 := hCD.2.2.1.2.1
    have hJ164 : F_X11_city_J164 N F = some (nn pe', S) := by
      simp (disch := omega) only [F_X11_city_J164, F_X11_result, F_X11_fine, f5, z_up_i, t1, g17, ↓reduceIte, ↓z_letE, ↓z_bdE, nn_l2, nn_add, nn_mul, nn_sub, nn_addM, nn_div, nn_rem, nn_min, nn_max, nn_abs, nn_ltT, nn_ltF, nn_leT, nn_leF, nn_eqT, nn_eqF, nn_eqM, nn_Meq, nn_ltM, nn_Mlt, nn_leM, nn_Mle, z_ix_nn, z_inb_nn, F_at_nn, F_put_nn, Nat.zero_add, Nat.add_zero, z_P_some, z_R_some, z_P_bd]
    have rows : ∀ r, r ≠ 40 → r ≠ 47 → r ≠ 48 → r ≠ 57 → r ≠ 61 → (r < 43 ∨ 46 < r) → r ≠ 67 → S r = P r := fun r h1 h2 h3 h4 h5 h6 h7 => by
      rw [t2 r h1 h2 h3 h4 h5, z_up_ne h1, y1 r h1 h6, hG r h7]
    have rowc : ∀ i, i < 6 → S (n + i) = E4 (n + i) := fun i hi => by
      rw [rows (n + i) (by omega) (by omega) (by omega) (by omega) (by omega) (by omega) (by omega), pr (n + i) (by omega) (by omega) (by omega) (by omega) (by omega) (by omega)]
    have rowD : ∀ r, r < n → r ≠ 0 → r ≠ 1 → r ≠ 4 → r ≠ 7 → r ≠ 12 → r ≠ 13 → r ≠ 21 → r ≠ 40 → r ≠ 47 → r ≠ 48 → r ≠ 57 → r ≠ 61 → (r < 43 ∨ 46 < r) → r ≠ 67 → S r = D r := fun r h1 a0 a1 a2 a3 a4 a5 a6 h2 h3 h4 h5 h6 h7 h8 => by
      rw [rows r h2 h3 h4 h5 h6 h7 h8, pr r a0 a2 a3 a4 a5 a6, m3 r a1 (Or.inl h1)]
    have s40 : ∀ j, j < 19 → j ≠ 8 → S 40 j = F 40 j := fun j hj h8 => by rw [t4 j hj, z_up_i h8]
    obtain ⟨u19, u20, u21, u28, u43, u33, u54, u34⟩ := t3
    refine ⟨nn 0, 2, nn pe', _, S, hFL, f3.trans hJ164, ?_, fun _ => ?_, ?_⟩
    · unfold F_X11_thrown
      rw [s40 0 (by decide) (by decide)]
      exact y3
    · rw [ld_row (D := S) (E := z_upJ P 67 0 (nn pe').toInt64) (by rw [t2 67 (by decide) (by decide) (by decide) (by decide) (by decide), z_up_ne (by decide), y1 67 (by decide) (Or.inr (by decide))]), z_upJ_same]
      exact lg_self _
    · show J n (n + 6) S
      obtain ⟨b1, ⟨d5, d6, d7⟩, -, b4, b5, b6⟩ := hCD
      refine ⟨Or.inr ⟨hn, Nat.le_refl _⟩, ns', pe', rv', ⟨b1, ⟨?_, ?_, ?_⟩, ⟨u19, u20, u21⟩, fun b hb => ?_, fun p hp => ?_⟩, ⟨fun p hp => ?_, fun d hd => ?_, 0, by omega, ?_, ?_⟩, Or.inl ⟨?_, u28⟩, ⟨fun d hd => ?_, ?_, ?_⟩, ⟨0, by omega, ?_, u33, fun k hk => absurd hk (by omega)⟩, ⟨0, by omega, ?_, u54, fun k hk => absurd hk (by omega)⟩, ⟨⟨0, by omega, ?_, ?_⟩, fun j hj => ?_, ?_⟩, ?_, ?_, ?_⟩
      · rw [show S n = E4 n from rowc 0 (by decide)]; exact d5
      · rw [show S n = E4 n from rowc 0 (by decide)]; exact d6
      · rw [show S n = E4 n from rowc 0 (by decide)]; exact d7
      · obtain ⟨⟨v, v1, v2, v3, v4, v5⟩, v6⟩ := b4 b hb
        have hbb := b1.1
        refine ⟨v, v1, by rw [rowc 1 (by decide)]; exact v2, ⟨?_, ?_, ?_⟩, ?_⟩
        · rw [t5 _ (by omega), z_up_r (by decide)]; exact v3
        · rw [t5 _ (by omega), z_up_r (by decide)]; exact v4
        · rw [t5 _ (by omega), z_up_r (by decide)]; exact v5
        · rw [t5 _ (by omega), z_up_r (by decide), rowc 2 (by decide)]; exact v6
      · have hbb := b1.2.1
        rw [rowc 3 (by decide), t6 _ (by omega), z_up_r (by decide)]
        exact (b5 p hp).1
      · obtain ⟨q1, q2, q3, q4, q5⟩ := s3 p hp
        have hbb := b1.2.1
        obtain ⟨w1, w2⟩ := t7 p (by omega)
        rw [if_pos hp, z_up_r (by decide)] at w2
        rw [rows 4 (by decide) (by decide) (by decide) (by decide) (by decide) (by decide) (by decide), p4, q1, q2, q3, q4, q5, w1, w2, t9 (3 * p) (by omega), t9 (3 * p + 1) (by omega), t9 (3 * p + 2) (by omega), t9 (24 + p) (by omega), t9 (40 + p) (by omega)]
        exact ⟨0, by omega, rfl, ⟨rfl, rfl, rfl⟩, (b5 p hp).2, rfl, rfl, rfl⟩
      · obtain ⟨v, v1, v2, v3⟩ := b6 d hd
        refine ⟨v, v1, ?_, ?_⟩
        · rw [rows 4 (by decide) (by decide) (by decide) (by decide) (by decide) (by decide) (by decide), p4, s4 d hd]; exact v2
        · rw [t8 d hd, z_up_r (by decide)]; exact v3
      · rw [rows 4 (by decide) (by decide) (by decide) (by decide) (by decide) (by decide) (by decide), p4]; exact s5
      · exact t9 59 (by decide)
      · rw [rows 7 (by decide) (by decide) (by decide) (by decide) (by decide) (by decide) (by decide)]; exact p7
      · rw [rows 13 (by decide) (by decide) (by decide) (by decide) (by decide) (by decide) (by decide), p13 d hd, t10 d hd]
      · rw [rows 12 (by decide) (by decide) (by decide) (by decide) (by decide) (by decide) (by decide), p12, u43]
      · rw [rowD 29 (by omega) (by decide) (by decide) (by decide) (by decide) (by decide) (by decide) (by decide) (by decide) (by decide) (by decide) (by decide) (by decide) (by decide) (by decide)]; exact h29
      · rw [rows 21 (by decide) (by decide) (by decide) (by decide) (by decide) (by decide) (by decide)]; exact p213
      · rw [rows 21 (by decide) (by decide) (by decide) (by decide) (by decide) (by decide) (by decide)]; exact p214
      · rw [rows 1 (by decide) (by decide) (by decide) (by decide) (by decide) (by decide) (by decide), pr 1 (by decide) (by decide) (by decide) (by decide) (by decide) (by decide)]; exact m4
      · rw [s40 2 (by decide) (by decide)]; exact y4
      · rw [rowD 2 (by omega) (by decide) (by decide) (by decide) (by decide) (by decide) (by decide) (by decide) (by decide) (by decide) (by decide) (by decide) (by decide) (by decide) (by decide), rowD 42 (by omega) (by decide) (by decide) (by decide) (by decide) (by decide) (by decide) (by decide) (by decide) (by decide) (by decide) (by decide) (by decide) (by decide) (by decide)]
        exact htape j hj
      · rw [rows 1 (by decide) (by decide) (by decide) (by decide) (by decide) (by decide) (by decide), pr 1 (by decide) (by decide) (by decide) (by decide) (by decide) (by decide), t4 8 (by decide), z_up_at rfl rfl]
        exact hI.2.2.2.1
      · rw [rows 0 (by decide) (by decide) (by decide) (by decide) (by decide) (by decide) (by decide), p012, u34]
      · rw [rows 0 (by decide) (by decide) (by decide) (by decide) (by decide) (by decide) (by decide), p0 13 (by decide), rowD 41 (by omega) (by decide) (by decide) (by decide) (by decide) (by decide) (by decide) (by decide) (by decide) (by decide) (by decide) (by decide) (by decide) (by decide) (by decide)]
        exact hM.2.1
      · rw [rows 0 (by decide) (by decide) (by decide) (by decide) (by decide) (by decide) (by decide), p0 14 (by decide), rowD 41 (by omega) (by decide) (by decide) (by decide) (by decide) (by decide) (by decide) (by decide) (by decide) (by decide) (by decide) (by decide) (by decide) (by decide) (by decide)]
        exact hM.2.2
