/-! ===== of a person, a stock, shades; would, fault, status, count ===== -/
theorem up67 {G : z_Dat} : z_up G 40 0 (nn 0) 67 = G 67 := z_up_ne (by decide)
set_option maxHeartbeats 4000000 in
theorem T_person {N o n : Nat} {a1 a2 : Int32} {D : z_Dat} (hN : 200 < N) (hJ : J o n D) : TOP (F_L_person N o a1 a2 D) (F_X11_person N a1 a2) (J o n) := by
  obtain ⟨ho, ns, pe, rv, hB⟩ := id hJ
  obtain ⟨hC, hT, hL, hBk, hP, hI, hX, hMI⟩ := id hB
  obtain ⟨⟨hns, hpe, hrv⟩, ⟨c5, c6, c7⟩, ⟨k19, k20, k21⟩, hV, hH⟩ := id hC
  rcases has_or (m := pe) (by omega) a1 with ⟨p, hp, rfl, ew⟩ | ⟨hout, ew⟩
  · rcases in_or (m := 7) (by decide) a2 with ⟨k, hk, rfl⟩ | hout
    · have e9 := within_in (k := k) (b := 7) hk (by decide)
      refine TOP_r hJ rfl (fun G hK => ?_)
      have g20 : G 40 20 = nn pe := by rw [hK.2.1 20 (by unfold KK; omega)]; exact k20
      have hT' : TR pe 300 (D (3 + 1)) (D 57) := hT
      obtain ⟨m, hm, q0, ⟨q1, q2, q3⟩, q4, q5, q6, q7⟩ := hT'.1 p hp
      have h8 : k = 0 ∨ k = 1 ∨ k = 2 ∨ k = 3 ∨ k = 4 ∨ k = 5 ∨ k = 6 ∨ k = 7 := by omega
      rcases h8 with rfl | rfl | rfl | rfl | rfl | rfl | rfl | rfl
      · simp (disch := omega) only [F_X10_person, F_X10_person_J28x, F_X1_hasPerson, F_X1_homeOf, c6, F_X11_person, F_X11_isPerson, g20, ew, e9, dem_ok, dem_no, demT_ok, demT_no, z_bt_l, z_bt_r, z_try_l, z_try_r, nl_I, nl_N, nl_IN, nl_NI, may_okU, may_noU, z_up_at, z_up_i, z_up_r, ↓reduceIte, ↓z_letE, ↓z_bdE, nn_l2, nn_add, nn_mul, nn_sub, nn_addM, nn_div, nn_rem, nn_min, nn_max, nn_abs, nn_ltT, nn_ltF, nn_leT, nn_leF, nn_eqT, nn_eqF, nn_eqM, nn_Meq, nn_ltM, nn_Mlt, nn_leM, nn_Mle, z_ix_nn, z_inb_nn, F_at_nn, F_put_nn, Nat.zero_add, Nat.add_zero, z_P_some, z_R_some, z_P_bd]
        refine z_R_take hN hB hK (fun G2 hA => ?_)
        obtain ⟨A1, A2, A3, A4, A5, A6⟩ := hA
        rw [z_R_some]
        exact ⟨_, _, rfl, KA.rf, (A1.2.2.2.2 p hp).symm, A4, A5, A6⟩
      · simp (disch := omega) only [F_X10_person, F_X10_person_J28x, F_X1_hasPerson, F_X9_has, c6, F_X11_person, F_X11_isPerson, g20, ew, e9, dem_ok, dem_no, demT_ok, demT_no, z_bt_l, z_bt_r, z_try_l, z_try_r, nl_I, nl_N, nl_IN, nl_NI, may_okU, may_noU, z_up_at, z_up_i, z_up_r, ↓reduceIte, ↓z_letE, ↓z_bdE, nn_l2, nn_add, nn_mul, nn_sub, nn_addM, nn_div, nn_rem, nn_min, nn_max, nn_abs, nn_ltT, nn_ltF, nn_leT, nn_leF, nn_eqT, nn_eqF, nn_eqM, nn_Meq, nn_ltM, nn_Mlt, nn_leM, nn_Mle, z_ix_nn, z_inb_nn, F_at_nn, F_put_nn, Nat.zero_add, Nat.add_zero, z_P_some, z_R_some, z_P_bd]
        refine z_R_take hN hB hK (fun G2 hA => ?_)
        obtain ⟨A1, A2, A3, A4, A5, A6⟩ := hA
        obtain ⟨m', hm', r0, ⟨r1, r2, r3⟩, r4, r5, r6, r7⟩ := A2.1 p hp
        rw [z_R_some]
        exact ⟨_, _, rfl, KA.rf, r4.symm, A4, A5, A6⟩
      · simp (disch := omega) only [F_X10_person, F_X10_person_J28x, F_X1_hasPerson, F_X9_has, c6, F_X11_person, F_X11_isPerson, g20, ew, e9, dem_ok, dem_no, demT_ok, demT_no, z_bt_l, z_bt_r, z_try_l, z_try_r, nl_I, nl_N, nl_IN, nl_NI, may_okU, may_noU, z_up_at, z_up_i, z_up_r, ↓reduceIte, ↓z_letE, ↓z_bdE, nn_l2, nn_add, nn_mul, nn_sub, nn_addM, nn_div, nn_rem, nn_min, nn_max, nn_abs, nn_ltT, nn_ltF, nn_leT, nn_leF, nn_eqT, nn_eqF, nn_eqM, nn_Meq, nn_ltM, nn_Mlt, nn_leM, nn_Mle, z_ix_nn, z_inb_nn, F_at_nn, F_put_nn, Nat.zero_add, Nat.add_zero, z_P_some, z_R_some, z_P_bd]
        refine z_R_take hN hB hK (fun G2 hA => ?_)
        obtain ⟨A1, A2, A3, A4, A5, A6⟩ := hA
        obtain ⟨m', hm', r0, ⟨r1, r2, r3⟩, r4, r5, r6, r7⟩ := A2.1 p hp
        rw [shadeOf_e (by omega) r1 r2 r3, z_bdE, z_R_some]
        exact ⟨_, _, rfl, KA.rf, r0.symm, A4, A5, A6⟩
      · simp (disch := omega) only [F_X10_person, F_X10_person_J28x, F_X1_hasPerson, F_X9_has, c6, q0, F_X11_person, F_X11_isPerson, g20, ew, e9, dem_ok, dem_no, demT_ok, demT_no, z_bt_l, z_bt_r, z_try_l, z_try_r, nl_I, nl_N, nl_IN, nl_NI, may_okU, may_noU, z_up_at, z_up_i, z_up_r, ↓reduceIte, ↓z_letE, ↓z_bdE, nn_l2, nn_add, nn_mul, nn_sub, nn_addM, nn_div, nn_rem, nn_min, nn_max, nn_abs, nn_ltT, nn_ltF, nn_leT, nn_leF, nn_eqT, nn_eqF, nn_eqM, nn_Meq, nn_ltM, nn_Mlt, nn_leM, nn_Mle, z_ix_nn, z_inb_nn, F_at_nn, F_put_nn, Nat.zero_add, Nat.add_zero, z_P_some, z_R_some, z_P_bd]
        refine z_R_take hN hB hK (fun G2 hA => ?_)
        obtain ⟨A1, A2, A3, A4, A5, A6⟩ := hA
        obtain ⟨m', hm', r0, ⟨r1, r2, r3⟩, r4, r5, r6, r7⟩ := A2.1 p hp
        have hmm : m' = m := nn_inj (by omega) (by omega) (r0.symm.trans q0)
        subst hmm
        obtain ⟨a, c, m1, m2, rfl, -⟩ := nearest_R (n := m') hN hm A1
        rw [shadeOf_e (by omega) r1 r2 r3, z_bdE, m1, z_bdE, m2, z_bdE, z_R_some]
        exact ⟨_, _, rfl, KA.rf, rfl, A4, A5, A6⟩
      · simp (disch := omega) only [F_X10_person, F_X10_person_J28x, F_X1_hasPerson, F_X9_has, c6, F_X11_person, F_X11_isPerson, g20, ew, e9, dem_ok, dem_no, demT_ok, demT_no, z_bt_l, z_bt_r, z_try_l, z_try_r, nl_I, nl_N, nl_IN, nl_NI, may_okU, may_noU, z_up_at, z_up_i, z_up_r, ↓reduceIte, ↓z_letE, ↓z_bdE, nn_l2, nn_add, nn_mul, nn_sub, nn_addM, nn_div, nn_rem, nn_min, nn_max, nn_abs, nn_ltT, nn_ltF, nn_leT, nn_leF, nn_eqT, nn_eqF, nn_eqM, nn_Meq, nn_ltM, nn_Mlt, nn_leM, nn_Mle, z_ix_nn, z_inb_nn, F_at_nn, F_put_nn, Nat.zero_add, Nat.add_zero, z_P_some, z_R_some, z_P_bd]
        refine z_R_take hN hB hK (fun G2 hA => ?_)
        obtain ⟨A1, A2, A3, A4, A5, A6⟩ := hA
        obtain ⟨m', hm', r0, ⟨r1, r2, r3⟩, r4, r5, r6, r7⟩ := A2.1 p hp
        rw [z_R_some]
        exact ⟨_, _, rfl, KA.rf, r7.symm, A4, A5, A6⟩
      · simp (disch := omega) only [F_X10_person, F_X10_person_J28x, F_X1_hasPerson, F_X9_has, c6, F_X11_person, F_X11_isPerson, g20, ew, e9, dem_ok, dem_no, demT_ok, demT_no, z_bt_l, z_bt_r, z_try_l, z_try_r, nl_I, nl_N, nl_IN, nl_NI, may_okU, may_noU, z_up_at, z_up_i, z_up_r, ↓reduceIte, ↓z_letE, ↓z_bdE, nn_l2, nn_add, nn_mul, nn_sub, nn_addM, nn_div, nn_rem, nn_min, nn_max, nn_abs, nn_ltT, nn_ltF, nn_leT, nn_leF, nn_eqT, nn_eqF, nn_eqM, nn_Meq, nn_ltM, nn_Mlt, nn_leM, nn_Mle, z_ix_nn, z_inb_nn, F_at_nn, F_put_nn, Nat.zero_add, Nat.add_zero, z_P_some, z_R_some, z_P_bd]
        refine z_R_take hN hB hK (fun G2 hA => ?_)
        obtain ⟨A1, A2, A3, A4, A5, A6⟩ := hA
        obtain ⟨m', hm', r0, ⟨r1, r2, r3⟩, r4, r5, r6, r7⟩ := A2.1 p hp
        rw [z_R_some]
        exact ⟨_, _, rfl, KA.rf, r6.symm, A4, A5, A6⟩
      · simp (disch := omega) only [F_X10_person, F_X10_person_J28x, F_X1_hasPerson, F_X9_has, c6, F_X11_person, F_X11_isPerson, g20, ew, e9, dem_ok, dem_no, demT_ok, demT_no, z_bt_l, z_bt_r, z_try_l, z_try_r, nl_I, nl_N, nl_IN, nl_NI, may_okU, may_noU, z_up_at, z_up_i, z_up_r, ↓reduceIte, ↓z_letE, ↓z_bdE, nn_l2, nn_add, nn_mul, nn_sub, nn_addM, nn_div, nn_rem, nn_min, nn_max, nn_abs, nn_ltT, nn_ltF, nn_leT, nn_leF, nn_eqT, nn_eqF, nn_eqM, nn_Meq, nn_ltM, nn_Mlt, nn_leM, nn_Mle, z_ix_nn, z_inb_nn, F_at_nn, F_put_nn, Nat.zero_add, Nat.add_zero, z_P_some, z_R_some, z_P_bd]
        refine z_R_take hN hB hK (fun G2 hA => ?_)
        obtain ⟨A1, A2, A3, A4, A5, A6⟩ := hA
        obtain ⟨m', hm', r0, ⟨r1, r2, r3⟩, r4, r5, r6, r7⟩ := A2.1 p hp
        rw [z_R_some]
        exact ⟨_, _, rfl, KA.rf, r5.symm, A4, A5, A6⟩
      · simp (disch := omega) only [F_X10_person, F_X10_person_J28x, F_X1_hasPerson, c6, F_X11_person, F_X11_isPerson, g20, ew, e9, dem_ok, dem_no, demT_ok, demT_no, z_bt_l, z_bt_r, z_try_l, z_try_r, nl_I, nl_N, nl_IN, nl_NI, may_okU, may_noU, z_up_at, z_up_i, z_up_r, ↓reduceIte, ↓z_letE, ↓z_bdE, nn_l2, nn_add, nn_mul, nn_sub, nn_addM, nn_div, nn_rem, nn_min, nn_max, nn_abs, nn_ltT, nn_ltF, nn_leT, nn_leF, nn_eqT, nn_eqF, nn_eqM, nn_Meq, nn_ltM, nn_Mlt, nn_leM, nn_Mle, z_ix_nn, z_inb_nn, F_at_nn, F_put_nn, Nat.zero_add, Nat.add_zero, z_P_some, z_R_some, z_P_bd]
        refine z_R_take hN hB hK (fun G2 hA => ?_)
        obtain ⟨A1, A2, A3, A4, A5, A6⟩ := hA
        obtain ⟨a, c, m1, m2, x1, x2, x3, x4⟩ := isSeated_R (t := 3) hN hp A1 A2 A3
        have y1 : c.2 40 0 = nn 0 := by rw [x4 40 (by decide) (by decide)]; exact A4
        have y2 : c.2 67 = G 67 := by rw [x4 67 (by decide) (by decide)]; exact A5
        have y3 : KA G c.2 := A6.tr (KA.fs' x4)
        rw [m1, z_bdE, m2, z_bdE, ← x1]
        rcases x2 with x2 | x2
        · simp (disch := omega) only [x2, ↓reduceIte, ↓z_letE, ↓z_bdE, nn_l2, nn_add, nn_mul, nn_sub, nn_addM, nn_div, nn_rem, nn_min, nn_max, nn_abs, nn_ltT, nn_ltF, nn_leT, nn_leF, nn_eqT, nn_eqF, nn_eqM, nn_Meq, nn_ltM, nn_Mlt, nn_leM, nn_Mle, z_ix_nn, z_inb_nn, F_at_nn, F_put_nn, Nat.zero_add, Nat.add_zero, z_P_some, z_R_some, z_P_bd]
          exact ⟨_, _, rfl, KA.fs x3, rfl, y1, y2, y3⟩
        · simp (disch := omega) only [x2, ↓reduceIte, ↓z_letE, ↓z_bdE, nn_l2, nn_add, nn_mul, nn_sub, nn_addM, nn_div, nn_rem, nn_min, nn_max, nn_abs, nn_ltT, nn_ltF, nn_leT, nn_leF, nn_eqT, nn_eqF, nn_eqM, nn_Meq, nn_ltM, nn_Mlt, nn_leM, nn_Mle, z_ix_nn, z_inb_nn, F_at_nn, F_put_nn, Nat.zero_add, Nat.add_zero, z_P_some, z_R_some, z_P_bd]
          exact ⟨_, _, rfl, KA.fs x3, rfl, y1, y2, y3⟩
    · have e9 : F_X11_within a2 (nn 0) (nn 7) = nn 0 := within_out (by rcases hout with h | h; exact Or.inl h; exact Or.inr h.2)
      refine TOP_t (c := 2) (k := 1) hJ (by decide) (by decide) (by decide) ?_ (fun G hG => ?_)
      · rcases hout with h | h
        · simp (disch := omega) only [F_L_person, F_X10_person, F_X10_person_J27, F_X10_person_J28, F_X1_hasPerson, c6, h, dem_ok, dem_no, demT_ok, demT_no, z_bt_l, z_bt_r, z_try_l, z_try_r, nl_I, nl_N, nl_IN, nl_NI, may_okU, may_noU, z_up_at, z_up_i, z_up_r, ↓reduceIte, ↓z_letE, ↓z_bdE, nn_l2, nn_add, nn_mul, nn_sub, nn_addM, nn_div, nn_rem, nn_min, nn_max, nn_abs, nn_ltT, nn_ltF, nn_leT, nn_leF, nn_eqT, nn_eqF, nn_eqM, nn_Meq, nn_ltM, nn_Mlt, nn_leM, nn_Mle, z_ix_nn, z_inb_nn, F_at_nn, F_put_nn, Nat.zero_add, Nat.add_zero, z_P_some, z_R_some, z_P_bd]
        · simp (disch := omega) only [F_L_person, F_X10_person, F_X10_person_J27, F_X10_person_J28, F_X1_hasPerson, c6, h.1, h.2, dem_ok, dem_no, demT_ok, demT_no, z_bt_l, z_bt_r, z_try_l, z_try_r, nl_I, nl_N, nl_IN, nl_NI, may_okU, may_noU, z_up_at, z_up_i, z_up_r, ↓reduceIte, ↓z_letE, ↓z_bdE, nn_l2, nn_add, nn_mul, nn_sub, nn_addM, nn_div, nn_rem, nn_min, nn_max, nn_abs, nn_ltT, nn_ltF, nn_leT, nn_leF, nn_eqT, nn_eqF, nn_eqM, nn_Meq, nn_ltM, nn_Mlt, nn_leM, nn_Mle, z_ix_nn, z_inb_nn, F_at_nn, F_put_nn, Nat.zero_add, Nat.add_zero, z_P_some, z_R_some, z_P_bd]
      · have g20 : G 40 20 = nn pe := by rw [hG 40 (by decide)]; exact k20
        simp (disch := omega) only [F_X11_person, F_X11_isPerson, g20, ew, e9, dem_ok, dem_no, demT_ok, demT_no, z_bt_l, z_bt_r, z_try_l, z_try_r, nl_I, nl_N, nl_IN, nl_NI, may_okU, may_noU, z_up_at, z_up_i, z_up_r, ↓reduceIte, ↓z_letE, ↓z_bdE, nn_l2, nn_add, nn_mul, nn_sub, nn_addM, nn_div, nn_rem, nn_min, nn_max, nn_abs, nn_ltT, nn_ltF, nn_leT, nn_leF, nn_eqT, nn_eqF, nn_eqM, nn_Meq, nn_ltM, nn_Mlt, nn_leM, nn_Mle, z_ix_nn, z_inb_nn, F_at_nn, F_put_nn, Nat.zero_add, Nat.add_zero, z_P_some, z_R_some, z_P_bd]
  · refine TOP_t (c := 1) (k := 0) hJ (by decide) (by decide) (by decide) ?_ (fun G hG => ?_)
    · rcases hout with h | h
      · simp (disch := omega) only [F_L_person, F_X10_person, F_X1_hasPerson, c6, h, dem_ok, dem_no, demT_ok, demT_no, z_bt_l, z_bt_r, z_try_l, z_try_r, nl_I, nl_N, nl_IN, nl_NI, may_okU, may_noU, z_up_at, z_up_i, z_up_r, ↓reduceIte, ↓z_letE, ↓z_bdE, nn_l2, nn_add, nn_mul, nn_sub, nn_addM, nn_div, nn_rem, nn_min, nn_max, nn_abs, nn_ltT, nn_ltF, nn_leT, nn_leF, nn_eqT, nn_eqF, nn_eqM, nn_Meq, nn_ltM, nn_Mlt, nn_leM, nn_Mle, z_ix_nn, z_inb_nn, F_at_nn, F_put_nn, Nat.zero_add, Nat.add_zero, z_P_some, z_R_some, z_P_bd]
      · simp (disch := omega) only [F_L_person, F_X10_person, F_X1_hasPerson, c6, h.1, h.2, dem_ok, dem_no, demT_ok, demT_no, z_bt_l, z_bt_r, z_try_l, z_try_r, nl_I, nl_N, nl_IN, nl_NI, may_okU, may_noU, z_up_at, z_up_i, z_up_r, ↓reduceIte, ↓z_letE, ↓z_bdE, nn_l2, nn_add, nn_mul, nn_sub, nn_addM, nn_div, nn_rem, nn_min, nn_max, nn_abs, nn_ltT, nn_ltF, nn_leT, nn_leF, nn_eqT, nn_eqF, nn_eqM, nn_Meq, nn_ltM, nn_Mlt, nn_leM, nn_Mle, z_ix_nn, z_inb_nn, F_at_nn, F_put_nn, Nat.zero_add, Nat.add_zero, z_P_some, z_R_some, z_P_bd]
    · have g20 : G 40 20 = nn pe := by rw [hG 40 (by decide)]; exact k20
      simp (disch := omega) only [F_X11_person, F_X11_isPerson, g20, ew, dem_ok, dem_no, demT_ok, demT_no, z_bt_l, z_bt_r, z_try_l, z_try_r, nl_I, nl_N, nl_IN, nl_NI, may_okU, may_noU, z_up_at, z_up_i, z_up_r, ↓reduceIte, ↓z_letE, ↓z_bdE, nn_l2, nn_add, nn_mul, nn_sub, nn_addM, nn_div, nn_rem, nn_min, nn_max, nn_abs, nn_ltT, nn_ltF, nn_leT, nn_leF, nn_eqT, nn_eqF, nn_eqM, nn_Meq, nn_ltM, nn_Mlt, nn_leM, nn_Mle, z_ix_nn, z_inb_nn, F_at_nn, F_put_nn, Nat.zero_add, Nat.add_zero, z_P_some, z_R_some, z_P_bd]
theorem lt_or {m : Nat} (hm : m < 2147483648) (a : Int32) : (∃ b, b < m ∧ a = nn b) ∨ (a < nn 0 ∨ (¬ a < nn 0 ∧ nn m ≤ a)) := by
  by_cases h0 : a < nn 0
  · exact Or.inr (Or.inl h0)
  · by_cases h1 : nn m ≤ a
    · exact Or.inr (Or.inr ⟨h0, h1⟩)
    · obtain ⟨k, hk, rfl⟩ := n_of (a := a) (b := m) h0 (fun q => h1 (Int32.le_of_lt q)) hm
      refine Or.inl ⟨k, ?_, rfl⟩
      have h2 := nn_le_of h1
      rw [nn_lt (by omega) hm] at h2
      exact h2
set_option maxHeartbeats 4000000 in
theorem T_stock {o n : Nat} {a : Int32} {D : z_Dat} (hJ : J o n D) : TOP (F_L_stock a D) (F_X11_stock a) (J o n) := by
  obtain ⟨ho, ns, pe, rv, hB⟩ := id hJ
  obtain ⟨hC, hT, -⟩ := id hB
  rcases lt_or (m := 3) (by decide) a with ⟨d, hd, rfl⟩ | hout
  · refine TOP_r hJ rfl (fun G hK => ?_)
    obtain ⟨s, hs, s1, s2⟩ := hT.2.1 d hd
    have g57 : G 57 = D 57 := hK.1 57 (by unfold SC; omega) (by decide)
    simp (disch := omega) only [F_X10_stock, F_X10_isDye, F_X9_stored, F_X11_stock, F_X11_isDye, dem_ok, dem_no, demT_ok, demT_no, z_bt_l, z_bt_r, z_try_l, z_try_r, nl_I, nl_N, nl_IN, nl_NI, may_okU, may_noU, z_up_at, z_up_i, z_up_r, ↓reduceIte, ↓z_letE, ↓z_bdE, nn_l2, nn_add, nn_mul, nn_sub, nn_addM, nn_div, nn_rem, nn_min, nn_max, nn_abs, nn_ltT, nn_ltF, nn_leT, nn_leF, nn_eqT, nn_eqF, nn_eqM, nn_Meq, nn_ltM, nn_Mlt, nn_leM, nn_Mle, z_ix_nn, z_inb_nn, F_at_nn, F_put_nn, Nat.zero_add, Nat.add_zero, z_P_some, z_R_some, z_P_bd]
    refine ⟨_, _, rfl, KA.rf, ?_, by simp (disch := omega) only [z_up_at], up67, upK⟩
    rw [g57, s2]
    exact s1.symm
  · refine TOP_t (c := 1) (k := 0) hJ (by decide) (by decide) (by decide) ?_ (fun G hG => ?_)
    · rcases hout with h | h
      · simp (disch := omega) only [F_L_stock, F_X10_stock, F_X10_isDye, h, dem_ok, dem_no, demT_ok, demT_no, z_bt_l, z_bt_r, z_try_l, z_try_r, nl_I, nl_N, nl_IN, nl_NI, may_okU, may_noU, z_up_at, z_up_i, z_up_r, ↓reduceIte, ↓z_letE, ↓z_bdE, nn_l2, nn_add, nn_mul, nn_sub, nn_addM, nn_div, nn_rem, nn_min, nn_max, nn_abs, nn_ltT, nn_ltF, nn_leT, nn_leF, nn_eqT, nn_eqF, nn_eqM, nn_Meq, nn_ltM, nn_Mlt, nn_leM, nn_Mle, z_ix_nn, z_inb_nn, F_at_nn, F_put_nn, Nat.zero_add, Nat.add_zero, z_P_some, z_R_some, z_P_bd]
      · simp (disch := omega) only [F_L_stock, F_X10_stock, F_X10_isDye, h.1, h.2, dem_ok, dem_no, demT_ok, demT_no, z_bt_l, z_bt_r, z_try_l, z_try_r, nl_I, nl_N, nl_IN, nl_NI, may_okU, may_noU, z_up_at, z_up_i, z_up_r, ↓reduceIte, ↓z_letE, ↓z_bdE, nn_l2, nn_add, nn_mul, nn_sub, nn_addM, nn_div, nn_rem, nn_min, nn_max, nn_abs, nn_ltT, nn_ltF, nn_leT, nn_leF, nn_eqT, nn_eqF, nn_eqM, nn_Meq, nn_ltM, nn_Mlt, nn_leM, nn_Mle, z_ix_nn, z_inb_nn, F_at_nn, F_put_nn, Nat.zero_add, Nat.add_zero, z_P_some, z_R_some, z_P_bd]
    · rcases hout with h | h
      · simp (disch := omega) only [F_X11_stock, F_X11_isDye, h, dem_ok, dem_no, demT_ok, demT_no, z_bt_l, z_bt_r, z_try_l, z_try_r, nl_I, nl_N, nl_IN, nl_NI, may_okU, may_noU, z_up_at, z_up_i, z_up_r, ↓reduceIte, ↓z_letE, ↓z_bdE, nn_l2, nn_add, nn_mul, nn_sub, nn_addM, nn_div, nn_rem, nn_min, nn_max, nn_abs, nn_ltT, nn_ltF, nn_leT, nn_leF, nn_eqT, nn_eqF, nn_eqM, nn_Meq, nn_ltM, nn_Mlt, nn_leM, nn_Mle, z_ix_nn, z_inb_nn, F_at_nn, F_put_nn, Nat.zero_add, Nat.add_zero, z_P_some, z_R_some, z_P_bd]
      · simp (disch := omega) only [F_X11_stock, F_X11_isDye, h.1, h.2, dem_ok, dem_no, demT_ok, demT_no, z_bt_l, z_bt_r, z_try_l, z_try_r, nl_I, nl_N, nl_IN, nl_NI, may_okU, may_noU, z_up_at, z_up_i, z_up_r, ↓reduceIte, ↓z_letE, ↓z_bdE, nn_l2, nn_add, nn_mul, nn_sub, nn_addM, nn_div, nn_rem, nn_min, nn_max, nn_abs, nn_ltT, nn_ltF, nn_leT, nn_leF, nn_eqT, nn_eqF, nn_eqM, nn_Meq, nn_ltM, nn_Mlt, nn_leM, nn_Mle, z_ix_nn, z_inb_nn, F_at_nn, F_put_nn, Nat.zero_add, Nat.add_zero, z_P_some, z_R_some, z_P_bd]
theorem shade_or (a : Int32) : (∃ s, s < 1000 ∧ a = nn s ∧ F_X10_isShade a = nn 1 ∧ F_X11_isShade a = nn 1) ∨ (F_X10_isShade a = nn 0 ∧ F_X11_isShade a = nn 0) := by
  rcases lt_or (m := 1000) (by decide) a with ⟨s, hs, rfl⟩ | h | h
  · exact Or.inl ⟨s, hs, rfl, by simp (disch := omega) only [F_X10_isShade, ↓reduceIte, ↓z_letE, ↓z_bdE, nn_l2, nn_add, nn_mul, nn_sub, nn_addM, nn_div, nn_rem, nn_min, nn_max, nn_abs, nn_ltT, nn_ltF, nn_leT, nn_leF, nn_eqT, nn_eqF, nn_eqM, nn_Meq, nn_ltM, nn_Mlt, nn_leM, nn_Mle, z_ix_nn, z_inb_nn, F_at_nn, F_put_nn, Nat.zero_add, Nat.add_zero, z_P_some, z_R_some, z_P_bd], by simp (disch := omega) only [F_X11_isShade, ↓reduceIte, ↓z_letE, ↓z_bdE, nn_l2, nn_add, nn_mul, nn_sub, nn_addM, nn_div, nn_rem, nn_min, nn_max, nn_abs, nn_ltT, nn_ltF, nn_leT, nn_leF, nn_eqT, nn_eqF, nn_eqM, nn_Meq, nn_ltM, nn_Mlt, nn_leM, nn_Mle, z_ix_nn, z_inb_nn, F_at_nn, F_put_nn, Nat.zero_add, Nat.add_zero, z_P_some, z_R_some, z_P_bd]⟩
  · exact Or.inr ⟨by simp (disch := omega) only [F_X10_isShade, h, ↓reduceIte, ↓z_letE, ↓z_bdE, nn_l2, nn_add, nn_mul, nn_sub, nn_addM, nn_div, nn_rem, nn_min, nn_max, nn_abs, nn_ltT, nn_ltF, nn_leT, nn_leF, nn_eqT, nn_eqF, nn_eqM, nn_Meq, nn_ltM, nn_Mlt, nn_leM, nn_Mle, z_ix_nn, z_inb_nn, F_at_nn, F_put_nn, Nat.zero_add, Nat.add_zero, z_P_some, z_R_some, z_P_bd], by simp (disch := omega) only [F_X11_isShade, h, ↓reduceIte, ↓z_letE, ↓z_bdE, nn_l2, nn_add, nn_mul, nn_sub, nn_addM, nn_div, nn_rem, nn_min, nn_max, nn_abs, nn_ltT, nn_ltF, nn_leT, nn_leF, nn_eqT, nn_eqF, nn_eqM, nn_Meq, nn_ltM, nn_Mlt, nn_leM, nn_Mle, z_ix_nn, z_inb_nn, F_at_nn, F_put_nn, Nat.zero_add, Nat.add_zero, z_P_some, z_R_some, z_P_bd]⟩
  · exact Or.inr ⟨by simp (disch := omega) only [F_X10_isShade, h.1, h.2, ↓reduceIte, ↓z_letE, ↓z_bdE, nn_l2, nn_add, nn_mul, nn_sub, nn_addM, nn_div, nn_rem, nn_min, nn_max, nn_abs, nn_ltT, nn_ltF, nn_leT, nn_leF, nn_eqT, nn_eqF, nn_eqM, nn_Meq, nn_ltM, nn_Mlt, nn_leM, nn_Mle, z_ix_nn, z_inb_nn, F_at_nn, F_put_nn, Nat.zero_add, Nat.add_zero, z_P_some, z_R_some, z_P_bd], by simp (disch := omega) only [F_X11_isShade, h.1, h.2, ↓reduceIte, ↓z_letE, ↓z_bdE, nn_l2, nn_add, nn_mul, nn_sub, nn_addM, nn_div, nn_rem, nn_min, nn_max, nn_abs, nn_ltT, nn_ltF, nn_leT, nn_leF, nn_eqT, nn_eqF, nn_eqM, nn_Meq, nn_ltM, nn_Mlt, nn_leM, nn_Mle, z_ix_nn, z_inb_nn, F_at_nn, F_put_nn, Nat.zero_add, Nat.add_zero, z_P_some, z_R_some, z_P_bd]⟩
set_option maxHeartbeats 4000000 in
theorem T_distance {o n : Nat} {a1 a2 : Int32} {D : z_Dat} (hJ : J o n D) : TOP (F_L_distance a1 a2 D) (F_X11_distance a1 a2) (J o n) := by
  rcases shade_or a1 with ⟨s, hs, rfl, e1, e2⟩ | ⟨e1, e2⟩
  · rcases shade_or a2 with ⟨u, hu, rfl, f1, f2⟩ | ⟨f1, f2⟩
    · refine TOP_r hJ rfl (fun G hK => ?_)
      simp (disch := omega) only [F_X10_distance, e1, f1, F_X11_distance, F_X11_distance_J25x, e2, f2, apart_10, apart_11, dem_ok, dem_no, demT_ok, demT_no, z_bt_l, z_bt_r, z_try_l, z_try_r, nl_I, nl_N, nl_IN, nl_NI, may_okU, may_noU, z_up_at, z_up_i, z_up_r, ↓reduceIte, ↓z_letE, ↓z_bdE, nn_l2, nn_add, nn_mul, nn_sub, nn_addM, nn_div, nn_rem, nn_min, nn_max, nn_abs, nn_ltT, nn_ltF, nn_leT, nn_leF, nn_eqT, nn_eqF, nn_eqM, nn_Meq, nn_ltM, nn_Mlt, nn_leM, nn_Mle, z_ix_nn, z_inb_nn, F_at_nn, F_put_nn, Nat.zero_add, Nat.add_zero, z_P_some, z_R_some, z_P_bd]
      exact ⟨_, _, rfl, KA.rf, rfl, by simp (disch := omega) only [z_up_at], up67, upK⟩
    · refine TOP_t (c := 1) (k := 1) hJ (by decide) (by decide) (by decide) ?_ (fun G hG => ?_)
      · simp (disch := omega) only [F_L_distance, F_X10_distance, e1, f1, dem_ok, dem_no, demT_ok, demT_no, z_bt_l, z_bt_r, z_try_l, z_try_r, nl_I, nl_N, nl_IN, nl_NI, may_okU, may_noU, z_up_at, z_up_i, z_up_r, ↓reduceIte, ↓z_letE, ↓z_bdE, nn_l2, nn_add, nn_mul, nn_sub, nn_addM, nn_div, nn_rem, nn_min, nn_max, nn_abs, nn_ltT, nn_ltF, nn_leT, nn_leF, nn_eqT, nn_eqF, nn_eqM, nn_Meq, nn_ltM, nn_Mlt, nn_leM, nn_Mle, z_ix_nn, z_inb_nn, F_at_nn, F_put_nn, Nat.zero_add, Nat.add_zero, z_P_some, z_R_some, z_P_bd]
      · simp (disch := omega) only [F_X11_distance, F_X11_distance_J24, F_X11_distance_J25, e2, f2, dem_ok, dem_no, demT_ok, demT_no, z_bt_l, z_bt_r, z_try_l, z_try_r, nl_I, nl_N, nl_IN, nl_NI, may_okU, may_noU, z_up_at, z_up_i, z_up_r, ↓reduceIte, ↓z_letE, ↓z_bdE, nn_l2, nn_add, nn_mul, nn_sub, nn_addM, nn_div, nn_rem, nn_min, nn_max, nn_abs, nn_ltT, nn_ltF, nn_leT, nn_leF, nn_eqT, nn_eqF, nn_eqM, nn_Meq, nn_ltM, nn_Mlt, nn_leM, nn_Mle, z_ix_nn, z_inb_nn, F_at_nn, F_put_nn, Nat.zero_add, Nat.add_zero, z_P_some, z_R_some, z_P_bd]
  · refine TOP_t (c := 1) (k := 1) hJ (by decide) (by decide) (by decide) ?_ (fun G hG => ?_)
    · simp (disch := omega) only [F_L_distance, F_X10_distance, e1, dem_ok, dem_no, demT_ok, demT_no, z_bt_l, z_bt_r, z_try_l, z_try_r, nl_I, nl_N, nl_IN, nl_NI, may_okU, may_noU, z_up_at, z_up_i, z_up_r, ↓reduceIte, ↓z_letE, ↓z_bdE, nn_l2, nn_add, nn_mul, nn_sub, nn_addM, nn_div, nn_rem, nn_min, nn_max, nn_abs, nn_ltT, nn_ltF, nn_leT, nn_leF, nn_eqT, nn_eqF, nn_eqM, nn_Meq, nn_ltM, nn_Mlt, nn_leM, nn_Mle, z_ix_nn, z_inb_nn, F_at_nn, F_put_nn, Nat.zero_add, Nat.add_zero, z_P_some, z_R_some, z_P_bd]
    · simp (disch := omega) only [F_X11_distance, F_X11_distance_J24, F_X11_distance_J25, e2, dem_ok, dem_no, demT_ok, demT_no, z_bt_l, z_bt_r, z_try_l, z_try_r, nl_I, nl_N, nl_IN, nl_NI, may_okU, may_noU, z_up_at, z_up_i, z_up_r, ↓reduceIte, ↓z_letE, ↓z_bdE, nn_l2, nn_add, nn_mul, nn_sub, nn_addM, nn_div, nn_rem, nn_min, nn_max, nn_abs, nn_ltT, nn_ltF, nn_leT, nn_leF, nn_eqT, nn_eqF, nn_eqM, nn_Meq, nn_ltM, nn_Mlt, nn_leM, nn_Mle, z_ix_nn, z_inb_nn, F_at_nn, F_put_nn, Nat.zero_add, Nat.add_zero, z_P_some, z_R_some, z_P_bd]
theorem upC {o ns pe rv : Nat} {D G : z_Dat} (hB : JB o ns pe rv D) (hK : KA D G) : CR o ns pe rv D (z_up G 40 0 (nn 0)) ∧ LR D (z_up G 40 0 (nn 0)) := ⟨CRK hB.1 (hK.tr upK), LRK hB.2.2.1 (hK.tr upK)⟩
set_option maxHeartbeats 4000000 in
theorem T_seems {N o n : Nat} {a : Int32} {D : z_Dat} (hN : 200 < N) (hJ : J o n D) : TOP (F_L_seems N o a D) (F_X11_seems N a) (J o n) := by
  obtain ⟨ho, ns, pe, rv, hB⟩ := id hJ
  rcases shade_or a with ⟨s, hs, rfl, e1, e2⟩ | ⟨e1, e2⟩
  · refine TOP_r hJ rfl (fun G hK => ?_)
    simp (disch := omega) only [F_X10_seems, e1, F_X11_seems, e2, dem_ok, dem_no, demT_ok, demT_no, z_bt_l, z_bt_r, z_try_l, z_try_r, nl_I, nl_N, nl_IN, nl_NI, may_okU, may_noU, z_up_at, z_up_i, z_up_r, ↓reduceIte, ↓z_letE, ↓z_bdE, nn_l2, nn_add, nn_mul, nn_sub, nn_addM, nn_div, nn_rem, nn_min, nn_max, nn_abs, nn_ltT, nn_ltF, nn_leT, nn_leF, nn_eqT, nn_eqF, nn_eqM, nn_Meq, nn_ltM, nn_Mlt, nn_leM, nn_Mle, z_ix_nn, z_inb_nn, F_at_nn, F_put_nn, Nat.zero_add, Nat.add_zero, z_P_some, z_R_some, z_P_bd]
    obtain ⟨a, c, m1, m2, rfl, -⟩ := nearest_R (n := s) hN hs (upC hB hK).1
    rw [m1, z_bdE, m2, z_bdE, z_R_some]
    exact ⟨_, _, rfl, KA.rf, rfl, by simp (disch := omega) only [z_up_at], up67, upK⟩
  · refine TOP_t (c := 1) (k := 1) hJ (by decide) (by decide) (by decide) ?_ (fun G hG => ?_)
    · simp (disch := omega) only [F_L_seems, F_X10_seems, e1, dem_ok, dem_no, demT_ok, demT_no, z_bt_l, z_bt_r, z_try_l, z_try_r, nl_I, nl_N, nl_IN, nl_NI, may_okU, may_noU, z_up_at, z_up_i, z_up_r, ↓reduceIte, ↓z_letE, ↓z_bdE, nn_l2, nn_add, nn_mul, nn_sub, nn_addM, nn_div, nn_rem, nn_min, nn_max, nn_abs, nn_ltT, nn_ltF, nn_leT, nn_leF, nn_eqT, nn_eqF, nn_eqM, nn_Meq, nn_ltM, nn_Mlt, nn_leM, nn_Mle, z_ix_nn, z_inb_nn, F_at_nn, F_put_nn, Nat.zero_add, Nat.add_zero, z_P_some, z_R_some, z_P_bd]
    · simp (disch := omega) only [F_X11_seems, e2, dem_ok, dem_no, demT_ok, demT_no, z_bt_l, z_bt_r, z_try_l, z_try_r, nl_I, nl_N, nl_IN, nl_NI, may_okU, may_noU, z_up_at, z_up_i, z_up_r, ↓reduceIte, ↓z_letE, ↓z_bdE, nn_l2, nn_add, nn_mul, nn_sub, nn_addM, nn_div, nn_rem, nn_min, nn_max, nn_abs, nn_ltT, nn_ltF, nn_leT, nn_leF, nn_eqT, nn_eqF, nn_eqM, nn_Meq, nn_ltM, nn_Mlt, nn_leM, nn_Mle, z_ix_nn, z_inb_nn, F_at_nn, F_put_nn, Nat.zero_add, Nat.add_zero, z_P_some, z_R_some, z_P_bd]
set_option maxHeartbeats 4000000 in
theorem T_dipped {o n : Nat} {a1 a2 : Int32} {D : z_Dat} (hJ : J o n D) : TOP (F_L_dipped o a1 a2 D) (F_X11_dipped a1 a2) (J o n) := by
  obtain ⟨ho, ns, pe, rv, hB⟩ := id hJ
  obtain ⟨⟨hns, hpe, hrv⟩, ⟨c5, c6, c7⟩, ⟨k19, k20, k21⟩, hV, hH⟩ := id hB.1
  rcases has_or (m := ns) (by omega) a2 with ⟨b, hb, rfl, ew⟩ | ⟨hout, ew⟩
  · rcases shade_or a1 with ⟨s, hs, rfl, e1, e2⟩ | ⟨e1, e2⟩
    · refine TOP_r hJ rfl (fun G hK => ?_)
      have g19 : G 40 19 = nn ns := by rw [hK.2.1 19 (by unfold KK; omega)]; exact k19
      obtain ⟨v, hv, v0, ⟨v1, v2, v3⟩, v4⟩ := (upC hB hK).1.2.2.2.1 b hb
      have eD := dippedIn_e (D' := z_up G 40 0 (nn 0)) hs (by omega) hv v1 v2 v3
      simp (disch := omega) only [F_X10_dipped, F_X1_hasStreet, F_X1_vatOf, c5, v0, e1, F_X11_dipped, F_X11_isStreet, g19, ew, e2, eD, deeper_10, dem_ok, dem_no, demT_ok, demT_no, z_bt_l, z_bt_r, z_try_l, z_try_r, nl_I, nl_N, nl_IN, nl_NI, may_okU, may_noU, z_up_at, z_up_i, z_up_r, ↓reduceIte, ↓z_letE, ↓z_bdE, nn_l2, nn_add, nn_mul, nn_sub, nn_addM, nn_div, nn_rem, nn_min, nn_max, nn_abs, nn_ltT, nn_ltF, nn_leT, nn_leF, nn_eqT, nn_eqF, nn_eqM, nn_Meq, nn_ltM, nn_Mlt, nn_leM, nn_Mle, z_ix_nn, z_inb_nn, F_at_nn, F_put_nn, Nat.zero_add, Nat.add_zero, z_P_some, z_R_some, z_P_bd]
      exact ⟨_, _, rfl, KA.rf, rfl, by simp (disch := omega) only [z_up_at], up67, upK⟩
    · refine TOP_t (c := 2) (k := 1) hJ (by decide) (by decide) (by decide) ?_ (fun G hG => ?_)
      · simp (disch := omega) only [F_L_dipped, F_X10_dipped, F_X1_hasStreet, c5, e1, dem_ok, dem_no, demT_ok, demT_no, z_bt_l, z_bt_r, z_try_l, z_try_r, nl_I, nl_N, nl_IN, nl_NI, may_okU, may_noU, z_up_at, z_up_i, z_up_r, ↓reduceIte, ↓z_letE, ↓z_bdE, nn_l2, nn_add, nn_mul, nn_sub, nn_addM, nn_div, nn_rem, nn_min, nn_max, nn_abs, nn_ltT, nn_ltF, nn_leT, nn_leF, nn_eqT, nn_eqF, nn_eqM, nn_Meq, nn_ltM, nn_Mlt, nn_leM, nn_Mle, z_ix_nn, z_inb_nn, F_at_nn, F_put_nn, Nat.zero_add, Nat.add_zero, z_P_some, z_R_some, z_P_bd]
      · have g19 : G 40 19 = nn ns := by rw [hG 40 (by decide)]; exact k19
        simp (disch := omega) only [F_X11_dipped, F_X11_isStreet, g19, ew, e2, dem_ok, dem_no, demT_ok, demT_no, z_bt_l, z_bt_r, z_try_l, z_try_r, nl_I, nl_N, nl_IN, nl_NI, may_okU, may_noU, z_up_at, z_up_i, z_up_r, ↓reduceIte, ↓z_letE, ↓z_bdE, nn_l2, nn_add, nn_mul, nn_sub, nn_addM, nn_div, nn_rem, nn_min, nn_max, nn_abs, nn_ltT, nn_ltF, nn_leT, nn_leF, nn_eqT, nn_eqF, nn_eqM, nn_Meq, nn_ltM, nn_Mlt, nn_leM, nn_Mle, z_ix_nn, z_inb_nn, F_at_nn, F_put_nn, Nat.zero_add, Nat.add_zero, z_P_some, z_R_some, z_P_bd]
  · refine TOP_t (c := 1) (k := 0) hJ (by decide) (by decide) (by decide) ?_ (fun G hG => ?_)
    · rcases hout with h | h
      · simp (disch := omega) only [F_L_dipped, F_X10_dipped, F_X1_hasStreet, c5, h, dem_ok, dem_no, demT_ok, demT_no, z_bt_l, z_bt_r, z_try_l, z_try_r, nl_I, nl_N, nl_IN, nl_NI, may_okU, may_noU, z_up_at, z_up_i, z_up_r, ↓reduceIte, ↓z_letE, ↓z_bdE, nn_l2, nn_add, nn_mul, nn_sub, nn_addM, nn_div, nn_rem, nn_min, nn_max, nn_abs, nn_ltT, nn_ltF, nn_leT, nn_leF, nn_eqT, nn_eqF, nn_eqM, nn_Meq, nn_ltM, nn_Mlt, nn_leM, nn_Mle, z_ix_nn, z_inb_nn, F_at_nn, F_put_nn, Nat.zero_add, Nat.add_zero, z_P_some, z_R_some, z_P_bd]
      · simp (disch := omega) only [F_L_dipped, F_X10_dipped, F_X1_hasStreet, c5, h.1, h.2, dem_ok, dem_no, demT_ok, demT_no, z_bt_l, z_bt_r, z_try_l, z_try_r, nl_I, nl_N, nl_IN, nl_NI, may_okU, may_noU, z_up_at, z_up_i, z_up_r, ↓reduceIte, ↓z_letE, ↓z_bdE, nn_l2, nn_add, nn_mul, nn_sub, nn_addM, nn_div, nn_rem, nn_min, nn_max, nn_abs, nn_ltT, nn_ltF, nn_leT, nn_leF, nn_eqT, nn_eqF, nn_eqM, nn_Meq, nn_ltM, nn_Mlt, nn_leM, nn_Mle, z_ix_nn, z_inb_nn, F_at_nn, F_put_nn, Nat.zero_add, Nat.add_zero, z_P_some, z_R_some, z_P_bd]
    · have g19 : G 40 19 = nn ns := by rw [hG 40 (by decide)]; exact k19
      simp (disch := omega) only [F_X11_dipped, F_X11_isStreet, g19, ew, dem_ok, dem_no, demT_ok, demT_no, z_bt_l, z_bt_r, z_try_l, z_try_r, nl_I, nl_N, nl_IN, nl_NI, may_okU, may_noU, z_up_at, z_up_i, z_up_r, ↓reduceIte, ↓z_letE, ↓z_bdE, nn_l2, nn_add, nn_mul, nn_sub, nn_addM, nn_div, nn_rem, nn_min, nn_max, nn_abs, nn_ltT, nn_ltF, nn_leT, nn_leF, nn_eqT, nn_eqF, nn_eqM, nn_Meq, nn_ltM, nn_Mlt, nn_leM, nn_Mle, z_ix_nn, z_inb_nn, F_at_nn, F_put_nn, Nat.zero_add, Nat.add_zero, z_P_some, z_R_some, z_P_bd]
theorem T_cousins {N o n : Nat} {D : z_Dat} (hN : 200 < N) (hJ : J o n D) : ∃ r1 : Int32, ∃ r2 : Int32, ∃ D1 : z_Dat, F_X10_cousins N o D = some r1 ∧ F_X11_cousins N D = some (r2, D1) ∧ r1 = r2 ∧ J o n D1 := by
  obtain ⟨ho, ns, pe, rv, hB⟩ := id hJ
  obtain ⟨⟨hns, hpe, hrv⟩, ⟨c5, c6, c7⟩, -, -, -⟩ := id hB.1
  have key : z_R (F_X10_cousins N o D) (F_X11_cousins N D) (fun a c => c.1 = a ∧ KA D c.2) := by
    simp (disch := omega) only [F_X10_cousins, F_X11_cousins, c6, dem_ok, dem_no, demT_ok, demT_no, z_bt_l, z_bt_r, z_try_l, z_try_r, nl_I, nl_N, nl_IN, nl_NI, may_okU, may_noU, z_up_at, z_up_i, z_up_r, ↓reduceIte, ↓z_letE, ↓z_bdE, nn_l2, nn_add, nn_mul, nn_sub, nn_addM, nn_div, nn_rem, nn_min, nn_max, nn_abs, nn_ltT, nn_ltF, nn_leT, nn_leF, nn_eqT, nn_eqF, nn_eqM, nn_Meq, nn_ltM, nn_Mlt, nn_leM, nn_Mle, z_ix_nn, z_inb_nn, F_at_nn, F_put_nn, Nat.zero_add, Nat.add_zero, z_P_some, z_R_some, z_P_bd]
    refine z_R_take hN hB KA.rf (fun G2 hA => ?_)
    obtain ⟨A1, A2, A3, A4, A5, A6⟩ := hA
    obtain ⟨a, c, m1, m2, rfl, -⟩ := mean_R (N := N) (t := 3) (by omega) hpe A2 A1.2.2.1.2.1
    rw [m1, z_bdE, m2, z_bdE, z_R_some]
    exact ⟨rfl, A6⟩
  obtain ⟨a, c, m1, m2, h1, h2⟩ := key
  exact ⟨a, c.1, c.2, m1, m2, h1.symm, hJ.keep h2⟩
theorem T_fault {o n : Nat} {D : z_Dat} (hJ : J o n D) : ∃ r2 : Int32, ∃ D1 : z_Dat, F_X11_fault D = (r2, D1) ∧ F_X10_fault D = r2 ∧ J o n D1 := by
  obtain ⟨ho, ns, pe, rv, hB⟩ := id hJ
  refine ⟨_, _, rfl, ?_, hJ.keep upK⟩
  obtain ⟨-, -, -, -, -, -, ⟨-, -, hx⟩, -⟩ := hB
  show D 1 6 = z_up D 40 0 0 40 8
  rw [z_up_i (by decide)]
  exact hx
theorem TOP_tt {β : Type} {o n c k : Nat} {D : z_Dat} {FL : Option (Int32 × z_Dat)} {FM : z_Dat → Option (β × z_Dat)} (hJ : J o n D) (hc : 1 ≤ c) (hc2 : c ≤ 2) (hk : k < 2) (hFL : FL = some (nn c, z_up D 0 (13 + k) (D 0 (13 + k) + nn 1)))
    (hFM : ∀ G : z_Dat, (∀ r, r ≠ 0 → G r = D r) → z_P (FM G) (fun x => x.2 = z_up (z_up (z_up G 40 0 (nn 0)) 40 0 (nn c)) 41 k (G 41 k + nn 1))) : ∃ (r1 : Int32) (x : β) (D1 D2 : z_Dat), FL = some (r1, D1) ∧ FM D1 = some (x, D2) ∧ F_X11_thrown D2 = r1 ∧ ¬ r1 = 0 ∧ J o n D2 := by
  obtain ⟨⟨x, E⟩, m1, m2⟩ := hFM (z_up D 0 (13 + k) (D 0 (13 + k) + nn 1)) (fun r hr => z_up_ne hr)
  have m2 : E = _ := m2
  subst m2
  refine ⟨nn c, x, _, _, hFL, m1, ?_, fun h => ?_, ?_⟩
  · unfold F_X11_thrown
    simp (disch := omega) only [z_up_r, z_up_at]
  · exact absurd (nn_inj (a := c) (b := 0) (by omega) (by omega) h) (by omega)
  · obtain ⟨h1, ns, pe, rv, hB⟩ := id hJ
    refine ⟨h1, ns, pe, rv, hB.keepM hJ.ho ⟨fun r a b c d => ?_, fun j hj => ?_, by rw [z_up_r (by decide), z_up_r (by decide), z_up_r (by decide), z_up_r (by decide)]⟩ ?_⟩
    · rw [z_up_ne d, z_up_ne b.1, z_up_ne b.1, z_up_ne c]
    · rw [z_up_r (by decide), z_up_i (by unfold KK at hj; omega), z_up_i (by unfold KK at hj; omega), z_up_r (by decide)]
    · obtain ⟨-, -, -, -, -, -, -, x1, x2, x3⟩ := hB
      have hk2 : k = 0 ∨ k = 1 := by omega
      rcases hk2 with rfl | rfl
      · refine ⟨?_, ?_, ?_⟩ <;> simp (disch := omega) only [z_up_r, z_up_at, z_up_i, x1, x2, x3, Nat.add_zero]
      · refine ⟨?_, ?_, ?_⟩ <;> simp (disch := omega) only [z_up_r, z_up_at, z_up_i, x1, x2, x3]
theorem wi_or {m : Nat} (hm : m < 2147483648) (a : Int32) : (∃ b, b ≤ m ∧ a = nn b ∧ F_X11_within a (nn 0) (nn m) = nn 1) ∨ ((a < nn 0 ∨ (¬ a < nn 0 ∧ nn m < a)) ∧ F_X11_within a (nn 0) (nn m) = nn 0) := by
  rcases in_or hm a with ⟨b, hb, rfl⟩ | h
  · exact Or.inl ⟨b, hb, rfl, within_in hb hm⟩
  · exact Or.inr ⟨h, within_out (by rcases h with h | h; exact Or.inl h; exact Or.inr h.2)⟩
set_option maxHeartbeats 4000000 in
theorem T_would {N o n : Nat} {a1 a2 a3 a4 a5 a6 : Int32} {D : z_Dat} (hN : 200 < N) (hJ : J o n D) : ∃ r1 : Int32, ∃ r2 : Int32, ∃ D1 : z_Dat, ∃ D2 : z_Dat, (F_L_would N a1 a2 a3 a4 a5 a6 D = some (r1, D1)) ∧ (F_X11_would N a1 a2 a3 a4 a5 a6 D1 = some (r2, D2)) ∧ ((F_X11_thrown D2) = r1) ∧ (r1 = 0 → lg_cmp ((z_ldJ D2 67 0)) (if r2 = 0 then 0 else 1) = 0) ∧ J o n D2 := by
  obtain ⟨ho, ns, pe, rv, hB⟩ := id hJ
  have bad : F_L_would N a1 a2 a3 a4 a5 a6 D = some (nn 1, z_up D 0 (13 + 1) (D 0 (13 + 1) + nn 1)) → (∀ G : z_Dat, F_X11_would N a1 a2 a3 a4 a5 a6 G = some (nn 0, z_up (z_up (z_up G 40 0 (nn 0)) 40 0 (nn 1)) 41 1 (G 41 1 + nn 1))) → ∃ r1 : Int32, ∃ r2 : Int32, ∃ D1 : z_Dat, ∃ D2 : z_Dat, (F_L_would N a1 a2 a3 a4 a5 a6 D = some (r1, D1)) ∧ (F_X11_would N a1 a2 a3 a4 a5 a6 D1 = some (r2, D2)) ∧ ((F_X11_thrown D2) = r1) ∧ (r1 = 0 → lg_cmp ((z_ldJ D2 67 0)) (if r2 = 0 then 0 else 1) = 0) ∧ J o n D2 := fun h1 h2 => by
    obtain ⟨r1, x, D1, D2, e1, e2, e3, e4, e5⟩ := TOP_tt (c := 1) (k := 1) (FM := F_X11_would N a1 a2 a3 a4 a5 a6) hJ (by decide) (by decide) (by decide) h1 (fun G _ => ⟨_, h2 G, rfl⟩)
    exact ⟨r1, x, D1, D2, e1, e2, e3, fun h => absurd h e4, e5⟩
  rcases shade_or a1 with ⟨s, hs, rfl, e1, e2⟩ | ⟨e1, e2⟩
  · rcases wi_or (m := 400) (by decide) a2 with ⟨b2, hb2, rfl, w2⟩ | ⟨h2, w2⟩
    · rcases wi_or (m := 9) (by decide) a3 with ⟨b3, hb3, rfl, w3⟩ | ⟨h3, w3⟩
      · rcases wi_or (m := 99) (by decide) a4 with ⟨b4, hb4, rfl, w4⟩ | ⟨h4, w4⟩
        · rcases wi_or (m := 300) (by decide) a5 with ⟨b5, hb5, rfl, w5⟩ | ⟨h5, w5⟩
          · rcases wi_or (m := 1) (by decide) a6 with ⟨b6, hb6, rfl, w6⟩ | ⟨h6, w6⟩
            · obtain ⟨a, c, m1, m2, x1, x2, x3, x4⟩ := seats_R (a1 := nn b2) (a2 := nn b3) (a3 := nn b4) (a4 := nn b5) (a5 := nn b6) hN hs hB.2.2.1
              have hFX : F_X10_would N (nn s) (nn b2) (nn b3) (nn b4) (nn b5) (nn b6) D = some (.inl (a.1, a.2)) := by
                simp (disch := omega) only [F_X10_would, F_X10_would_J34x, F_X10_would_J79x, e1, m1, dem_ok, dem_no, demT_ok, demT_no, z_bt_l, z_bt_r, z_try_l, z_try_r, nl_I, nl_N, nl_IN, nl_NI, may_okU, may_noU, z_up_at, z_up_i, z_up_r, ↓reduceIte, ↓z_letE, ↓z_bdE, nn_l2, nn_add, nn_mul, nn_sub, nn_addM, nn_div, nn_rem, nn_min, nn_max, nn_abs, nn_ltT, nn_ltF, nn_leT, nn_leF, nn_eqT, nn_eqF, nn_eqM, nn_Meq, nn_ltM, nn_Mlt, nn_leM, nn_Mle, z_ix_nn, z_inb_nn, F_at_nn, F_put_nn, Nat.zero_add, Nat.add_zero, z_P_some, z_R_some, z_P_bd]
              have hKe := KA.fs x3
              have main : ∀ x : Int64, F_L_would N (nn s) (nn b2) (nn b3) (nn b4) (nn b5) (nn b6) D = some (0, z_upJ a.2 67 0 x) → x = (if a.1 = 0 then 0 else 1) → ∃ r1 : Int32, ∃ r2 : Int32, ∃ D1 : z_Dat, ∃ D2 : z_Dat, (F_L_would N (nn s) (nn b2) (nn b3) (nn b4) (nn b5) (nn b6) D = some (r1, D1)) ∧ (F_X11_would N (nn s) (nn b2) (nn b3) (nn b4) (nn b5) (nn b6) D1 = some (r2, D2)) ∧ ((F_X11_thrown D2) = r1) ∧ (r1 = 0 → lg_cmp ((z_ldJ D2 67 0)) (if r2 = 0 then 0 else 1) = 0) ∧ J o n D2 := fun x hx hxx => by
                have hK : KA D (z_upJ a.2 67 0 x) := KA.upJ hKe
                obtain ⟨a', c', m1', m2', x1', x2', x3', x4'⟩ := seats_R (a1 := nn b2) (a2 := nn b3) (a3 := nn b4) (a4 := nn b5) (a5 := nn b6) hN hs (upC hB hK).2
                rw [m1] at m1'
                cases m1'
                refine ⟨0, c'.1, _, c'.2, hx, ?_, ?_, fun _ => ?_, hJ.keep ((hK.tr upK).tr (KA.fs' x4'))⟩
                · simp (disch := omega) only [F_X11_would, F_X11_would_J72x, e2, w2, w3, w4, w5, w6, m2', dem_ok, dem_no, demT_ok, demT_no, z_bt_l, z_bt_r, z_try_l, z_try_r, nl_I, nl_N, nl_IN, nl_NI, may_okU, may_noU, z_up_at, z_up_i, z_up_r, ↓reduceIte, ↓z_letE, ↓z_bdE, nn_l2, nn_add, nn_mul, nn_sub, nn_addM, nn_div, nn_rem, nn_min, nn_max, nn_abs, nn_ltT, nn_ltF, nn_leT, nn_leF, nn_eqT, nn_eqF, nn_eqM, nn_Meq, nn_ltM, nn_Mlt, nn_leM, nn_Mle, z_ix_nn, z_inb_nn, F_at_nn, F_put_nn, Nat.zero_add, Nat.add_zero, z_P_some, z_R_some, z_P_bd]
                · unfold F_X11_thrown
                  rw [x4' 40 (by decide) (by decide), z_up_at rfl rfl]
                  rfl
                · have e67 : c'.2 67 = (z_upJ a.2 67 0 x) 67 := by rw [x4' 67 (by decide) (by decide), up67]
                  rw [ld_row e67, z_upJ_same, ← x1', hxx]
                  exact lg_self _
              rcases x2 with x2 | x2
              · refine main 0 ?_ (by rw [x2]; rfl)
                simp (disch := omega) only [F_L_would, hFX, x2, dem_ok, dem_no, demT_ok, demT_no, z_bt_l, z_bt_r, z_try_l, z_try_r, nl_I, nl_N, nl_IN, nl_NI, may_okU, may_noU, z_up_at, z_up_i, z_up_r, ↓reduceIte, ↓z_letE, ↓z_bdE, nn_l2, nn_add, nn_mul, nn_sub, nn_addM, nn_div, nn_rem, nn_min, nn_max, nn_abs, nn_ltT, nn_ltF, nn_leT, nn_leF, nn_eqT, nn_eqF, nn_eqM, nn_Meq, nn_ltM, nn_Mlt, nn_leM, nn_Mle, z_ix_nn, z_inb_nn, F_at_nn, F_put_nn, Nat.zero_add, Nat.add_zero, z_P_some, z_R_some, z_P_bd]
              · refine main 1 ?_ (by rw [x2]; rfl)
                simp (disch := omega) only [F_L_would, hFX, x2, dem_ok, dem_no, demT_ok, demT_no, z_bt_l, z_bt_r, z_try_l, z_try_r, nl_I, nl_N, nl_IN, nl_NI, may_okU, may_noU, z_up_at, z_up_i, z_up_r, ↓reduceIte, ↓z_letE, ↓z_bdE, nn_l2, nn_add, nn_mul, nn_sub, nn_addM, nn_div, nn_rem, nn_min, nn_max, nn_abs, nn_ltT, nn_ltF, nn_leT, nn_leF, nn_eqT, nn_eqF, nn_eqM, nn_Meq, nn_ltM, nn_Mlt, nn_leM, nn_Mle, z_ix_nn, z_inb_nn, F_at_nn, F_put_nn, Nat.zero_add, Nat.add_zero, z_P_some, z_R_some, z_P_bd]
            · refine bad ?_ (fun G => ?_)
              · rcases h6 with h | h
                · simp (disch := omega) only [F_L_would, F_X10_would, F_X10_would_J34x, F_X10_would_J78, F_X10_would_J79, e1, h, dem_ok, dem_no, demT_ok, demT_no, z_bt_l, z_bt_r, z_try_l, z_try_r, nl_I, nl_N, nl_IN, nl_NI, may_okU, may_noU, z_up_at, z_up_i, z_up_r, ↓reduceIte, ↓z_letE, ↓z_bdE, nn_l2, nn_add, nn_mul, nn_sub, nn_addM, nn_div, nn_rem, nn_min, nn_max, nn_abs, nn_ltT, nn_ltF, nn_leT, nn_leF, nn_eqT, nn_eqF, nn_eqM, nn_Meq, nn_ltM, nn_Mlt, nn_leM, nn_Mle, z_ix_nn, z_inb_nn, F_at_nn, F_put_nn, Nat.zero_add, Nat.add_zero, z_P_some, z_R_some, z_P_bd]
                · simp (disch := omega) only [F_L_would, F_X10_would, F_X10_would_J34x, F_X10_would_J78, F_X10_would_J79, e1, h.1, h.2, dem_ok, dem_no, demT_ok, demT_no, z_bt_l, z_bt_r, z_try_l, z_try_r, nl_I, nl_N, nl_IN, nl_NI, may_okU, may_noU, z_up_at, z_up_i, z_up_r, ↓reduceIte, ↓z_letE, ↓z_bdE, nn_l2, nn_add, nn_mul, nn_sub, nn_addM, nn_div, nn_rem, nn_min, nn_max, nn_abs, nn_ltT, nn_ltF, nn_leT, nn_leF, nn_eqT, nn_eqF, nn_eqM, nn_Meq, nn_ltM, nn_Mlt, nn_leM, nn_Mle, z_ix_nn, z_inb_nn, F_at_nn, F_put_nn, Nat.zero_add, Nat.add_zero, z_P_some, z_R_some, z_P_bd]
              · simp (disch := omega) only [F_X11_would, F_X11_would_J71, F_X11_would_J72, e2, w2, w3, w4, w5, w6, dem_ok, dem_no, demT_ok, demT_no, z_bt_l, z_bt_r, z_try_l, z_try_r, nl_I, nl_N, nl_IN, nl_NI, may_okU, may_noU, z_up_at, z_up_i, z_up_r, ↓reduceIte, ↓z_letE, ↓z_bdE, nn_l2, nn_add, nn_mul, nn_sub, nn_addM, nn_div, nn_rem, nn_min, nn_max, nn_abs, nn_ltT, nn_ltF, nn_leT, nn_leF, nn_eqT, nn_eqF, nn_eqM, nn_Meq, nn_ltM, nn_Mlt, nn_leM, nn_Mle, z_ix_nn, z_inb_nn, F_at_nn, F_put_nn, Nat.zero_add, Nat.add_zero, z_P_some, z_R_some, z_P_bd]
          · refine bad ?_ (fun G => ?_)
            · rcases h5 with h | h
              · simp (disch := omega) only [F_L_would, F_X10_would, F_X10_would_J34x, F_X10_would_J78, F_X10_would_J79, e1, h, dem_ok, dem_no, demT_ok, demT_no, z_bt_l, z_bt_r, z_try_l, z_try_r, nl_I, nl_N, nl_IN, nl_NI, may_okU, may_noU, z_up_at, z_up_i, z_up_r, ↓reduceIte, ↓z_letE, ↓z_bdE, nn_l2, nn_add, nn_mul, nn_sub, nn_addM, nn_div, nn_rem, nn_min, nn_max, nn_abs, nn_ltT, nn_ltF, nn_leT, nn_leF, nn_eqT, nn_eqF, nn_eqM, nn_Meq, nn_ltM, nn_Mlt, nn_leM, nn_Mle, z_ix_nn, z_inb_nn, F_at_nn, F_put_nn, Nat.zero_add, Nat.add_zero, z_P_some, z_R_some, z_P_bd]
              · simp (disch := omega) only [F_L_would, F_X10_would, F_X10_would_J34x, F_X10_would_J78, F_X10_would_J79, e1, h.1, h.2, dem_ok, dem_no, demT_ok, demT_no, z_bt_l, z_bt_r, z_try_l, z_try_r, nl_I, nl_N, nl_IN, nl_NI, may_okU, may_noU, z_up_at, z_up_i, z_up_r, ↓reduceIte, ↓z_letE, ↓z_bdE, nn_l2, nn_add, nn_mul, nn_sub, nn_addM, nn_div, nn_rem, nn_min, nn_max, nn_abs, nn_ltT, nn_ltF, nn_leT, nn_leF, nn_eqT, nn_eqF, nn_eqM, nn_Meq, nn_ltM, nn_Mlt, nn_leM, nn_Mle, z_ix_nn, z_inb_nn, F_at_nn, F_put_nn, Nat.zero_add, Nat.add_zero, z_P_some, z_R_some, z_P_bd]
            · simp (disch := omega) only [F_X11_would, F_X11_would_J71, F_X11_would_J72, e2, w2, w3, w4, w5, dem_ok, dem_no, demT_ok, demT_no, z_bt_l, z_bt_r, z_try_l, z_try_r, nl_I, nl_N, nl_IN, nl_NI, may_okU, may_noU, z_up_at, z_up_i, z_up_r, ↓reduceIte, ↓z_letE, ↓z_bdE, nn_l2, nn_add, nn_mul, nn_sub, nn_addM, nn_div, nn_rem, nn_min, nn_max, nn_abs, nn_ltT, nn_ltF, nn_leT, nn_leF, nn_eqT, nn_eqF, nn_eqM, nn_Meq, nn_ltM, nn_Mlt, nn_leM, nn_Mle, z_ix_nn, z_inb_nn, F_at_nn, F_put_nn, Nat.zero_add, Nat.add_zero, z_P_some, z_R_some, z_P_bd]
        · refine bad ?_ (fun G => ?_)
          · rcases h4 with h | h
            · simp (disch := omega) only [F_L_would, F_X10_would, F_X10_would_J34x, F_X10_would_J78, F_X10_would_J79, e1, h, dem_ok, dem_no, demT_ok, demT_no, z_bt_l, z_bt_r, z_try_l, z_try_r, nl_I, nl_N, nl_IN, nl_NI, may_okU, may_noU, z_up_at, z_up_i, z_up_r, ↓reduceIte, ↓z_letE, ↓z_bdE, nn_l2, nn_add, nn_mul, nn_sub, nn_addM, nn_div, nn_rem, nn_min, nn_max, nn_abs, nn_ltT, nn_ltF, nn_leT, nn_leF, nn_eqT, nn_eqF, nn_eqM, nn_Meq, nn_ltM, nn_Mlt, nn_leM, nn_Mle, z_ix_nn, z_inb_nn, F_at_nn, F_put_nn, Nat.zero_add, Nat.add_zero, z_P_some, z_R_some, z_P_bd]
            · simp (disch := omega) only [F_L_would, F_X10_would, F_X10_would_J34x, F_X10_would_J78, F_X10_would_J79, e1, h.1, h.2, dem_ok, dem_no, demT_ok, demT_no, z_bt_l, z_bt_r, z_try_l, z_try_r, nl_I, nl_N, nl_IN, nl_NI, may_okU, may_noU, z_up_at, z_up_i, z_up_r, ↓reduceIte, ↓z_letE, ↓z_bdE, nn_l2, nn_add, nn_mul, nn_sub, nn_addM, nn_div, nn_rem, nn_min, nn_max, nn_abs, nn_ltT, nn_ltF, nn_leT, nn_leF, nn_eqT, nn_eqF, nn_eqM, nn_Meq, nn_ltM, nn_Mlt, nn_leM, nn_Mle, z_ix_nn, z_inb_nn, F_at_nn, F_put_nn, Nat.zero_add, Nat.add_zero, z_P_some, z_R_some, z_P_bd]
          · simp (disch := omega) only [F_X11_would, F_X11_would_J71, F_X11_would_J72, e2, w2, w3, w4, dem_ok, dem_no, demT_ok, demT_no, z_bt_l, z_bt_r, z_try_l, z_try_r, nl_I, nl_N, nl_IN, nl_NI, may_okU, may_noU, z_up_at, z_up_i, z_up_r, ↓reduceIte, ↓z_letE, ↓z_bdE, nn_l2, nn_add, nn_mul, nn_sub, nn_addM, nn_div, nn_rem, nn_min, nn_max, nn_abs, nn_ltT, nn_ltF, nn_leT, nn_leF, nn_eqT, nn_eqF, nn_eqM, nn_Meq, nn_ltM, nn_Mlt, nn_leM, nn_Mle, z_ix_nn, z_inb_nn, F_at_nn, F_put_nn, Nat.zero_add, Nat.add_zero, z_P_some, z_R_some, z_P_bd]
      · refine bad ?_ (fun G => ?_)
        · rcases h3 with h | h
          · simp (disch := omega) only [F_L_would, F_X10_would, F_X10_would_J33, F_X10_would_J34, e1, h, dem_ok, dem_no, demT_ok, demT_no, z_bt_l, z_bt_r, z_try_l, z_try_r, nl_I, nl_N, nl_IN, nl_NI, may_okU, may_noU, z_up_at, z_up_i, z_up_r, ↓reduceIte, ↓z_letE, ↓z_bdE, nn_l2, nn_add, nn_mul, nn_sub, nn_addM, nn_div, nn_rem, nn_min, nn_max, nn_abs, nn_ltT, nn_ltF, nn_leT, nn_leF, nn_eqT, nn_eqF, nn_eqM, nn_Meq, nn_ltM, nn_Mlt, nn_leM, nn_Mle, z_ix_nn, z_inb_nn, F_at_nn, F_put_nn, Nat.zero_add, Nat.add_zero, z_P_some, z_R_some, z_P_bd]
          · simp (disch := omega) only [F_L_would, F_X10_would, F_X10_would_J33, F_X10_would_J34, e1, h.1, h.2, dem_ok, dem_no, demT_ok, demT_no, z_bt_l, z_bt_r, z_try_l, z_try_r, nl_I, nl_N, nl_IN, nl_NI, may_okU, may_noU, z_up_at, z_up_i, z_up_r, ↓reduceIte, ↓z_letE, ↓z_bdE, nn_l2, nn_add, nn_mul, nn_sub, nn_addM, nn_div, nn_rem, nn_min, nn_max, nn_abs, nn_ltT, nn_ltF, nn_leT, nn_leF, nn_eqT, nn_eqF, nn_eqM, nn_Meq, nn_ltM, nn_Mlt, nn_leM, nn_Mle, z_ix_nn, z_inb_nn, F_at_nn, F_put_nn, Nat.zero_add, Nat.add_zero, z_P_some, z_R_some, z_P_bd]
        · simp (disch := omega) only [F_X11_would, F_X11_would_J71, F_X11_would_J72, e2, w2, w3, dem_ok, dem_no, demT_ok, demT_no, z_bt_l, z_bt_r, z_try_l, z_try_r, nl_I, nl_N, nl_IN, nl_NI, may_okU, may_noU, z_up_at, z_up_i, z_up_r, ↓reduceIte, ↓z_letE, ↓z_bdE, nn_l2, nn_add, nn_mul, nn_sub, nn_addM, nn_div, nn_rem, nn_min, nn_max, nn_abs, nn_ltT, nn_ltF, nn_leT, nn_leF, nn_eqT, nn_eqF, nn_eqM, nn_Meq, nn_ltM, nn_Mlt, nn_leM, nn_Mle, z_ix_nn, z_inb_nn, F_at_nn, F_put_nn, Nat.zero_add, Nat.add_zero, z_P_some, z_R_some, z_P_bd]
    · refine bad ?_ (fun G => ?_)
      · rcases h2 with h | h
        · simp (disch := omega) only [F_L_would, F_X10_would, F_X10_would_J33, F_X10_would_J34, e1, h, dem_ok, dem_no, demT_ok, demT_no, z_bt_l, z_bt_r, z_try_l, z_try_r, nl_I, nl_N, nl_IN, nl_NI, may_okU, may_noU, z_up_at, z_up_i, z_up_r, ↓reduceIte, ↓z_letE, ↓z_bdE, nn_l2, nn_add, nn_mul, nn_sub, nn_addM, nn_div, nn_rem, nn_min, nn_max, nn_abs, nn_ltT, nn_ltF, nn_leT, nn_leF, nn_eqT, nn_eqF, nn_eqM, nn_Meq, nn_ltM, nn_Mlt, nn_leM, nn_Mle, z_ix_nn, z_inb_nn, F_at_nn, F_put_nn, Nat.zero_add, Nat.add_zero, z_P_some, z_R_some, z_P_bd]
        · simp (disch := omega) only [F_L_would, F_X10_would, F_X10_would_J33, F_X10_would_J34, e1, h.1, h.2, dem_ok, dem_no, demT_ok, demT_no, z_bt_l, z_bt_r, z_try_l, z_try_r, nl_I, nl_N, nl_IN, nl_NI, may_okU, may_noU, z_up_at, z_up_i, z_up_r, ↓reduceIte, ↓z_letE, ↓z_bdE, nn_l2, nn_add, nn_mul, nn_sub, nn_addM, nn_div, nn_rem, nn_min, nn_max, nn_abs, nn_ltT, nn_ltF, nn_leT, nn_leF, nn_eqT, nn_eqF, nn_eqM, nn_Meq, nn_ltM, nn_Mlt, nn_leM, nn_Mle, z_ix_nn, z_inb_nn, F_at_nn, F_put_nn, Nat.zero_add, Nat.add_zero, z_P_some, z_R_some, z_P_bd]
      · simp (disch := omega) only [F_X11_would, F_X11_would_J71, F_X11_would_J72, e2, w2, dem_ok, dem_no, demT_ok, demT_no, z_bt_l, z_bt_r, z_try_l, z_try_r, nl_I, nl_N, nl_IN, nl_NI, may_okU, may_noU, z_up_at, z_up_i, z_up_r, ↓reduceIte, ↓z_letE, ↓z_bdE, nn_l2, nn_add, nn_mul, nn_sub, nn_addM, nn_div, nn_rem, nn_min, nn_max, nn_abs, nn_ltT, nn_ltF, nn_leT, nn_leF, nn_eqT, nn_eqF, nn_eqM, nn_Meq, nn_ltM, nn_Mlt, nn_leM, nn_Mle, z_ix_nn, z_inb_nn, F_at_nn, F_put_nn, Nat.zero_add, Nat.add_zero, z_P_some, z_R_some, z_P_bd]
  · refine bad ?_ (fun G => ?_)
    · simp (disch := omega) only [F_L_would, F_X10_would, F_X10_would_J33, F_X10_would_J34, e1, dem_ok, dem_no, demT_ok, demT_no, z_bt_l, z_bt_r, z_try_l, z_try_r, nl_I, nl_N, nl_IN, nl_NI, may_okU, may_noU, z_up_at, z_up_i, z_up_r, ↓reduceIte, ↓z_letE, ↓z_bdE, nn_l2, nn_add, nn_mul, nn_sub, nn_addM, nn_div, nn_rem, nn_min, nn_max, nn_abs, nn_ltT, nn_ltF, nn_leT, nn_leF, nn_eqT, nn_eqF, nn_eqM, nn_Meq, nn_ltM, nn_Mlt, nn_leM, nn_Mle, z_ix_nn, z_inb_nn, F_at_nn, F_put_nn, Nat.zero_add, Nat.add_zero, z_P_some, z_R_some, z_P_bd]
    · simp (disch := omega) only [F_X11_would, F_X11_would_J71, F_X11_would_J72, e2, dem_ok, dem_no, demT_ok, demT_no, z_bt_l, z_bt_r, z_try_l, z_try_r, nl_I, nl_N, nl_IN, nl_NI, may_okU, may_noU, z_up_at, z_up_i, z_up_r, ↓reduceIte, ↓z_letE, ↓z_bdE, nn_l2, nn_add, nn_mul, nn_sub, nn_addM, nn_div, nn_rem, nn_min, nn_max, nn_abs, nn_ltT, nn_ltF, nn_leT, nn_leF, nn_eqT, nn_eqF, nn_eqM, nn_Meq, nn_ltM, nn_Mlt, nn_leM, nn_Mle, z_ix_nn, z_inb_nn, F_at_nn, F_put_nn, Nat.zero_add, Nat.add_zero, z_P_some, z_R_some, z_P_bd]
theorem T_status {o n : Nat} {a : Int32} {D : z_Dat} (hJ : J o n D) : ∃ r2 : Int32, ∃ D1 : z_Dat, (F_X11_status a D = some (r2, D1)) ∧ ((F_X10_status a D) = r2) ∧ J o n D1 := by
  obtain ⟨ho, ns, pe, rv, hB⟩ := id hJ
  obtain ⟨-, -, -, -, -, -, -, x1, x2, x3⟩ := hB
  rcases wi_or (m := 1) (by decide) a with ⟨b, hb, rfl, w⟩ | ⟨h, w⟩
  · have h2 : b = 0 ∨ b = 1 := by omega
    rcases h2 with rfl | rfl
    · exact ⟨D 41 0, z_up D 40 0 (nn 0), by simp (disch := omega) only [F_X11_status, w, dem_ok, dem_no, demT_ok, demT_no, z_bt_l, z_bt_r, z_try_l, z_try_r, nl_I, nl_N, nl_IN, nl_NI, may_okU, may_noU, z_up_at, z_up_i, z_up_r, ↓reduceIte, ↓z_letE, ↓z_bdE, nn_l2, nn_add, nn_mul, nn_sub, nn_addM, nn_div, nn_rem, nn_min, nn_max, nn_abs, nn_ltT, nn_ltF, nn_leT, nn_leF, nn_eqT, nn_eqF, nn_eqM, nn_Meq, nn_ltM, nn_Mlt, nn_leM, nn_Mle, z_ix_nn, z_inb_nn, F_at_nn, F_put_nn, Nat.zero_add, Nat.add_zero, z_P_some, z_R_some, z_P_bd], by simp (disch := omega) only [F_X10_status, x2, dem_ok, dem_no, demT_ok, demT_no, z_bt_l, z_bt_r, z_try_l, z_try_r, nl_I, nl_N, nl_IN, nl_NI, may_okU, may_noU, z_up_at, z_up_i, z_up_r, ↓reduceIte, ↓z_letE, ↓z_bdE, nn_l2, nn_add, nn_mul, nn_sub, nn_addM, nn_div, nn_rem, nn_min, nn_max, nn_abs, nn_ltT, nn_ltF, nn_leT, nn_leF, nn_eqT, nn_eqF, nn_eqM, nn_Meq, nn_ltM, nn_Mlt, nn_leM, nn_Mle, z_ix_nn, z_inb_nn, F_at_nn, F_put_nn, Nat.zero_add, Nat.add_zero, z_P_some, z_R_some, z_P_bd], hJ.keep upK⟩
    · exact ⟨D 41 1, z_up D 40 0 (nn 0), by simp (disch := omega) only [F_X11_status, w, dem_ok, dem_no, demT_ok, demT_no, z_bt_l, z_bt_r, z_try_l, z_try_r, nl_I, nl_N, nl_IN, nl_NI, may_okU, may_noU, z_up_at, z_up_i, z_up_r, ↓reduceIte, ↓z_letE, ↓z_bdE, nn_l2, nn_add, nn_mul, nn_sub, nn_addM, nn_div, nn_rem, nn_min, nn_max, nn_abs, nn_ltT, nn_ltF, nn_leT, nn_leF, nn_eqT, nn_eqF, nn_eqM, nn_Meq, nn_ltM, nn_Mlt, nn_leM, nn_Mle, z_ix_nn, z_inb_nn, F_at_nn, F_put_nn, Nat.zero_add, Nat.add_zero, z_P_some, z_R_some, z_P_bd], by simp (disch := omega) only [F_X10_status, x3, dem_ok, dem_no, demT_ok, demT_no, z_bt_l, z_bt_r, z_try_l, z_try_r, nl_I, nl_N, nl_IN, nl_NI, may_okU, may_noU, z_up_at, z_up_i, z_up_r, ↓reduceIte, ↓z_letE, ↓z_bdE, nn_l2, nn_add, nn_mul, nn_sub, nn_addM, nn_div, nn_rem, nn_min, nn_max, nn_abs, nn_ltT, nn_ltF, nn_leT, nn_leF, nn_eqT, nn_eqF, nn_eqM, nn_Meq, nn_ltM, nn_Mlt, nn_leM, nn_Mle, z_ix_nn, z_inb_nn, F_at_nn, F_put_nn, Nat.zero_add, Nat.add_zero, z_P_some, z_R_some, z_P_bd], hJ.keep upK⟩
  · refine ⟨-nn 1, z_up D 40 0 (nn 0), by simp (disch := omega) only [F_X11_status, w, dem_ok, dem_no, demT_ok, demT_no, z_bt_l, z_bt_r, z_try_l, z_try_r, nl_I, nl_N, nl_IN, nl_NI, may_okU, may_noU, z_up_at, z_up_i, z_up_r, ↓reduceIte, ↓z_letE, ↓z_bdE, nn_l2, nn_add, nn_mul, nn_sub, nn_addM, nn_div, nn_rem, nn_min, nn_max, nn_abs, nn_ltT, nn_ltF, nn_leT, nn_leF, nn_eqT, nn_eqF, nn_eqM, nn_Meq, nn_ltM, nn_Mlt, nn_leM, nn_Mle, z_ix_nn, z_inb_nn, F_at_nn, F_put_nn, Nat.zero_add, Nat.add_zero, z_P_some, z_R_some, z_P_bd], ?_, hJ.keep upK⟩
    have h0 : ¬ a = nn 0 := fun q => by
      subst q
      rcases h with h | h
      · rw [nn_ltF (by omega) (by omega)] at h; exact h
      · have := h.2; rw [nn_ltF (by omega) (by omega)] at this; exact this
    have h1 : ¬ a = nn 1 := fun q => by
      subst q
      rcases h with h | h
      · rw [nn_ltF (by omega) (by omega)] at h; exact h
      · have := h.2; rw [nn_ltF (by omega) (by omega)] at this; exact this
    simp (disch := omega) only [F_X10_status, h0, h1, dem_ok, dem_no, demT_ok, demT_no, z_bt_l, z_bt_r, z_try_l, z_try_r, nl_I, nl_N, nl_IN, nl_NI, may_okU, may_noU, z_up_at, z_up_i, z_up_r, ↓reduceIte, ↓z_letE, ↓z_bdE, nn_l2, nn_add, nn_mul, nn_sub, nn_addM, nn_div, nn_rem, nn_min, nn_max, nn_abs, nn_ltT, nn_ltF, nn_leT, nn_leF, nn_eqT, nn_eqF, nn_eqM, nn_Meq, nn_ltM, nn_Mlt, nn_leM, nn_Mle, z_ix_nn, z_inb_nn, F_at_nn, F_put_nn, Nat.zero_add, Nat.add_zero, z_P_some, z_R_some, z_P_bd]
theorem T_count {o n : Nat} {a : Int32} {D : z_Dat} (hJ : J o n D) : ∃ r2 : Int32, ∃ D1 : z_Dat, (F_X11_count a D = (r2, D1)) ∧ ((F_X10_count a D) = r2) ∧ J o n D1 := by
  obtain ⟨ho, ns, pe, rv, hB⟩ := id hJ
  obtain ⟨-, -, -, -, ⟨w, hw, p1, p2, -⟩, ⟨m, hm, i1, i2, -⟩, ⟨⟨fd, hfd, f1, f2⟩, -, -⟩, -⟩ := hB
  by_cases h0 : a = nn 0
  · exact ⟨nn m, z_up D 40 0 (nn 0), by simp (disch := omega) only [F_X11_count, h0, i2, dem_ok, dem_no, demT_ok, demT_no, z_bt_l, z_bt_r, z_try_l, z_try_r, nl_I, nl_N, nl_IN, nl_NI, may_okU, may_noU, z_up_at, z_up_i, z_up_r, ↓reduceIte, ↓z_letE, ↓z_bdE, nn_l2, nn_add, nn_mul, nn_sub, nn_addM, nn_div, nn_rem, nn_min, nn_max, nn_abs, nn_ltT, nn_ltF, nn_leT, nn_leF, nn_eqT, nn_eqF, nn_eqM, nn_Meq, nn_ltM, nn_Mlt, nn_leM, nn_Mle, z_ix_nn, z_inb_nn, F_at_nn, F_put_nn, Nat.zero_add, Nat.add_zero, z_P_some, z_R_some, z_P_bd], by simp (disch := omega) only [F_X10_count, h0, i1, dem_ok, dem_no, demT_ok, demT_no, z_bt_l, z_bt_r, z_try_l, z_try_r, nl_I, nl_N, nl_IN, nl_NI, may_okU, may_noU, z_up_at, z_up_i, z_up_r, ↓reduceIte, ↓z_letE, ↓z_bdE, nn_l2, nn_add, nn_mul, nn_sub, nn_addM, nn_div, nn_rem, nn_min, nn_max, nn_abs, nn_ltT, nn_ltF, nn_leT, nn_leF, nn_eqT, nn_eqF, nn_eqM, nn_Meq, nn_ltM, nn_Mlt, nn_leM, nn_Mle, z_ix_nn, z_inb_nn, F_at_nn, F_put_nn, Nat.zero_add, Nat.add_zero, z_P_some, z_R_some, z_P_bd], hJ.keep upK⟩
  · by_cases h1 : a = nn 1
    · exact ⟨nn fd, z_up D 40 0 (nn 0), by simp (disch := omega) only [F_X11_count, h1, f2, dem_ok, dem_no, demT_ok, demT_no, z_bt_l, z_bt_r, z_try_l, z_try_r, nl_I, nl_N, nl_IN, nl_NI, may_okU, may_noU, z_up_at, z_up_i, z_up_r, ↓reduceIte, ↓z_letE, ↓z_bdE, nn_l2, nn_add, nn_mul, nn_sub, nn_addM, nn_div, nn_rem, nn_min, nn_max, nn_abs, nn_ltT, nn_ltF, nn_leT, nn_leF, nn_eqT, nn_eqF, nn_eqM, nn_Meq, nn_ltM, nn_Mlt, nn_leM, nn_Mle, z_ix_nn, z_inb_nn, F_at_nn, F_put_nn, Nat.zero_add, Nat.add_zero, z_P_some, z_R_some, z_P_bd], by simp (disch := omega) only [F_X10_count, h1, f1, dem_ok, dem_no, demT_ok, demT_no, z_bt_l, z_bt_r, z_try_l, z_try_r, nl_I, nl_N, nl_IN, nl_NI, may_okU, may_noU, z_up_at, z_up_i, z_up_r, ↓reduceIte, ↓z_letE, ↓z_bdE, nn_l2, nn_add, nn_mul, nn_sub, nn_addM, nn_div, nn_rem, nn_min, nn_max, nn_abs, nn_ltT, nn_ltF, nn_leT, nn_leF, nn_eqT, nn_eqF, nn_eqM, nn_Meq, nn_ltM, nn_Mlt, nn_leM, nn_Mle, z_ix_nn, z_inb_nn, F_at_nn, F_put_nn, Nat.zero_add, Nat.add_zero, z_P_some, z_R_some, z_P_bd], hJ.keep upK⟩
    · by_cases h2 : a = nn 2
      · exact ⟨nn w, z_up D 40 0 (nn 0), by simp (disch := omega) only [F_X11_count, h2, p2, dem_ok, dem_no, demT_ok, demT_no, z_bt_l, z_bt_r, z_try_l, z_try_r, nl_I, nl_N, nl_IN, nl_NI, may_okU, may_noU, z_up_at, z_up_i, z_up_r, ↓reduceIte, ↓z_letE, ↓z_bdE, nn_l2, nn_add, nn_mul, nn_sub, nn_addM, nn_div, nn_rem, nn_min, nn_max, nn_abs, nn_ltT, nn_ltF, nn_leT, nn_leF, nn_eqT, nn_eqF, nn_eqM, nn_Meq, nn_ltM, nn_Mlt, nn_leM, nn_Mle, z_ix_nn, z_inb_nn, F_at_nn, F_put_nn, Nat.zero_add, Nat.add_zero, z_P_some, z_R_some, z_P_bd], by simp (disch := omega) only [F_X10_count, h2, p1, dem_ok, dem_no, demT_ok, demT_no, z_bt_l, z_bt_r, z_try_l, z_try_r, nl_I, nl_N, nl_IN, nl_NI, may_okU, may_noU, z_up_at, z_up_i, z_up_r, ↓reduceIte, ↓z_letE, ↓z_bdE, nn_l2, nn_add, nn_mul, nn_sub, nn_addM, nn_div, nn_rem, nn_min, nn_max, nn_abs, nn_ltT, nn_ltF, nn_leT, nn_leF, nn_eqT, nn_eqF, nn_eqM, nn_Meq, nn_ltM, nn_Mlt, nn_leM, nn_Mle, z_ix_nn, z_inb_nn, F_at_nn, F_put_nn, Nat.zero_add, Nat.add_zero, z_P_some, z_R_some, z_P_bd], hJ.keep upK⟩
      · exact ⟨-nn 1, z_up D 40 0 (nn 0), by simp (disch := omega) only [F_X11_count, h0, h1, h2, dem_ok, dem_no, demT_ok, demT_no, z_bt_l, z_bt_r, z_try_l, z_try_r, nl_I, nl_N, nl_IN, nl_NI, may_okU, may_noU, z_up_at, z_up_i, z_up_r, ↓reduceIte, ↓z_letE, ↓z_bdE, nn_l2, nn_add, nn_mul, nn_sub, nn_addM, nn_div, nn_rem, nn_min, nn_max, nn_abs, nn_ltT, nn_ltF, nn_leT, nn_leF, nn_eqT, nn_eqF, nn_eqM, nn_Meq, nn_ltM, nn_Mlt, nn_leM, nn_Mle, z_ix_nn, z_inb_nn, F_at_nn, F_put_nn, Nat.zero_add, Nat.add_zero, z_P_some, z_R_some, z_P_bd], by simp (disch := omega) only [F_X10_count, h0, h1, h2, dem_ok, dem_no, demT_ok, demT_no, z_bt_l, z_bt_r, z_try_l, z_try_r, nl_I, nl_N, nl_IN, nl_NI, may_okU, may_noU, z_up_at, z_up_i, z_up_r, ↓reduceIte, ↓z_letE, ↓z_bdE, nn_l2, nn_add, nn_mul, nn_sub, nn_addM, nn_div, nn_rem, nn_min, nn_max, nn_abs, nn_ltT, nn_ltF, nn_leT, nn_leF, nn_eqT, nn_eqF, nn_eqM, nn_Meq, nn_ltM, nn_Mlt, nn_leM, nn_Mle, z_ix_nn, z_inb_nn, F_at_nn, F_put_nn, Nat.zero_add, Nat.add_zero, z_P_some, z_R_some, z_P_bd], hJ.keep upK⟩
