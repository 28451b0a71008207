/-! ===== restore ===== -/
set_option maxHeartbeats 4000000 in
theorem T_restore {N o n : Nat} {D : z_Dat} (hN : 2000 < N) (hJ : J o n D) : ∃ r1 : Int32, ∃ r2 : Int32, ∃ D1 : z_Dat, ∃ D2 : z_Dat, (F_X10_restore N D = some (r1, D1)) ∧ (F_X11_restore N D1 = some (r2, D2)) ∧ (r1 = r2) ∧ J o n D2 := by
  obtain ⟨ho, ns, pe, rv, hB⟩ := id hJ
  obtain ⟨hC, hT, hL, hBk, ⟨w, hw, p1, p2, hP⟩, ⟨m, hm, i1, i2, hI⟩, hX, hMI⟩ := id hB
  have hoo := hJ.ho
  by_cases h0 : m = 0
  · subst h0
    refine ⟨-nn 1, -nn 1, D, z_up D 40 0 (nn 0), by simp (disch := omega) only [F_X10_restore, i1, dem_ok, dem_no, demT_ok, demT_no, z_bt_l, z_bt_r, z_try_l, z_try_r, nl_I, nl_N, nl_IN, nl_NI, may_okU, may_noU, z_up_at, z_up_i, z_up_r, ↓reduceIte, ↓z_letE, ↓z_bdE, nn_l2, nn_add, nn_mul, nn_sub, nn_addM, nn_div, nn_rem, nn_min, nn_max, nn_abs, nn_ltT, nn_ltF, nn_leT, nn_leF, nn_eqT, nn_eqF, nn_eqM, nn_Meq, nn_ltM, nn_Mlt, nn_leM, nn_Mle, z_ix_nn, z_inb_nn, F_at_nn, F_put_nn, Nat.zero_add, Nat.add_zero, z_P_some, z_R_some, z_P_bd], by simp (disch := omega) only [F_X11_restore, i2, dem_ok, dem_no, demT_ok, demT_no, z_bt_l, z_bt_r, z_try_l, z_try_r, nl_I, nl_N, nl_IN, nl_NI, may_okU, may_noU, z_up_at, z_up_i, z_up_r, ↓reduceIte, ↓z_letE, ↓z_bdE, nn_l2, nn_add, nn_mul, nn_sub, nn_addM, nn_div, nn_rem, nn_min, nn_max, nn_abs, nn_ltT, nn_ltF, nn_leT, nn_leF, nn_eqT, nn_eqF, nn_eqM, nn_Meq, nn_ltM, nn_Mlt, nn_leM, nn_Mle, z_ix_nn, z_inb_nn, F_at_nn, F_put_nn, Nat.zero_add, Nat.add_zero, z_P_some, z_R_some, z_P_bd], rfl, hJ.keep upK⟩
  · obtain ⟨hTm, v, hv, v1, v2, hPm⟩ := hI (m - 1) (by omega)
    have hcl : z_P (F_X10_restore N D) (fun a => a.1 = nn (m - 1) ∧ (∀ r, r ≠ 21 → r ≠ 4 → r ≠ 22 → r ≠ 0 → a.2 r = D r) ∧ a.2 21 4 = nn (m - 1) ∧ a.2 21 3 = nn v ∧ (∀ j, j < 44 → a.2 4 j = D 23 (748 * (m - 1) + j)) ∧ (∀ j, j < 44 * v → a.2 22 j = D 23 (748 * (m - 1) + 44 + j)) ∧ a.2 0 12 = nn 0 ∧ ∀ j, j ≠ 12 → a.2 0 j = D 0 j) := by
      simp (disch := omega) only [F_X10_restore, F_X4_bringBack, F_X9_loadFrom, i1, dem_ok, dem_no, demT_ok, demT_no, z_bt_l, z_bt_r, z_try_l, z_try_r, nl_I, nl_N, nl_IN, nl_NI, may_okU, may_noU, z_up_at, z_up_i, z_up_r, ↓reduceIte, ↓z_letE, ↓z_bdE, nn_l2, nn_add, nn_mul, nn_sub, nn_addM, nn_div, nn_rem, nn_min, nn_max, nn_abs, nn_ltT, nn_ltF, nn_leT, nn_leF, nn_eqT, nn_eqF, nn_eqM, nn_Meq, nn_ltM, nn_Mlt, nn_leM, nn_Mle, z_ix_nn, z_inb_nn, F_at_nn, F_put_nn, Nat.zero_add, Nat.add_zero, z_P_some, z_R_some, z_P_bd]
      refine z_P_mono (copy_P (a := (m - 1) * 748) (b := 0) (m := 44) (by decide) (by omega) (by decide) (by decide) (by decide) (by omega)) (fun E hE => ?_)
      obtain ⟨e1, e2, e3⟩ := hE
      have e24 : E 21 4 = nn (m - 1) := by rw [e1 21 (by decide), z_up_at rfl rfl]
      have ev : E 24 (m - 1) = nn v := by rw [e1 24 (by decide), z_up_ne (by decide)]; exact v1
      simp (disch := omega) only [e24, ev, dem_ok, dem_no, demT_ok, demT_no, z_bt_l, z_bt_r, z_try_l, z_try_r, nl_I, nl_N, nl_IN, nl_NI, may_okU, may_noU, z_up_at, z_up_i, z_up_r, ↓reduceIte, ↓z_letE, ↓z_bdE, nn_l2, nn_add, nn_mul, nn_sub, nn_addM, nn_div, nn_rem, nn_min, nn_max, nn_abs, nn_ltT, nn_ltF, nn_leT, nn_leF, nn_eqT, nn_eqF, nn_eqM, nn_Meq, nn_ltM, nn_Mlt, nn_leM, nn_Mle, z_ix_nn, z_inb_nn, F_at_nn, F_put_nn, Nat.zero_add, Nat.add_zero, z_P_some, z_R_some, z_P_bd]
      refine z_P_mono (copy_P (a := (m - 1) * 748 + 44) (b := 0) (m := v * 44) (by decide) (by omega) (by omega) (by decide) (by decide) (by omega)) (fun F hF => ?_)
      obtain ⟨f1, f2, f3⟩ := hF
      have f24 : F 21 4 = nn (m - 1) := by rw [f1 21 (by decide), z_up_i (by decide)]; exact e24
      refine ⟨?_, fun r h1 h2 h3 h4 => ?_, ?_, ?_, fun j hj => ?_, fun j hj => ?_, ?_, fun j hj => ?_⟩
      · exact f24
      · show z_up F 0 12 (nn 0) r = D r
        rw [z_up_ne h4, f1 r h3, z_up_ne h1, e1 r h2, z_up_ne h1]
      · show z_up F 0 12 (nn 0) 21 4 = _
        rw [z_up_r (by decide)]; exact f24
      · show z_up F 0 12 (nn 0) 21 3 = _
        rw [z_up_r (by decide), f1 21 (by decide), z_up_at rfl rfl]
      · show z_up F 0 12 (nn 0) 4 j = _
        have h := e2 j hj
        rw [Nat.zero_add, z_up_ne (by decide)] at h
        rw [z_up_r (by decide), f1 4 (by decide), z_up_r (by decide), show 748 * (m - 1) + j = (m - 1) * 748 + j by omega]
        exact h
      · show z_up F 0 12 (nn 0) 22 j = _
        have h := f2 j (by omega)
        rw [Nat.zero_add, z_up_ne (by decide), e1 23 (by decide), z_up_ne (by decide)] at h
        rw [z_up_r (by decide), show 748 * (m - 1) + 44 + j = (m - 1) * 748 + 44 + j by omega]
        exact h
      · first | exact trivial | exact z_up_at rfl rfl
      · show z_up F 0 12 (nn 0) 0 j = _
        rw [z_up_i hj, f1 0 (by decide), z_up_r (by decide), e1 0 (by decide), z_up_r (by decide)]
    obtain ⟨⟨r, E⟩, m1, q1, q2, q3, q4, q5, q6, q7, q8⟩ := hcl
    have q1 : r = nn (m - 1) := q1
    subst q1
    dsimp only at q2 q3 q4 q5 q6 q7 q8
    have g54 : E 40 54 = nn m := by rw [q2 40 (by decide) (by decide) (by decide) (by decide)]; exact i2
    have g66 : E 66 = D 66 := q2 66 (by decide) (by decide) (by decide) (by decide)
    have hmo : z_P (F_X11_restore N E) (fun c => c.1 = nn (m - 1) ∧ (∀ r, r ≠ 40 → r ≠ 57 → r ≠ 59 → c.2 r = E r) ∧ (∀ j, j ≠ 0 → j ≠ 54 → j ≠ 33 → j ≠ 34 → c.2 40 j = E 40 j) ∧ c.2 40 54 = nn (m - 1) ∧ c.2 40 33 = nn v ∧ c.2 40 34 = nn 0 ∧ (∀ j, j < 60 → c.2 57 j = E 66 (1021 * (m - 1) + j)) ∧ (∀ j, j < 960 → c.2 59 j = E 66 (1021 * (m - 1) + 60 + j))) := by
      simp (disch := omega) only [F_X11_restore, F_X11_keepsAll, g54, dem_ok, dem_no, demT_ok, demT_no, z_bt_l, z_bt_r, z_try_l, z_try_r, nl_I, nl_N, nl_IN, nl_NI, may_okU, may_noU, z_up_at, z_up_i, z_up_r, ↓reduceIte, ↓z_letE, ↓z_bdE, nn_l2, nn_add, nn_mul, nn_sub, nn_addM, nn_div, nn_rem, nn_min, nn_max, nn_abs, nn_ltT, nn_ltF, nn_leT, nn_leF, nn_eqT, nn_eqF, nn_eqM, nn_Meq, nn_ltM, nn_Mlt, nn_leM, nn_Mle, z_ix_nn, z_inb_nn, F_at_nn, F_put_nn, Nat.zero_add, Nat.add_zero, z_P_some, z_R_some, z_P_bd]
      refine z_P_mono (keep0_P (q := 1021 * (m - 1)) (sz := 60) (by omega) (by decide) (by decide) (by decide) (by omega)) (fun c hc => ?_)
      obtain ⟨c1, c2, c3⟩ := hc
      rw [c1]
      refine z_P_mono (keep0_P (q := 1021 * (m - 1) + 60) (sz := 960) (by omega) (by decide) (by decide) (by decide) (by omega)) (fun d hd => ?_)
      obtain ⟨d1, d2, d3⟩ := hd
      have x54 : d.2 40 54 = nn (m - 1) := by rw [d2 40 (by decide), c2 40 (by decide), z_up_at rfl rfl]
      have xv : d.2 66 (1021 * (m - 1) + 60 + 960) = nn v := by rw [d2 66 (by decide), c2 66 (by decide), z_up_ne (by decide), z_up_ne (by decide), g66, show 1021 * (m - 1) + 60 + 960 = 1021 * (m - 1) + 1020 by omega]; exact v2
      simp (disch := omega) only [d1, xv, x54, dem_ok, dem_no, demT_ok, demT_no, z_bt_l, z_bt_r, z_try_l, z_try_r, nl_I, nl_N, nl_IN, nl_NI, may_okU, may_noU, z_up_at, z_up_i, z_up_r, ↓reduceIte, ↓z_letE, ↓z_bdE, nn_l2, nn_add, nn_mul, nn_sub, nn_addM, nn_div, nn_rem, nn_min, nn_max, nn_abs, nn_ltT, nn_ltF, nn_leT, nn_leF, nn_eqT, nn_eqF, nn_eqM, nn_Meq, nn_ltM, nn_Mlt, nn_leM, nn_Mle, z_ix_nn, z_inb_nn, F_at_nn, F_put_nn, Nat.zero_add, Nat.add_zero, z_P_some, z_R_some, z_P_bd]
      refine ⟨?_, fun r h1 h2 h3 => ?_, fun j h1 h2 h3 h4 => ?_, ?_, ?_, ?_, fun j hj => ?_, fun j hj => ?_⟩
      · first | exact trivial | exact x54
      · rw [z_up_ne h1, z_up_ne h1, d2 r h3, c2 r h2, z_up_ne h1, z_up_ne h1]
      · (try simp (disch := omega) only [z_up_at, z_up_i, z_up_r]); rw [d2 40 (by decide), c2 40 (by decide), z_up_i h2, z_up_i h1]
      · first | exact trivial | ((try simp (disch := omega) only [z_up_at, z_up_i, z_up_r]); exact x54)
      · first | exact trivial | (simp (disch := omega) only [z_up_at, z_up_i])
      · first | exact trivial | (simp (disch := omega) only [z_up_at, z_up_i])
      · (try simp (disch := omega) only [z_up_at, z_up_i, z_up_r]); rw [d2 57 (by decide), c3 j hj, z_up_r (by decide), z_up_r (by decide)]
      · (try simp (disch := omega) only [z_up_at, z_up_i, z_up_r]); rw [d3 j hj, c2 66 (by decide), z_up_r (by decide), z_up_r (by decide)]
    obtain ⟨⟨r2, D2⟩, m2, y1, y2, y3, y4, y5, y6, y7, y8⟩ := hmo
    have y1 : r2 = nn (m - 1) := y1
    subst y1
    dsimp only at y2 y3 y4 y5 y6 y7 y8
    refine ⟨nn (m - 1), nn (m - 1), E, D2, m1, m2, rfl, ho, ns, pe, rv, ?_⟩
    have fr : ∀ r, r ≠ 21 → r ≠ 4 → r ≠ 22 → r ≠ 0 → r ≠ 40 → r ≠ 57 → r ≠ 59 → D2 r = D r := fun r h1 h2 h3 h4 h5 h6 h7 => (y2 r h5 h6 h7).trans (q2 r h1 h2 h3 h4)
    have sl : ∀ j, j ≠ 0 → j ≠ 54 → j ≠ 33 → j ≠ 34 → D2 40 j = D 40 j := fun j h1 h2 h3 h4 => (y3 j h1 h2 h3 h4).trans (by rw [q2 40 (by decide) (by decide) (by decide) (by decide)])
    refine ⟨hC.keep (fr o (by omega) (by omega) (by omega) (by omega) (by omega) (by omega) (by omega)) (fr _ (by omega) (by omega) (by omega) (by omega) (by omega) (by omega) (by omega)) (fr _ (by omega) (by omega) (by omega) (by omega) (by omega) (by omega) (by omega)) (fr _ (by omega) (by omega) (by omega) (by omega) (by omega) (by omega) (by omega)) (sl 19 (by decide) (by decide) (by decide) (by decide)) (sl 20 (by decide) (by decide) (by decide) (by decide)) (sl 21 (by decide) (by decide) (by decide) (by decide)) (fr 47 (by decide) (by decide) (by decide) (by decide) (by decide) (by decide) (by decide)) (fr 48 (by decide) (by decide) (by decide) (by decide) (by decide) (by decide) (by decide)), ?_, hL.keep (fr 7 (by decide) (by decide) (by decide) (by decide) (by decide) (by decide) (by decide)) (fr 8 (by decide) (by decide) (by decide) (by decide) (by decide) (by decide) (by decide)) (sl 28 (by decide) (by decide) (by decide) (by decide)) (fr 51 (by decide) (by decide) (by decide) (by decide) (by decide) (by decide) (by decide)) (fr 52 (by decide) (by decide) (by decide) (by decide) (by decide) (by decide) (by decide)), ?_, ?_, ?_, ?_, ?_⟩
    · refine TR_eq hTm hC.1.2.1 (fun j hj => ?_) (fun j hj => ?_)
      · rw [y2 4 (by decide) (by decide) (by decide)]; exact q5 j hj
      · rw [y7 j hj, g66]
    · unfold BR
      rw [fr 13 (by decide) (by decide) (by decide) (by decide) (by decide) (by decide) (by decide), fr 61 (by decide) (by decide) (by decide) (by decide) (by decide) (by decide) (by decide), fr 12 (by decide) (by decide) (by decide) (by decide) (by decide) (by decide) (by decide), fr 29 (by decide) (by decide) (by decide) (by decide) (by decide) (by decide) (by decide), sl 43 (by decide) (by decide) (by decide) (by decide)]
      exact hBk
    · refine ⟨v, hv, by rw [y2 21 (by decide) (by decide) (by decide)]; exact q4, y5, fun k hk => TR_eq (hPm k hk) hC.1.2.1 (fun j hj => ?_) (fun j hj => ?_)⟩
      · show D2 22 _ = _
        rw [y2 22 (by decide) (by decide) (by decide)]
        exact q6 _ (by omega)
      · show D2 59 _ = _
        rw [y8 _ (by omega), g66]
    · refine ⟨m - 1, by omega, by rw [y2 21 (by decide) (by decide) (by decide)]; exact q3, y4, fun i hi => ?_⟩
      rw [fr 23 (by decide) (by decide) (by decide) (by decide) (by decide) (by decide) (by decide), fr 24 (by decide) (by decide) (by decide) (by decide) (by decide) (by decide) (by decide), fr 66 (by decide) (by decide) (by decide) (by decide) (by decide) (by decide) (by decide)]
      exact hI i (by omega)
    · unfold TX
      rw [fr 1 (by decide) (by decide) (by decide) (by decide) (by decide) (by decide) (by decide), fr 2 (by decide) (by decide) (by decide) (by decide) (by decide) (by decide) (by decide), fr 42 (by decide) (by decide) (by decide) (by decide) (by decide) (by decide) (by decide), sl 2 (by decide) (by decide) (by decide) (by decide), sl 8 (by decide) (by decide) (by decide) (by decide)]
      exact hX
    · refine ⟨?_, ?_, ?_⟩
      · rw [y2 0 (by decide) (by decide) (by decide), q7, y6]
      · rw [y2 0 (by decide) (by decide) (by decide), q8 13 (by decide), fr 41 (by decide) (by decide) (by decide) (by decide) (by decide) (by decide) (by decide)]
        exact hMI.2.1
      · rw [y2 0 (by decide) (by decide) (by decide), q8 14 (by decide), fr 41 (by decide) (by decide) (by decide) (by decide) (by decide) (by decide) (by decide)]
        exact hMI.2.2
