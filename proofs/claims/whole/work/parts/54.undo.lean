/-! ===== level; undo ===== -/
set_option maxHeartbeats 4000000 in
theorem T_level {N o n : Nat} {a1 a2 : Int32} {D : z_Dat} (hN : 200 < N) (hJ : J o n D) : TOP (F_L_level N a1 a2 D) (F_X11_level a1 a2) (J o n) := by
  obtain ⟨ho, ns, pe, rv, hB⟩ := id hJ
  have hT : TR pe 300 (D (3 + 1)) (D 57) := hB.2.1
  rcases lt_or (m := 3) (by decide) a1 with ⟨d, hd, rfl⟩ | h
  · rcases wi_or1 (m := 99) (by decide) a2 with ⟨b, hb1, hb, rfl, ew⟩ | ⟨h, ew⟩
    · refine TOP_r hJ rfl (fun G hK => ?_)
      obtain ⟨s, hs, s1, s2⟩ := hT.2.1 d hd
      have g57 : G 57 = D 57 := hK.1 57 (by unfold SC; omega) (by decide)
      have hq : s / b ≤ 200 := Nat.le_trans (Nat.div_le_self s b) hs
      have key : z_P (z_loop (fun kc27 s => F_X10_level_L31xx (nn d) (nn b) D kc27 s) N (nn 9)) (fun a => a = .inl (nn (min 9 (s / b)), D)) := by
        refine z_P_loop (fun k x => k ≤ 9 ∧ x = nn k ∧ min 9 (s / b) ≤ k) ?_ 9 N _ (by omega) ⟨by omega, rfl, by omega⟩
        rintro k x kc ⟨hk, rfl, hle⟩ ih
        by_cases h0 : k = 0
        · subst h0
          simp (disch := omega) only [F_X10_level_L31xx, ↓reduceIte, ↓z_letE, ↓z_bdE, nn_l2, nn_add, nn_mul, nn_sub, nn_addM, nn_div, nn_rem, nn_min, nn_max, nn_abs, nn_ltT, nn_ltF, nn_leT, nn_leF, nn_eqT, nn_eqF, nn_eqM, nn_Meq, nn_ltM, nn_Mlt, nn_leM, nn_Mle, z_ix_nn, z_inb_nn, F_at_nn, F_put_nn, Nat.zero_add, Nat.add_zero, z_P_some, z_R_some, z_P_bd]
          rw [Nat.le_zero.mp hle]
        · have hkb : k * b < 2147483648 := Nat.lt_of_le_of_lt (Nat.mul_le_mul (show k ≤ 9 by omega) hb) (by decide)
          by_cases hc : s < k * b
          · have hlt : s / b < k := by rw [Nat.div_lt_iff_lt_mul (by omega)]; exact hc
            simp (disch := omega) only [F_X10_level_L31xx, F_X9_stored, s1, ↓reduceIte, ↓z_letE, ↓z_bdE, nn_l2, nn_add, nn_mul, nn_sub, nn_addM, nn_div, nn_rem, nn_min, nn_max, nn_abs, nn_ltT, nn_ltF, nn_leT, nn_leF, nn_eqT, nn_eqF, nn_eqM, nn_Meq, nn_ltM, nn_Mlt, nn_leM, nn_Mle, z_ix_nn, z_inb_nn, F_at_nn, F_put_nn, Nat.zero_add, Nat.add_zero, z_P_some, z_R_some, z_P_bd]
            exact ih (k - 1) _ (by omega) ⟨by omega, rfl, by omega⟩
          · have hge : k ≤ s / b := by rw [Nat.le_div_iff_mul_le (by omega)]; omega
            simp (disch := omega) only [F_X10_level_L31xx, F_X9_stored, s1, ↓reduceIte, ↓z_letE, ↓z_bdE, nn_l2, nn_add, nn_mul, nn_sub, nn_addM, nn_div, nn_rem, nn_min, nn_max, nn_abs, nn_ltT, nn_ltF, nn_leT, nn_leF, nn_eqT, nn_eqF, nn_eqM, nn_Meq, nn_ltM, nn_Mlt, nn_leM, nn_Mle, z_ix_nn, z_inb_nn, F_at_nn, F_put_nn, Nat.zero_add, Nat.add_zero, z_P_some, z_R_some, z_P_bd]
            rw [show min 9 (s / b) = k by omega]
      have e57 : z_up G 40 0 (nn 0) 57 (56 + d) = nn s := by rw [z_up_r (by decide), g57]; exact s2
      obtain ⟨a, m1, rfl⟩ := key
      by_cases h9 : s / b ≤ 9
      · simp (disch := omega) only [F_X10_level, F_X10_isDye, F_X11_level, F_X11_isDye, ew, m1, e57, g57, s2, dem_ok, dem_no, demT_ok, demT_no, z_bt_l, z_bt_r, z_try_l, z_try_r, nl_I, nl_N, nl_IN, nl_NI, may_okU, may_noU, z_up_at, z_up_i, z_up_r, ↓reduceIte, ↓z_letE, ↓z_bdE, nn_l2, nn_add, nn_mul, nn_sub, nn_addM, nn_div, nn_rem, nn_min, nn_max, nn_abs, nn_ltT, nn_ltF, nn_leT, nn_leF, nn_eqT, nn_eqF, nn_eqM, nn_Meq, nn_ltM, nn_Mlt, nn_leM, nn_Mle, z_ix_nn, z_inb_nn, F_at_nn, F_put_nn, Nat.zero_add, Nat.add_zero, z_P_some, z_R_some, z_P_bd]
        exact ⟨_, _, rfl, KA.rf, by rw [show min 9 (s / b) = s / b by omega], up00 (G := G), up67 (G := G), upK (G := G)⟩
      · simp (disch := omega) only [F_X10_level, F_X10_isDye, F_X11_level, F_X11_isDye, ew, m1, e57, g57, s2, dem_ok, dem_no, demT_ok, demT_no, z_bt_l, z_bt_r, z_try_l, z_try_r, nl_I, nl_N, nl_IN, nl_NI, may_okU, may_noU, z_up_at, z_up_i, z_up_r, ↓reduceIte, ↓z_letE, ↓z_bdE, nn_l2, nn_add, nn_mul, nn_sub, nn_addM, nn_div, nn_rem, nn_min, nn_max, nn_abs, nn_ltT, nn_ltF, nn_leT, nn_leF, nn_eqT, nn_eqF, nn_eqM, nn_Meq, nn_ltM, nn_Mlt, nn_leM, nn_Mle, z_ix_nn, z_inb_nn, F_at_nn, F_put_nn, Nat.zero_add, Nat.add_zero, z_P_some, z_R_some, z_P_bd]
        exact ⟨_, _, rfl, KA.rf, by rw [show min 9 (s / b) = 9 by omega], up00 (G := G), up67 (G := G), upK (G := G)⟩
    · refine TOP_t (c := 2) (k := 1) hJ (by decide) (by decide) (by decide) ?_ (fun G hG => ?_)
      · rcases h with h | h
        · simp (disch := omega) only [F_L_level, F_X10_level, F_X10_isDye, h, dem_ok, dem_no, demT_ok, demT_no, z_bt_l, z_bt_r, z_try_l, z_try_r, nl_I, nl_N, nl_IN, nl_NI, may_okU, may_noU, z_up_at, z_up_i, z_up_r, ↓reduceIte, ↓z_letE, ↓z_bdE, nn_l2, nn_add, nn_mul, nn_sub, nn_addM, nn_div, nn_rem, nn_min, nn_max, nn_abs, nn_ltT, nn_ltF, nn_leT, nn_leF, nn_eqT, nn_eqF, nn_eqM, nn_Meq, nn_ltM, nn_Mlt, nn_leM, nn_Mle, z_ix_nn, z_inb_nn, F_at_nn, F_put_nn, Nat.zero_add, Nat.add_zero, z_P_some, z_R_some, z_P_bd]
        · simp (disch := omega) only [F_L_level, F_X10_level, F_X10_isDye, h.1, h.2, dem_ok, dem_no, demT_ok, demT_no, z_bt_l, z_bt_r, z_try_l, z_try_r, nl_I, nl_N, nl_IN, nl_NI, may_okU, may_noU, z_up_at, z_up_i, z_up_r, ↓reduceIte, ↓z_letE, ↓z_bdE, nn_l2, nn_add, nn_mul, nn_sub, nn_addM, nn_div, nn_rem, nn_min, nn_max, nn_abs, nn_ltT, nn_ltF, nn_leT, nn_leF, nn_eqT, nn_eqF, nn_eqM, nn_Meq, nn_ltM, nn_Mlt, nn_leM, nn_Mle, z_ix_nn, z_inb_nn, F_at_nn, F_put_nn, Nat.zero_add, Nat.add_zero, z_P_some, z_R_some, z_P_bd]
      · simp (disch := omega) only [F_X11_level, F_X11_isDye, ew, dem_ok, dem_no, demT_ok, demT_no, z_bt_l, z_bt_r, z_try_l, z_try_r, nl_I, nl_N, nl_IN, nl_NI, may_okU, may_noU, z_up_at, z_up_i, z_up_r, ↓reduceIte, ↓z_letE, ↓z_bdE, nn_l2, nn_add, nn_mul, nn_sub, nn_addM, nn_div, nn_rem, nn_min, nn_max, nn_abs, nn_ltT, nn_ltF, nn_leT, nn_leF, nn_eqT, nn_eqF, nn_eqM, nn_Meq, nn_ltM, nn_Mlt, nn_leM, nn_Mle, z_ix_nn, z_inb_nn, F_at_nn, F_put_nn, Nat.zero_add, Nat.add_zero, z_P_some, z_R_some, z_P_bd]
  · refine TOP_t (c := 1) (k := 0) hJ (by decide) (by decide) (by decide) ?_ (fun G hG => ?_)
    · rcases h with h | h
      · simp (disch := omega) only [F_L_level, F_X10_level, F_X10_isDye, h, dem_ok, dem_no, demT_ok, demT_no, z_bt_l, z_bt_r, z_try_l, z_try_r, nl_I, nl_N, nl_IN, nl_NI, may_okU, may_noU, z_up_at, z_up_i, z_up_r, ↓reduceIte, ↓z_letE, ↓z_bdE, nn_l2, nn_add, nn_mul, nn_sub, nn_addM, nn_div, nn_rem, nn_min, nn_max, nn_abs, nn_ltT, nn_ltF, nn_leT, nn_leF, nn_eqT, nn_eqF, nn_eqM, nn_Meq, nn_ltM, nn_Mlt, nn_leM, nn_Mle, z_ix_nn, z_inb_nn, F_at_nn, F_put_nn, Nat.zero_add, Nat.add_zero, z_P_some, z_R_some, z_P_bd]
      · simp (disch := omega) only [F_L_level, F_X10_level, F_X10_isDye, h.1, h.2, dem_ok, dem_no, demT_ok, demT_no, z_bt_l, z_bt_r, z_try_l, z_try_r, nl_I, nl_N, nl_IN, nl_NI, may_okU, may_noU, z_up_at, z_up_i, z_up_r, ↓reduceIte, ↓z_letE, ↓z_bdE, nn_l2, nn_add, nn_mul, nn_sub, nn_addM, nn_div, nn_rem, nn_min, nn_max, nn_abs, nn_ltT, nn_ltF, nn_leT, nn_leF, nn_eqT, nn_eqF, nn_eqM, nn_Meq, nn_ltM, nn_Mlt, nn_leM, nn_Mle, z_ix_nn, z_inb_nn, F_at_nn, F_put_nn, Nat.zero_add, Nat.add_zero, z_P_some, z_R_some, z_P_bd]
    · rcases h with h | h
      · simp (disch := omega) only [F_X11_level, F_X11_isDye, h, dem_ok, dem_no, demT_ok, demT_no, z_bt_l, z_bt_r, z_try_l, z_try_r, nl_I, nl_N, nl_IN, nl_NI, may_okU, may_noU, z_up_at, z_up_i, z_up_r, ↓reduceIte, ↓z_letE, ↓z_bdE, nn_l2, nn_add, nn_mul, nn_sub, nn_addM, nn_div, nn_rem, nn_min, nn_max, nn_abs, nn_ltT, nn_ltF, nn_leT, nn_leF, nn_eqT, nn_eqF, nn_eqM, nn_Meq, nn_ltM, nn_Mlt, nn_leM, nn_Mle, z_ix_nn, z_inb_nn, F_at_nn, F_put_nn, Nat.zero_add, Nat.add_zero, z_P_some, z_R_some, z_P_bd]
      · simp (disch := omega) only [F_X11_level, F_X11_isDye, h.1, h.2, dem_ok, dem_no, demT_ok, demT_no, z_bt_l, z_bt_r, z_try_l, z_try_r, nl_I, nl_N, nl_IN, nl_NI, may_okU, may_noU, z_up_at, z_up_i, z_up_r, ↓reduceIte, ↓z_letE, ↓z_bdE, nn_l2, nn_add, nn_mul, nn_sub, nn_addM, nn_div, nn_rem, nn_min, nn_max, nn_abs, nn_ltT, nn_ltF, nn_leT, nn_leF, nn_eqT, nn_eqF, nn_eqM, nn_Meq, nn_ltM, nn_Mlt, nn_leM, nn_Mle, z_ix_nn, z_inb_nn, F_at_nn, F_put_nn, Nat.zero_add, Nat.add_zero, z_P_some, z_R_some, z_P_bd]
set_option maxHeartbeats 4000000 in
theorem T_undo {N o n : Nat} {D : z_Dat} (hN : 200 < N) (hJ : J o n D) : ∃ r1 : Int32, ∃ r2 : Int32, ∃ D1 : z_Dat, ∃ D2 : z_Dat, (F_X10_undo N D = some (r1, D1)) ∧ (F_X11_undo N D1 = some (r2, D2)) ∧ (r1 = r2) ∧ J o n D2 := by
  obtain ⟨ho, ns, pe, rv, hB⟩ := id hJ
  obtain ⟨hC, hT, hL, hBk, ⟨w, hw, p1, p2, hP⟩, hI, hX, hMI⟩ := id hB
  have hoo := hJ.ho
  by_cases h0 : w = 0
  · subst h0
    refine ⟨-nn 1, -nn 1, D, z_up D 40 0 (nn 0), by simp (disch := omega) only [F_X10_undo, p1, dem_ok, dem_no, demT_ok, demT_no, z_bt_l, z_bt_r, z_try_l, z_try_r, nl_I, nl_N, nl_IN, nl_NI, may_okU, may_noU, z_up_at, z_up_i, z_up_r, ↓reduceIte, ↓z_letE, ↓z_bdE, nn_l2, nn_add, nn_mul, nn_sub, nn_addM, nn_div, nn_rem, nn_min, nn_max, nn_abs, nn_ltT, nn_ltF, nn_leT, nn_leF, nn_eqT, nn_eqF, nn_eqM, nn_Meq, nn_ltM, nn_Mlt, nn_leM, nn_Mle, z_ix_nn, z_inb_nn, F_at_nn, F_put_nn, Nat.zero_add, Nat.add_zero, z_P_some, z_R_some, z_P_bd], by simp (disch := omega) only [F_X11_undo, p2, dem_ok, dem_no, demT_ok, demT_no, z_bt_l, z_bt_r, z_try_l, z_try_r, nl_I, nl_N, nl_IN, nl_NI, may_okU, may_noU, z_up_at, z_up_i, z_up_r, ↓reduceIte, ↓z_letE, ↓z_bdE, nn_l2, nn_add, nn_mul, nn_sub, nn_addM, nn_div, nn_rem, nn_min, nn_max, nn_abs, nn_ltT, nn_ltF, nn_leT, nn_leF, nn_eqT, nn_eqF, nn_eqM, nn_Meq, nn_ltM, nn_Mlt, nn_leM, nn_Mle, z_ix_nn, z_inb_nn, F_at_nn, F_put_nn, Nat.zero_add, Nat.add_zero, z_P_some, z_R_some, z_P_bd], rfl, hJ.keep upK⟩
  · have hcl : z_P (F_X10_undo N D) (fun a => a.1 = nn (w - 1) ∧ (∀ r, r ≠ 21 → r ≠ 4 → r ≠ 0 → a.2 r = D r) ∧ a.2 21 3 = nn (w - 1) ∧ (∀ j, j ≠ 3 → a.2 21 j = D 21 j) ∧ (∀ j, j < 44 → a.2 4 j = D 22 (44 * (w - 1) + j)) ∧ a.2 0 12 = nn 0 ∧ ∀ j, j ≠ 12 → a.2 0 j = D 0 j) := by
      simp (disch := omega) only [F_X10_undo, F_X4_takeBack, F_X9_loadFrom, p1, dem_ok, dem_no, demT_ok, demT_no, z_bt_l, z_bt_r, z_try_l, z_try_r, nl_I, nl_N, nl_IN, nl_NI, may_okU, may_noU, z_up_at, z_up_i, z_up_r, ↓reduceIte, ↓z_letE, ↓z_bdE, nn_l2, nn_add, nn_mul, nn_sub, nn_addM, nn_div, nn_rem, nn_min, nn_max, nn_abs, nn_ltT, nn_ltF, nn_leT, nn_leF, nn_eqT, nn_eqF, nn_eqM, nn_Meq, nn_ltM, nn_Mlt, nn_leM, nn_Mle, z_ix_nn, z_inb_nn, F_at_nn, F_put_nn, Nat.zero_add, Nat.add_zero, z_P_some, z_R_some, z_P_bd]
      refine z_P_mono (copy_P (a := (w - 1) * 44) (b := 0) (m := 44) (by decide) (by omega) (by decide) (by decide) (by decide) (by omega)) (fun E hE => ?_)
      obtain ⟨e1, e2, e3⟩ := hE
      have e21 : E 21 3 = nn (w - 1) := by rw [e1 21 (by decide), z_up_at rfl rfl]
      refine ⟨?_, fun r h1 h2 h3 => ?_, ?_, fun j hj => ?_, fun j hj => ?_, ?_, fun j hj => ?_⟩
      · exact e21
      · show z_up E 0 12 (nn 0) r = D r
        rw [z_up_ne h3, e1 r h2, z_up_ne h1]
      · show z_up E 0 12 (nn 0) 21 3 = _
        rw [z_up_ne (by decide)]
        exact e21
      · show z_up E 0 12 (nn 0) 21 j = _
        rw [z_up_ne (by decide), e1 21 (by decide), z_up_i hj]
      · show z_up E 0 12 (nn 0) 4 j = _
        have h := e2 j hj
        rw [Nat.zero_add, z_up_ne (by decide)] at h
        rw [z_up_ne (by decide), show 44 * (w - 1) + j = (w - 1) * 44 + j by omega]
        exact h
      · first | exact trivial | exact z_up_at rfl rfl
      · show z_up E 0 12 (nn 0) 0 j = _
        rw [z_up_i hj, e1 0 (by decide), z_up_ne (by decide)]
    obtain ⟨⟨r, E⟩, m1, q1, q2, q3, q4, q5, q6, q7⟩ := hcl
    have q1 : r = nn (w - 1) := q1
    subst q1
    dsimp only at q2 q3 q4 q5 q6 q7
    have g33 : E 40 33 = nn w := by rw [q2 40 (by decide) (by decide) (by decide)]; exact p2
    have hm : z_P (F_X11_undo N E) (fun c => c.1 = nn (w - 1) ∧ (∀ r, r ≠ 40 → r ≠ 57 → c.2 r = E r) ∧ (∀ j, j ≠ 0 → j ≠ 33 → j ≠ 34 → c.2 40 j = E 40 j) ∧ c.2 40 33 = nn (w - 1) ∧ c.2 40 34 = nn 0 ∧ ∀ j, j < 60 → c.2 57 j = E 59 (60 * (w - 1) + j)) := by
      simp (disch := omega) only [F_X11_undo, g33, dem_ok, dem_no, demT_ok, demT_no, z_bt_l, z_bt_r, z_try_l, z_try_r, nl_I, nl_N, nl_IN, nl_NI, may_okU, may_noU, z_up_at, z_up_i, z_up_r, ↓reduceIte, ↓z_letE, ↓z_bdE, nn_l2, nn_add, nn_mul, nn_sub, nn_addM, nn_div, nn_rem, nn_min, nn_max, nn_abs, nn_ltT, nn_ltF, nn_leT, nn_leF, nn_eqT, nn_eqF, nn_eqM, nn_Meq, nn_ltM, nn_Mlt, nn_leM, nn_Mle, z_ix_nn, z_inb_nn, F_at_nn, F_put_nn, Nat.zero_add, Nat.add_zero, z_P_some, z_R_some, z_P_bd]
      refine z_P_loop (fun k s => ∃ i, i + k = 60 ∧ s.1 = nn i ∧ (∀ r, r ≠ 40 → r ≠ 57 → s.2 r = E r) ∧ (∀ j, j ≠ 0 → j ≠ 33 → s.2 40 j = E 40 j) ∧ s.2 40 33 = nn (w - 1) ∧ ∀ j, j < i → s.2 57 j = E 59 (60 * (w - 1) + j)) ?_ 60 N _ (by omega) ⟨0, by omega, rfl, fun r h1 h2 => by simp (disch := omega) only [z_up_ne], fun j h1 h2 => by simp (disch := omega) only [z_up_i], by simp (disch := omega) only [z_up_at], fun j hj => absurd hj (by omega)⟩
      rintro k ⟨v, F⟩ kc ⟨i, hi, rfl, x1, x2, x3, x4⟩ ih
      dsimp only at x1 x2 x3 x4 ⊢
      by_cases h60 : i < 60
      · simp (disch := omega) only [F_X11_undo_L26, x3, ↓reduceIte, ↓z_letE, ↓z_bdE, nn_l2, nn_add, nn_mul, nn_sub, nn_addM, nn_div, nn_rem, nn_min, nn_max, nn_abs, nn_ltT, nn_ltF, nn_leT, nn_leF, nn_eqT, nn_eqF, nn_eqM, nn_Meq, nn_ltM, nn_Mlt, nn_leM, nn_Mle, z_ix_nn, z_inb_nn, F_at_nn, F_put_nn, Nat.zero_add, Nat.add_zero, z_P_some, z_R_some, z_P_bd]
        refine ih (k - 1) _ (by omega) ⟨i + 1, by omega, rfl, fun r h1 h2 => ?_, fun j h1 h2 => ?_, ?_, fun j hj => ?_⟩
        · dsimp only; rw [z_up_ne h2]; exact x1 r h1 h2
        · dsimp only; rw [z_up_r (by decide)]; exact x2 j h1 h2
        · dsimp only; rw [z_up_r (by decide)]; exact x3
        · dsimp only; by_cases hji : j = i
          · subst hji
            rw [z_up_at rfl rfl, x1 59 (by decide) (by decide)]
          · rw [z_up_i hji]
            exact x4 j (by omega)
      · simp (disch := omega) only [F_X11_undo_L26, ↓reduceIte, ↓z_letE, ↓z_bdE, nn_l2, nn_add, nn_mul, nn_sub, nn_addM, nn_div, nn_rem, nn_min, nn_max, nn_abs, nn_ltT, nn_ltF, nn_leT, nn_leF, nn_eqT, nn_eqF, nn_eqM, nn_Meq, nn_ltM, nn_Mlt, nn_leM, nn_Mle, z_ix_nn, z_inb_nn, F_at_nn, F_put_nn, Nat.zero_add, Nat.add_zero, z_P_some, z_R_some, z_P_bd]
        refine ⟨?_, fun r h1 h2 => ?_, fun j h1 h2 h3 => ?_, ?_, ?_, fun j hj => ?_⟩
        · show z_up F 40 34 (nn 0) 40 33 = _
          rw [z_up_i (by decide)]; exact x3
        · rw [z_up_ne h1]; exact x1 r h1 h2
        · rw [z_up_i h3]; exact x2 j h1 h2
        · rw [z_up_i (by decide)]; exact x3
        · exact z_up_at rfl rfl
        · rw [z_up_r (by decide)]
          exact x4 j (by omega)
    obtain ⟨⟨r2, D2⟩, m2, y1, y2, y3, y4, y5, y6⟩ := hm
    have y1 : r2 = nn (w - 1) := y1
    subst y1
    dsimp only at y2 y3 y4 y5 y6
    refine ⟨nn (w - 1), nn (w - 1), E, D2, m1, m2, rfl, ho, ns, pe, rv, ?_⟩
    have fr : ∀ r, r ≠ 21 → r ≠ 4 → r ≠ 0 → r ≠ 40 → r ≠ 57 → D2 r = D r := fun r h1 h2 h3 h4 h5 => (y2 r h4 h5).trans (q2 r h1 h2 h3)
    have sl : ∀ j, j ≠ 0 → j ≠ 33 → j ≠ 34 → D2 40 j = D 40 j := fun j h1 h2 h3 => (y3 j h1 h2 h3).trans (by rw [q2 40 (by decide) (by decide) (by decide)])
    have e21 : ∀ j, j ≠ 3 → D2 21 j = D 21 j := fun j hj => by rw [y2 21 (by decide) (by decide)]; exact q4 j hj
    refine ⟨hC.keep (fr o (by omega) (by omega) (by omega) (by omega) (by omega)) (fr _ (by omega) (by omega) (by omega) (by omega) (by omega)) (fr _ (by omega) (by omega) (by omega) (by omega) (by omega)) (fr _ (by omega) (by omega) (by omega) (by omega) (by omega)) (sl 19 (by decide) (by decide) (by decide)) (sl 20 (by decide) (by decide) (by decide)) (sl 21 (by decide) (by decide) (by decide)) (fr 47 (by decide) (by decide) (by decide) (by decide) (by decide)) (fr 48 (by decide) (by decide) (by decide) (by decide) (by decide)), ?_, hL.keep (fr 7 (by decide) (by decide) (by decide) (by decide) (by decide)) (fr 8 (by decide) (by decide) (by decide) (by decide) (by decide)) (sl 28 (by decide) (by decide) (by decide)) (fr 51 (by decide) (by decide) (by decide) (by decide) (by decide)) (fr 52 (by decide) (by decide) (by decide) (by decide) (by decide)), ?_, ?_, ?_, ?_, ?_⟩
    · refine TR_eq (hP (w - 1) (by omega)) hC.1.2.1 (fun j hj => ?_) (fun j hj => ?_)
      · rw [y2 4 (by decide) (by decide)]; exact q5 j hj
      · rw [y6 j hj, q2 59 (by decide) (by decide) (by decide)]
    · unfold BR
      rw [fr 13 (by decide) (by decide) (by decide) (by decide) (by decide), fr 61 (by decide) (by decide) (by decide) (by decide) (by decide), fr 12 (by decide) (by decide) (by decide) (by decide) (by decide), fr 29 (by decide) (by decide) (by decide) (by decide) (by decide), sl 43 (by decide) (by decide) (by decide)]
      exact hBk
    · refine ⟨w - 1, by omega, by rw [y2 21 (by decide) (by decide)]; exact q3, y4, fun k hk => ?_⟩
      rw [fr 22 (by decide) (by decide) (by decide) (by decide) (by decide), fr 59 (by decide) (by decide) (by decide) (by decide) (by decide)]
      exact hP k (by omega)
    · unfold IM
      rw [e21 4 (by decide), sl 54 (by decide) (by decide) (by decide), fr 23 (by decide) (by decide) (by decide) (by decide) (by decide), fr 24 (by decide) (by decide) (by decide) (by decide) (by decide), fr 66 (by decide) (by decide) (by decide) (by decide) (by decide)]
      exact hI
    · unfold TX
      rw [fr 1 (by decide) (by decide) (by decide) (by decide) (by decide), fr 2 (by decide) (by decide) (by decide) (by decide) (by decide), fr 42 (by decide) (by decide) (by decide) (by decide) (by decide), sl 2 (by decide) (by decide) (by decide), sl 8 (by decide) (by decide) (by decide)]
      exact hX
    · refine ⟨?_, ?_, ?_⟩
      · rw [y2 0 (by decide) (by decide), q6, y5]
      · rw [y2 0 (by decide) (by decide), q7 13 (by decide), fr 41 (by decide) (by decide) (by decide) (by decide) (by decide)]
        exact hMI.2.1
      · rw [y2 0 (by decide) (by decide), q7 14 (by decide), fr 41 (by decide) (by decide) (by decide) (by decide) (by decide)]
        exact hMI.2.2
