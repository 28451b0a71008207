/-! ===== work: the whole call ===== -/
set_option maxHeartbeats 4000000 in
theorem T_work {N o n : Nat} {a1 : Int32} {D : z_Dat} (hN : 50000 < N) (hJ : J o n D) : TOP (F_L_work N o a1 D) (F_X11_work N a1) (J o n) := by
  obtain ⟨ho, ns, pe, rv, hB⟩ := id hJ
  have ho' := hJ.ho
  obtain ⟨hC, hT, hLR, hBR, hPA, hIM, ⟨⟨fd, hfd, fd1, fd2⟩, htape, hflt⟩, hM⟩ := id hB
  obtain ⟨⟨hns, hpe, hrv⟩, ⟨o5, o6, o7⟩, ⟨g19, g20, g21⟩, hV, hH⟩ := id hC
  rcases has_bad (a1 := a1) (b := 150) hfd (by decide) fd1 fd2 with ⟨L, hL, hL2, rfl, hhas⟩ | ⟨hhas, hout⟩
  rotate_left
  · refine TOP_t (c := 1) (k := 1) hJ (by decide) (by decide) (by decide) ?_ (fun G hG => ?_)
    · simp (disch := omega) only [F_L_work, F_X10_work, hhas, dem_ok, dem_no, demT_ok, demT_no, z_bt_l, z_bt_r, z_try_l, z_try_r, nl_I, nl_N, nl_IN, nl_NI, may_okU, may_noU, z_up_at, z_up_i, z_up_r, ↓reduceIte, ↓z_letE, ↓z_bdE, nn_l2, nn_add, nn_mul, nn_sub, nn_addM, nn_div, nn_rem, nn_min, nn_max, nn_abs, nn_ltT, nn_ltF, nn_leT, nn_leF, nn_eqT, nn_eqF, nn_eqM, nn_Meq, nn_ltM, nn_Mlt, nn_leM, nn_Mle, z_ix_nn, z_inb_nn, F_at_nn, F_put_nn, Nat.zero_add, Nat.add_zero, z_P_some, z_R_some, z_P_bd]
    · have g2 : G 40 2 = nn fd := by rw [hG 40 (by decide)]; exact fd2
      rcases hout with h | h | h
      · simp (disch := omega) only [F_X11_work, F_X11_work_J29, F_X11_work_J30, h, dem_ok, dem_no, demT_ok, demT_no, z_bt_l, z_bt_r, z_try_l, z_try_r, nl_I, nl_N, nl_IN, nl_NI, may_okU, may_noU, z_up_at, z_up_i, z_up_r, ↓reduceIte, ↓z_letE, ↓z_bdE, nn_l2, nn_add, nn_mul, nn_sub, nn_addM, nn_div, nn_rem, nn_min, nn_max, nn_abs, nn_ltT, nn_ltF, nn_leT, nn_leF, nn_eqT, nn_eqF, nn_eqM, nn_Meq, nn_ltM, nn_Mlt, nn_leM, nn_Mle, z_ix_nn, z_inb_nn, F_at_nn, F_put_nn, Nat.zero_add, Nat.add_zero, z_P_some, z_R_some, z_P_bd]
      · simp (disch := omega) only [F_X11_work, F_X11_work_J29, F_X11_work_J30, g2, h.1, h.2, dem_ok, dem_no, demT_ok, demT_no, z_bt_l, z_bt_r, z_try_l, z_try_r, nl_I, nl_N, nl_IN, nl_NI, may_okU, may_noU, z_up_at, z_up_i, z_up_r, ↓reduceIte, ↓z_letE, ↓z_bdE, nn_l2, nn_add, nn_mul, nn_sub, nn_addM, nn_div, nn_rem, nn_min, nn_max, nn_abs, nn_ltT, nn_ltF, nn_leT, nn_leF, nn_eqT, nn_eqF, nn_eqM, nn_Meq, nn_ltM, nn_Mlt, nn_leM, nn_Mle, z_ix_nn, z_inb_nn, F_at_nn, F_put_nn, Nat.zero_add, Nat.add_zero, z_P_some, z_R_some, z_P_bd]
      · simp (disch := omega) only [F_X11_work, F_X11_work_J29, F_X11_work_J30, g2, h.1, h.2.1, h.2.2, dem_ok, dem_no, demT_ok, demT_no, z_bt_l, z_bt_r, z_try_l, z_try_r, nl_I, nl_N, nl_IN, nl_NI, may_okU, may_noU, z_up_at, z_up_i, z_up_r, ↓reduceIte, ↓z_letE, ↓z_bdE, nn_l2, nn_add, nn_mul, nn_sub, nn_addM, nn_div, nn_rem, nn_min, nn_max, nn_abs, nn_ltT, nn_ltF, nn_leT, nn_leF, nn_eqT, nn_eqF, nn_eqM, nn_Meq, nn_ltM, nn_Mlt, nn_leM, nn_Mle, z_ix_nn, z_inb_nn, F_at_nn, F_put_nn, Nat.zero_add, Nat.add_zero, z_P_some, z_R_some, z_P_bd]
  obtain ⟨w, hw, hw1, hw2, hwT⟩ := hPA
  refine TOP_w (D := D) rfl (fun G hG => ?_)
  have g2 : G 40 2 = nn fd := by rw [hG 40 (by decide) (by decide)]; exact fd2
  have g33 : G 40 33 = nn w := by rw [hG 40 (by decide) (by decide)]; exact hw2
  have hX : TX D := ⟨⟨fd, hfd, fd1, fd2⟩, htape, hflt⟩
  have hb : F_X11_begins (nn L) (z_up G 40 0 (nn 0)) = z_up (z_up (z_up (z_up (z_up (z_up (z_up G 40 0 (nn 0)) 40 2 (nn 0)) 40 8 (-nn 1)) 40 3 (nn L)) 40 4 (nn 0)) 40 5 (-nn 1)) 40 7 (nn 0) := rfl
  generalize hG1 : F_X11_begins (nn L) (z_up G 40 0 (nn 0)) = G1 at hb
  have b33 : G1 40 33 = nn w := by rw [hb]; simp (disch := omega) only [z_up_i]; exact g33
  -- J again from the cells
  have fin : ∀ (W : z_Dat), (∀ q, (q < 40 ∨ 67 < q) → ¬ SC q → q ≠ 1 → q ≠ 29 → W q = D q) → W 29 0 = D 29 0 → (∀ q, 40 < q → q ≤ 66 → ¬ SC q → W q = D q) → (∀ j, KK j → j ≠ 2 → j ≠ 8 → W 40 j = D 40 j) → W 1 1 = nn 0 → W 40 2 = nn 0 → W 1 6 = W 40 8 → J o n W := fun W wp w29 wm wc x1 x2 x3 => by
    refine ⟨ho, ns, pe, rv, hB.keepX ho ⟨fun r h1 h2 h3 h4 => ?_, wc, w29⟩ ⟨⟨0, by omega, x1, x2⟩, fun j hj => ?_, x3⟩⟩
    · by_cases hr : r < 40 ∨ 67 < r
      · exact wp r hr h2 h3 h4.2
      · have hr67 : r ≠ 67 := fun q => h2 (by unfold SC; omega)
        exact wm r (by omega) (by omega) h2
    · rw [wp 2 (by decide) (by unfold SC; omega) (by decide) (by decide), wm 42 (by decide) (by decide) (by unfold SC; omega)]
      exact htape j hj
  by_cases hw16 : w = 16
  · -- all is full
    subst hw16
    obtain ⟨t, E, ht, m1, m2, m3, m4, m5⟩ := begin_C (N := N) (L := 0) (by omega) hX (by omega)
    have h6 : E 1 6 = -nn 1 := by
      obtain ⟨h', p', -, hI⟩ := (m5 D rfl).fi m4
      exact hI.2.2.2.1
    have hXp : F_X10_work N o (nn L) D = some (.inl (-nn 20, E)) := by
      simp (disch := omega) only [F_X10_work, hhas, hw1, m1, dem_ok, dem_no, demT_ok, demT_no, z_bt_l, z_bt_r, z_try_l, z_try_r, nl_I, nl_N, nl_IN, nl_NI, may_okU, may_noU, z_up_at, z_up_i, z_up_r, ↓reduceIte, ↓z_letE, ↓z_bdE, nn_l2, nn_add, nn_mul, nn_sub, nn_addM, nn_div, nn_rem, nn_min, nn_max, nn_abs, nn_ltT, nn_ltF, nn_leT, nn_leF, nn_eqT, nn_eqF, nn_eqM, nn_Meq, nn_ltM, nn_Mlt, nn_leM, nn_Mle, z_ix_nn, z_inb_nn, F_at_nn, F_put_nn, Nat.zero_add, Nat.add_zero, z_P_some, z_R_some, z_P_bd]
    have hmp : F_X11_work N (nn L) G = some (-nn 20, z_up G1 40 8 (-nn 1)) := by
      have g5 : G1 40 5 = -nn 1 := by rw [hb]; simp (disch := omega) only [z_up_i, z_up_at]
      simp (disch := omega) only [F_X11_work, F_X11_work_J30x, g2, dem_ok, dem_no, demT_ok, demT_no, z_bt_l, z_bt_r, z_try_l, z_try_r, nl_I, nl_N, nl_IN, nl_NI, may_okU, may_noU, z_up_at, z_up_i, z_up_r, ↓reduceIte, ↓z_letE, ↓z_bdE, nn_l2, nn_add, nn_mul, nn_sub, nn_addM, nn_div, nn_rem, nn_min, nn_max, nn_abs, nn_ltT, nn_ltF, nn_leT, nn_leF, nn_eqT, nn_eqF, nn_eqM, nn_Meq, nn_ltM, nn_Mlt, nn_leM, nn_Mle, z_ix_nn, z_inb_nn, F_at_nn, F_put_nn, Nat.zero_add, Nat.add_zero, z_P_some, z_R_some, z_P_bd]
      rw [hG1]
      simp (disch := omega) only [b33, F_X11_result, F_X11_fine, g5, z_up_i, ↓reduceIte, ↓z_letE, ↓z_bdE, nn_l2, nn_add, nn_mul, nn_sub, nn_addM, nn_div, nn_rem, nn_min, nn_max, nn_abs, nn_ltT, nn_ltF, nn_leT, nn_leF, nn_eqT, nn_eqF, nn_eqM, nn_Meq, nn_ltM, nn_Mlt, nn_leM, nn_Mle, z_ix_nn, z_inb_nn, F_at_nn, F_put_nn, Nat.zero_add, Nat.add_zero, z_P_some, z_R_some, z_P_bd]
    rw [hXp, hmp, z_R_some]
    refine ⟨_, E, rfl, fun q a b => m2 q (by omega), rfl, ?_, fun q hq => ?_, fun hW => ?_⟩
    · dsimp only
      rw [hb]
      simp (disch := omega) only [z_up_i, z_up_at]
    · dsimp only
      rw [z_up_ne (by omega), hb]
      simp (disch := omega) only [z_up_ne, ne_eq]
    · dsimp only at hW ⊢
      refine fin _ (fun q h1 h2 h3 h4 => by rw [hW q h1, m2 q h3]) (by rw [hW 29 (by decide), m2 29 (by decide)]) (fun q h1 h2 h3 => ?_) (fun j hj h1 h2 => ?_) (by rw [hW 1 (by decide)]; exact m3) ?_ ?_
      · rw [z_up_ne (by omega), hb]
        simp (disch := omega) only [z_up_ne, ne_eq]
        exact hG q (by omega) h2
      · unfold KK at hj
        rw [z_up_i h2, hb]
        simp (disch := omega) only [z_up_i]
        rw [hG 40 (by decide) (by decide)]
      · rw [z_up_i (by decide), hb]
        simp (disch := omega) only [z_up_i, z_up_at]
      · rw [hW 1 (by decide), h6, z_up_at rfl rfl]
  have hw15 : w < 16 := by omega
  obtain ⟨t, E, ht, m1, m2, m3, m4, m5⟩ := begin_C (N := N) (L := L) (by omega) hX (by omega)
  have hR0 := m5 (z_up G 40 0 (nn 0)) (by rw [z_up_ne (by decide), hG 42 (by decide) (by decide)])
  rw [hG1] at hR0
  generalize hE0 : z_up (z_up E 15 5 (nn 0)) 15 6 (nn 0) = E0
  have hE0' := hE0.symm
  generalize hG2 : z_up G1 40 32 (nn 0) = G2
  have hG2' := hG2.symm
  have r0 : ∀ r, r ≠ 1 → r ≠ 15 → E0 r = D r := fun r h1 h2 => by rw [hE0', z_up_ne h2, z_up_ne h2, m2 r h1]
  have s0 : ∀ r, r ≠ 40 → G2 r = G r := fun r hr => by rw [hG2', hb]; simp (disch := omega) only [z_up_ne, ne_eq, hr, not_false_eq_true]
  have s4 : ∀ j, 8 < j → j ≠ 32 → G2 40 j = G 40 j := fun j h1 h2 => by rw [hG2', hb]; simp (disch := omega) only [z_up_i]
  have hW0 : WS t L 0 0 0 0 0 o ns pe E0 G2 := by
    refine ⟨?_, ?_, ⟨?_, ?_⟩, ⟨?_, ?_⟩, ⟨by omega, by omega, by omega⟩, ⟨?_, ?_⟩, ⟨?_, ?_⟩⟩
    · rw [hE0', hG2']
      exact ((hR0.upP (by decide) (by decide)).upP (by decide) (by decide)).upM (Or.inr (Or.inl (by decide))) (by decide)
    · rw [hE0']
      unfold OK
      rw [z_up_r (by decide), z_up_r (by decide)]
      exact m4
    · rw [hE0', z_up_i (by decide), z_up_at rfl rfl]
    · rw [hE0', z_up_at rfl rfl]
    · rw [hG2', z_up_at rfl rfl]
    · rw [hG2', hb]; simp (disch := omega) only [z_up_i, z_up_at]
    · rw [r0 o (by omega) (by omega)]; exact o5
    · rw [r0 o (by omega) (by omega)]; exact o6
    · rw [s4 19 (by decide) (by decide), hG 40 (by decide) (by decide)]; exact g19
    · rw [s4 20 (by decide) (by decide), hG 40 (by decide) (by decide)]; exact g20
  obtain ⟨E1, F, p1, p2, p3, p4, p5⟩ := read_T (N := N) (by omega) hL2 ho' hns hpe 200 0 0 0 0 N N E0 G2 (by omega) hW0 (by omega) (by omega)
  have hrd : F_X7_read N o E = some E1 := by
    rw [← p1, ← hE0]
    rfl
  have e11 : E1 1 1 = nn 0 := by rw [p3.2 1 (by decide), hE0', z_up_r (by decide), z_up_r (by decide)]; exact m3
  have rE1 : ∀ r, r ≠ 1 → (r < 15 ∨ 19 < r) → E1 r = D r := fun r h1 h2 => by rw [p3.1 r h1 h2, r0 r h1 (by omega)]
  have rF : ∀ r, r ≠ 40 → r ≠ 55 → F r = G r := fun r h1 h2 => by rw [p4.1 r h1 h2, s0 r h1]
  have cF : ∀ j, 8 < j → j ≠ 32 → F 40 j = G 40 j := fun j h1 h2 => by rw [p4.2 j (by omega), s4 j h1 h2]
  have cF0 : F 40 0 = nn 0 := by
    rw [p4.2 0 (by omega), hG2', hb]
    simp (disch := omega) only [z_up_i, z_up_at]
  have cF2 : F 40 2 = nn 0 := by
    rw [p4.2 2 (by omega), hG2', hb]
    simp (disch := omega) only [z_up_i, z_up_at]
  have hMw : F_X11_work N (nn L) G = F_X11_work_J89 N F := by
    rw [← p2]
    simp (disch := omega) only [F_X11_work, F_X11_work_J30x, g2, dem_ok, dem_no, demT_ok, demT_no, z_bt_l, z_bt_r, z_try_l, z_try_r, nl_I, nl_N, nl_IN, nl_NI, may_okU, may_noU, z_up_at, z_up_i, z_up_r, ↓reduceIte, ↓z_letE, ↓z_bdE, nn_l2, nn_add, nn_mul, nn_sub, nn_addM, nn_div, nn_rem, nn_min, nn_max, nn_abs, nn_ltT, nn_ltF, nn_leT, nn_leF, nn_eqT, nn_eqF, nn_eqM, nn_Meq, nn_ltM, nn_Mlt, nn_leM, nn_Mle, z_ix_nn, z_inb_nn, F_at_nn, F_put_nn, Nat.zero_add, Nat.add_zero, z_P_some, z_R_some, z_P_bd]
    rw [hG1]
    have nf : ¬ nn w = nn 16 := by rw [nn_eq (by omega) (by decide)]; exact hw16
    simp only [b33, nf, ↓reduceIte, hG2]
  rcases p5 with ⟨hok, -, -, m', ne, ni, k', f, hWS, hBK⟩ | ⟨hok, hRC⟩
  rotate_left
  · -- a fault
    obtain ⟨k, pl, hA⟩ := hRC.fa hok
    obtain ⟨k1, k2, k3, k4, k5, k6, k7⟩ := id hA
    have hf := hA.T.1
    have hXp : F_X10_work N o (nn L) D = some (.inl (F_X8_verdict E1, E1)) := by
      have lt : nn w < nn 16 := by rw [nn_lt (by omega) (by decide)]; exact hw15
      simp (disch := omega) only [F_X10_work, hhas, hw1, m1, hrd, hf, dem_ok, dem_no, demT_ok, demT_no, z_bt_l, z_bt_r, z_try_l, z_try_r, nl_I, nl_N, nl_IN, nl_NI, may_okU, may_noU, z_up_at, z_up_i, z_up_r, ↓reduceIte, ↓z_letE, ↓z_bdE, nn_l2, nn_add, nn_mul, nn_sub, nn_addM, nn_div, nn_rem, nn_min, nn_max, nn_abs, nn_ltT, nn_ltF, nn_leT, nn_leF, nn_eqT, nn_eqF, nn_eqM, nn_Meq, nn_ltM, nn_Mlt, nn_leM, nn_Mle, z_ix_nn, z_inb_nn, F_at_nn, F_put_nn, Nat.zero_add, Nat.add_zero, z_P_some, z_R_some, z_P_bd]
    have hr : F_X11_work_J89 N F = some (nn k - nn 10, z_up F 40 8 (nn pl)) := by
      simp (disch := omega) only [F_X11_work_J89, F_X11_result, F_X11_fine, k6, k7, z_up_i, ↓reduceIte, ↓z_letE, ↓z_bdE, nn_l2, nn_add, nn_mul, nn_sub, nn_addM, nn_div, nn_rem, nn_min, nn_max, nn_abs, nn_ltT, nn_ltF, nn_leT, nn_leF, nn_eqT, nn_eqF, nn_eqM, nn_Meq, nn_ltM, nn_Mlt, nn_leM, nn_Mle, z_ix_nn, z_inb_nn, F_at_nn, F_put_nn, Nat.zero_add, Nat.add_zero, z_P_some, z_R_some, z_P_bd]
    rw [hXp, hMw, hr, z_R_some]
    refine ⟨_, E1, rfl, fun q a b => rE1 q (by omega) (by omega), ?_, ?_, fun q hq => ?_, fun hW => ?_⟩
    · unfold F_X8_verdict
      rw [k4]
      rfl
    · dsimp only
      rw [z_up_i (by decide)]
      exact cF0
    · dsimp only
      rw [z_up_ne (by omega), rF q (by omega) (by omega)]
    · dsimp only at hW ⊢
      refine fin _ (fun q h1 h2 h3 h4 => by rw [hW q h1, rE1 q h3 (by unfold SC at h2; omega)]) (by rw [hW 29 (by decide), rE1 29 (by decide) (by decide)]) (fun q h1 h2 h3 => by rw [z_up_ne (by omega), rF q (by omega) (fun q' => h3 (by unfold SC; omega)), hG q (by omega) h2]) (fun j hj h1 h2 => ?_) (by rw [hW 1 (by decide)]; exact e11) (by rw [z_up_i (by decide)]; exact cF2) (by rw [hW 1 (by decide), z_up_at rfl rfl]; exact k5)
      unfold KK at hj
      rw [z_up_i h2, cF j (by omega) (by omega), hG 40 (by decide) (by decide)]
  -- all is well: it is gone through
  obtain ⟨hRC, -, ⟨w1, w2⟩, ⟨w3, w4⟩, ⟨w5, w6, w7⟩, ⟨w8, w9⟩, ⟨w10, w11⟩⟩ := hWS
  obtain ⟨h', p', hm', hI⟩ := hRC.fi hok
  have hIL := hI.1.2.1
  have hf := hI.T.1
  have F5 := hI.2.2.2.2.2
  have E16 := hI.2.2.2.1
  have f33 : F 40 33 = nn w := by rw [cF 33 (by decide) (by decide)]; exact g33
  obtain ⟨C, j1, j2, j3, j4, j5, j6, j7, j8, j9, j10, j11, j12⟩ := J89_R (N := N) (ni := ni) (w := w) (F := F) (by omega) F5 w3 (by omega) f33 hw15
  have e21 : E1 21 3 = nn w := by rw [rE1 21 (by decide) (by decide)]; exact hw1
  obtain ⟨E2, u1, u2, u3, u4⟩ := copy_P (N := N) (r0 := 3 + 1) (n0 := 44) (r1 := 22) (n1 := 704) (a := 0) (b := w * 44) (m := 44) (D := E1) (by decide) (by omega) (by omega) (by decide) (by decide) (by omega)
  have e21' : E2 21 3 = nn w := by rw [u2 21 (by decide)]; exact e21
  have hrem : F_X4_remember N 3 E1 = some (z_up E2 21 3 (nn (w + 1))) := by
    simp (disch := omega) only [F_X4_remember, F_X9_saveTo, e21, u1, e21', ↓reduceIte, ↓z_letE, ↓z_bdE, nn_l2, nn_add, nn_mul, nn_sub, nn_addM, nn_div, nn_rem, nn_min, nn_max, nn_abs, nn_ltT, nn_ltF, nn_leT, nn_leF, nn_eqT, nn_eqF, nn_eqM, nn_Meq, nn_ltM, nn_Mlt, nn_leM, nn_Mle, z_ix_nn, z_inb_nn, F_at_nn, F_put_nn, Nat.zero_add, Nat.add_zero, z_P_some, z_R_some, z_P_bd]
  generalize hP : z_up (z_up (z_up (z_up E2 21 3 (nn (w + 1))) 15 7 (nn 0)) 15 8 (nn 0)) 15 6 (nn 0) = P
  have hP' := hP.symm
  have rP : ∀ r, r ≠ 15 → r ≠ 21 → r ≠ 22 → P r = E1 r := fun r h1 h2 h3 => by rw [hP', z_up_ne h1, z_up_ne h1, z_up_ne h1, z_up_ne h2, u2 r h3]
  have P5 : P 15 5 = nn ne := by
    rw [hP', z_up_i (by decide), z_up_i (by decide), z_up_i (by decide), z_up_r (by decide), u2 15 (by decide)]
    exact w1
  have hBKP : BK ns pe P (c56 C) f 6 0 ne 0 ni := hBK.keep _ _ _ _ _ _ (fun x _ hx => ⟨by rw [rP 16 (by decide) (by decide) (by decide)], by rw [rP 17 (by decide) (by decide) (by decide)], by rw [rP 18 (by decide) (by decide) (by decide)]⟩) (fun y _ hy => by rw [c56_e, j3 y hy])
  have hCVP : CV o ns pe rv P C := by
    refine ⟨⟨?_, ?_, ?_⟩, ⟨?_, ?_⟩, fun b hbb => ?_⟩
    · rw [rP o (by omega) (by omega) (by omega)]; exact w8
    · rw [rP o (by omega) (by omega) (by omega)]; exact w9
    · rw [rP o (by omega) (by omega) (by omega), rE1 o (by omega) (by omega)]; exact o7
    · rw [j7 20 (by decide) (by decide) (by decide) (by decide) (by decide)]; exact w11
    · rw [j7 21 (by decide) (by decide) (by decide) (by decide) (by decide), cF 21 (by decide) (by decide), hG 40 (by decide) (by decide)]; exact g21
    · rw [rP (o + 1) (by omega) (by omega) (by omega), rE1 (o + 1) (by omega) (by omega), j2 47 (by decide) (by decide) (by decide) (by decide), rF 47 (by decide) (by decide), hG 47 (by decide) (by decide)]
      obtain ⟨v, v1, v2, v3, -⟩ := hV b hbb
      exact ⟨v, v1, v2, v3⟩
  have eP4 : P 4 = D 4 := by rw [rP 4 (by decide) (by decide) (by decide), rE1 4 (by decide) (by decide)]
  have hTP : TR pe 300 (P 4) (C 58) := by
    rw [eP4]
    refine TR_eq hT hpe (fun _ _ => rfl) (fun j hj => ?_)
    rw [j4 j hj, rF 57 (by decide) (by decide), hG 57 (by decide) (by decide)]
  have hXS : XS pe P C 0 0 P C := ⟨⟨⟨fun _ _ _ _ => rfl, rfl⟩, ⟨fun _ _ _ => rfl, fun _ _ _ _ => rfl⟩, hTP, by rw [j11, hP', z_up_i (by decide), z_up_i (by decide), z_up_at rfl rfl], by rw [j12, hP', z_up_i (by decide), z_up_at rfl rfl]⟩, j10, by rw [hP', z_up_at rfl rfl]⟩
  have hne37 : ne ≤ 37 := by omega
  have hgo : ∃ E9 F9, COr N o N 0 0 0 P = some E9 ∧ F_X11_goesSteps N 64 0 (nn (3 * ni)) C = some F9 ∧ XL pe P C E9 F9 := by
    have key := seg_R (N := N) (o := o) (ns := ns) (pe := pe) (rv := rv) (ne := ne) (P := P) (C := C) (by omega) ho' hns hpe hrv hCVP P5 hne37 f 6 0 ne 0 ni hBKP (Nat.le_refl _) (by omega) 63 0 0 0 N N P C (by omega) (by omega) (by omega) (by omega) (by omega) (by omega) hXS
    rcases key with ⟨E9, F9, b', g', n9, y1, y2, y3, y4, y5, y6, y7, y8⟩ | ⟨E9, F9, y1, y2, y3, y4⟩
    · refine ⟨E9, F9, ?_, y2, y3.1⟩
      rw [y1]
      obtain ⟨n9', rfl⟩ : ∃ x, n9 = x + 1 := ⟨n9 - 1, by omega⟩
      have e5 : E9 15 5 = nn ne := by rw [y3.1.1.2]; exact P5
      rw [CO_s]
      simp (disch := omega) only [F_X7_carryOut_L23, e5, ↓reduceIte, ↓z_letE, ↓z_bdE, nn_l2, nn_add, nn_mul, nn_sub, nn_addM, nn_div, nn_rem, nn_min, nn_max, nn_abs, nn_ltT, nn_ltF, nn_leT, nn_leF, nn_eqT, nn_eqF, nn_eqM, nn_Meq, nn_ltM, nn_Mlt, nn_leM, nn_Mle, z_ix_nn, z_inb_nn, F_at_nn, F_put_nn, Nat.zero_add, Nat.add_zero, z_P_some, z_R_some, z_P_bd]
    · exact ⟨E9, F9, y1, y2, y3⟩
  obtain ⟨E9, F9, z1, z2, ⟨zE, zF⟩, ⟨zM, zMc⟩, zT, z7, z8⟩ := hgo
  have hco : F_X7_carryOut N o 3 (z_up E2 21 3 (nn (w + 1))) = some E9 := by
    rw [← z1, ← hP]
    rfl
  obtain ⟨F10, x1, x2, x3, x4⟩ := copies_P (N := N) (r0 := 58) (n0 := 60) (r1 := 57) (n1 := 60) (m := 60) (D := F9) (by decide) (by decide) (by decide) (by decide) (by omega)
  have hXp : F_X10_work N o (nn L) D = some (.inl (z_up E9 0 12 (E9 15 8) 15 7, z_up E9 0 12 (E9 15 8))) := by
    simp (disch := omega) only [F_X10_work, hhas, hw1, m1, hrd, hf, hrem, hco, dem_ok, dem_no, demT_ok, demT_no, z_bt_l, z_bt_r, z_try_l, z_try_r, nl_I, nl_N, nl_IN, nl_NI, may_okU, may_noU, z_up_at, z_up_i, z_up_r, ↓reduceIte, ↓z_letE, ↓z_bdE, nn_l2, nn_add, nn_mul, nn_sub, nn_addM, nn_div, nn_rem, nn_min, nn_max, nn_abs, nn_ltT, nn_ltF, nn_leT, nn_leF, nn_eqT, nn_eqF, nn_eqM, nn_Meq, nn_ltM, nn_Mlt, nn_leM, nn_Mle, z_ix_nn, z_inb_nn, F_at_nn, F_put_nn, Nat.zero_add, Nat.add_zero, z_P_some, z_R_some, z_P_bd]
  have hMp : F_X11_work_J89 N F = some (z_up F10 40 34 (F10 40 37) 40 36, z_up F10 40 34 (F10 40 37)) := by
    rw [j1, z2, z_bdE, x1, z_bdE]
  rw [hXp, hMw, hMp, z_R_some]
  have rE9 : ∀ r, r ≠ 4 → r ≠ 15 → r ≠ 20 → r ≠ 21 → r ≠ 22 → E9 r = E1 r := fun r h1 h2 h3 h4 h5 => by rw [zE r h1 h2 h3, rP r h2 h4 h5]
  have rD9 : ∀ r, r ≠ 1 → (r < 15 ∨ 19 < r) → r ≠ 4 → r ≠ 20 → r ≠ 21 → r ≠ 22 → E9 r = D r := fun r h1 h2 h3 h4 h5 h6 => by rw [rE9 r h3 (by omega) h4 h5 h6, rE1 r h1 h2]
  have rM : ∀ r, r ≠ 40 → r ≠ 55 → r ≠ 56 → r ≠ 57 → r ≠ 58 → r ≠ 59 → F10 r = G r := fun r h1 h2 h3 h4 h5 h6 => by rw [x2 r h4, zM r h1 h5, j2 r h1 h3 h5 h6, rF r h1 h2]
  have cM : ∀ j, j ≠ 35 → j ≠ 36 → j ≠ 37 → F10 40 j = C 40 j := fun j h1 h2 h3 => by rw [x2 40 (by decide), zMc j h1 h2 h3]
  have cM2 : ∀ j, 8 < j → j ≠ 32 → j ≠ 33 → j ≠ 35 → j ≠ 36 → j ≠ 37 → F10 40 j = G 40 j := fun j h0 h1 h2 h3 h4 h5 => by rw [cM j h3 h4 h5, j7 j (by omega) h2 h3 h4 h5, cF j h0 h1]
  refine ⟨_, _, rfl, fun q a b => by rw [z_up_ne (by omega), rD9 q (by omega) (by omega) (by omega) (by omega) (by omega) (by omega)], ?_, ?_, fun q hq => ?_, fun hW => ?_⟩
  · dsimp only
    rw [z_up_i (by decide), z_up_r (by decide), x2 40 (by decide)]
    exact z7.symm
  · dsimp only
    rw [z_up_i (by decide), cM 0 (by decide) (by decide) (by decide), j7 0 (by decide) (by decide) (by decide) (by decide) (by decide)]
    exact cF0
  · dsimp only
    rw [z_up_ne (by omega), rM q (by omega) (by omega) (by omega) (by omega) (by omega) (by omega)]
  · dsimp only at hW ⊢
    generalize hWW : z_up F10 40 34 (F10 40 37) = W at hW ⊢
    have hW' := hWW.symm
    have wp : ∀ q, (q < 40 ∨ 67 < q) → q ≠ 0 → q ≠ 1 → (q < 15 ∨ 22 < q) → q ≠ 4 → W q = D q := fun q h1 h2 h3 h4 h5 => by rw [hW q h1, z_up_ne h2, rD9 q h3 (by omega) h5 (by omega) (by omega) (by omega)]
    have wm : ∀ q, 40 < q → q ≤ 66 → q ≠ 55 → q ≠ 56 → q ≠ 57 → q ≠ 58 → q ≠ 59 → W q = D q := fun q h1 h2 h3 h4 h5 h6 h7 => by rw [hW', z_up_ne (by omega), rM q (by omega) h3 h4 h5 h6 h7, hG q (by omega) h2]
    have wc : ∀ j, 8 < j → j ≠ 32 → j ≠ 33 → j ≠ 34 → j ≠ 35 → j ≠ 36 → j ≠ 37 → W 40 j = D 40 j := fun j h0 h1 h2 h3 h4 h5 h6 => by rw [hW', z_up_i h3, cM2 j h0 h1 h2 h4 h5 h6, hG 40 (by decide) (by decide)]
    have W4 : W 4 = E9 4 := by rw [hW 4 (by decide), z_up_ne (by decide)]
    have W21 : W 21 = P 21 := by rw [hW 21 (by decide), z_up_ne (by decide), zE 21 (by decide) (by decide) (by decide)]
    have W22 : W 22 = E2 22 := by rw [hW 22 (by decide), z_up_ne (by decide), zE 22 (by decide) (by decide) (by decide), hP', z_up_ne (by decide), z_up_ne (by decide), z_up_ne (by decide), z_up_ne (by decide)]
    have W59 : W 59 = C 59 := by rw [hW', z_up_ne (by decide), x2 59 (by decide), zM 59 (by decide) (by decide)]
    refine ⟨ho, ns, pe, rv, hC.keep (wp _ (by omega) (by omega) (by omega) (by omega) (by omega)) (wp _ (by omega) (by omega) (by omega) (by omega) (by omega)) (wp _ (by omega) (by omega) (by omega) (by omega) (by omega)) (wp _ (by omega) (by omega) (by omega) (by omega) (by omega)) (wc 19 (by decide) (by decide) (by decide) (by decide) (by decide) (by decide) (by decide)) (wc 20 (by decide) (by decide) (by decide) (by decide) (by decide) (by decide) (by decide)) (wc 21 (by decide) (by decide) (by decide) (by decide) (by decide) (by decide) (by decide)) (wm 47 (by decide) (by decide) (by decide) (by decide) (by decide) (by decide) (by decide)) (wm 48 (by decide) (by decide) (by decide) (by decide) (by decide) (by decide) (by decide)), ?_, hLR.keep (wp 7 (by decide) (by decide) (by decide) (by decide) (by decide)) (wp 8 (by decide) (by decide) (by decide) (by decide) (by decide)) (wc 28 (by decide) (by decide) (by decide) (by decide) (by decide) (by decide) (by decide)) (wm 51 (by decide) (by decide) (by decide) (by decide) (by decide) (by decide) (by decide)) (wm 52 (by decide) (by decide) (by decide) (by decide) (by decide) (by decide) (by decide)), ?_, ⟨w + 1, by omega, ?_, ?_, fun k hk => ?_⟩, ?_, ⟨⟨0, by omega, ?_, ?_⟩, fun j hj => ?_, ?_⟩, ?_, ?_, ?_⟩
    · rw [W4]
      refine TR_eq zT hpe (fun _ _ => rfl) (fun j hj => ?_)
      rw [hW', z_up_r (by decide), x3 j hj]
    · unfold BR
      rw [wp 13 (by decide) (by decide) (by decide) (by decide) (by decide), wm 61 (by decide) (by decide) (by decide) (by decide) (by decide) (by decide) (by decide), wp 12 (by decide) (by decide) (by decide) (by decide) (by decide), wc 43 (by decide) (by decide) (by decide) (by decide) (by decide) (by decide) (by decide), wp 29 (by decide) (by decide) (by decide) (by decide) (by decide)]
      exact hBR
    · rw [W21, hP', z_up_r (by decide), z_up_r (by decide), z_up_r (by decide), z_up_at rfl rfl]
    · rw [hW', z_up_i (by decide), cM 33 (by decide) (by decide) (by decide)]
      exact j9
    · by_cases hkw : k = w
      · subst hkw
        refine TR_eq hT hpe (fun j hj => ?_) (fun j hj => ?_)
        · show W 22 (44 * k + j) = D 4 j
          rw [W22, show 44 * k + j = k * 44 + j by omega, u3 j hj, Nat.zero_add, rE1 4 (by decide) (by decide)]
        · show W 59 (60 * k + j) = D 57 j
          rw [W59, j6 j hj, rF 57 (by decide) (by decide), hG 57 (by decide) (by decide)]
      · refine TR_eq (hwT k (by omega)) hpe (fun j hj => ?_) (fun j hj => ?_)
        · show W 22 (44 * k + j) = D 22 (44 * k + j)
          rw [W22, u4 _ (Or.inl (by omega)), rE1 22 (by decide) (by decide)]
        · show W 59 (60 * k + j) = D 59 (60 * k + j)
          rw [W59, j5 _ (by omega), rF 59 (by decide) (by decide), hG 59 (by decide) (by decide)]
    · have W214 : W 21 4 = D 21 4 := by rw [W21, hP', z_up_r (by decide), z_up_r (by decide), z_up_r (by decide), z_up_i (by decide), u2 21 (by decide), rE1 21 (by decide) (by decide)]
      unfold IM
      rw [W214, wp 23 (by decide) (by decide) (by decide) (by decide) (by decide), wp 24 (by decide) (by decide) (by decide) (by decide) (by decide), wm 66 (by decide) (by decide) (by decide) (by decide) (by decide) (by decide) (by decide), wc 54 (by decide) (by decide) (by decide) (by decide) (by decide) (by decide) (by decide)]
      exact hIM
    · rw [hW 1 (by decide), z_up_ne (by decide), rE9 1 (by decide) (by decide) (by decide) (by decide) (by decide)]
      exact e11
    · rw [hW', z_up_i (by decide), cM 2 (by decide) (by decide) (by decide), j7 2 (by decide) (by decide) (by decide) (by decide) (by decide)]
      exact cF2
    · rw [wp 2 (by decide) (by decide) (by decide) (by decide) (by decide), wm 42 (by decide) (by decide) (by decide) (by decide) (by decide) (by decide) (by decide)]
      exact htape j hj
    · rw [hW 1 (by decide), z_up_ne (by decide), rE9 1 (by decide) (by decide) (by decide) (by decide) (by decide), hW', z_up_i (by decide), cM 8 (by decide) (by decide) (by decide), j8]
      exact E16
    · rw [hW 0 (by decide), z_up_at rfl rfl, hW', z_up_at rfl rfl, x2 40 (by decide)]
      exact z8
    · rw [hW 0 (by decide), z_up_i (by decide), rD9 0 (by decide) (by decide) (by decide) (by decide) (by decide) (by decide), wm 41 (by decide) (by decide) (by decide) (by decide) (by decide) (by decide) (by decide)]
      exact hM.2.1
    · rw [hW 0 (by decide), z_up_i (by decide), rD9 0 (by decide) (by decide) (by decide) (by decide) (by decide) (by decide), wm 41 (by decide) (by decide) (by decide) (by decide) (by decide) (by decide) (by decide)]
      exact hM.2.2
