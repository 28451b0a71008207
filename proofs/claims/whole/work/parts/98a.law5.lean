/-! ===== a law: the whole call ===== -/
theorem TOP_w {o n : Nat} {D : z_Dat} {X : Option ((Int32 × z_Dat) ⊕ (String × z_Dat))} {FL : Option (Int32 × z_Dat)} {g : String × z_Dat → Option (Int32 × z_Dat)} {FM : z_Dat → Option (Int32 × z_Dat)} (hFL : FL = z_try X (fun a => some (0, z_upJ a.2 67 0 a.1.toInt64)) g)
    (hR : ∀ G, (∀ r, 40 ≤ r → r ≤ 66 → G r = D r) → z_R X (FM G) (fun a c => ∃ r E, a = .inl (r, E) ∧ (∀ q, 40 ≤ q → q ≤ 66 → E q = D q) ∧ c.1 = r ∧ c.2 40 0 = nn 0 ∧ (∀ q, (q < 40 ∨ 66 < q) → c.2 q = G q) ∧ ((∀ q, (q < 40 ∨ 67 < q) → c.2 q = E q) → J o n c.2))) : TOP FL FM (J o n) := by
  obtain ⟨a, c, h1, h2, r, E, rfl, hE, -⟩ := hR D (fun _ _ _ => rfl)
  have hG : ∀ q, q ≠ 67 → z_upJ E 67 0 r.toInt64 q = E q := fun q hq => by unfold z_upJ; rw [z_up_ne hq, z_up_ne hq]
  obtain ⟨a', c', k1, k2, r', E', e1, -, e2, e3, e4, e5⟩ := hR (z_upJ E 67 0 r.toInt64) (fun q a b => by rw [hG q (by omega)]; exact hE q a b)
  rw [h1] at k1
  cases k1
  cases e1
  obtain ⟨x, D2⟩ := c'
  have e2 : x = r := e2
  subst e2
  refine ⟨0, x, _, D2, ?_, k2, e3, fun _ => ?_, e5 (fun q hq => by
    have := e4 q (by omega)
    dsimp only at this
    show D2 q = E q
    rw [this, hG q (by omega)])⟩
  · rw [hFL, h1, z_try_l]
  · rw [ld_row (e4 67 (Or.inr (by decide))), z_upJ_same]
    exact lg_self _
theorem has_bad {D : z_Dat} {fd b : Nat} {a1 : Int32} (hfd : fd ≤ 600) (hb : b ≤ 600) (f1 : D 1 1 = nn fd) (f2 : D 40 2 = nn fd) : (∃ L, L ≤ fd ∧ L ≤ b ∧ a1 = nn L ∧ F_X8_has a1 (nn b) D = nn 1) ∨ (F_X8_has a1 (nn b) D = nn 0 ∧ (a1 < nn 0 ∨ (¬ a1 < nn 0 ∧ nn fd < a1) ∨ (¬ a1 < nn 0 ∧ ¬ nn fd < a1 ∧ nn b < a1))) := by
  by_cases h0 : a1 < nn 0
  · exact Or.inr ⟨by simp (disch := omega) only [F_X8_has, h0, ↓reduceIte, ↓z_letE, ↓z_bdE, nn_l2, nn_add, nn_mul, nn_sub, nn_addM, nn_div, nn_rem, nn_min, nn_max, nn_abs, nn_ltT, nn_ltF, nn_leT, nn_leF, nn_eqT, nn_eqF, nn_eqM, nn_Meq, nn_ltM, nn_Mlt, nn_leM, nn_Mle, z_ix_nn, z_inb_nn, F_at_nn, F_put_nn, Nat.zero_add, Nat.add_zero, z_P_some, z_R_some, z_P_bd], Or.inl h0⟩
  by_cases h1 : nn fd < a1
  · exact Or.inr ⟨by simp (disch := omega) only [F_X8_has, h0, f1, h1, ↓reduceIte, ↓z_letE, ↓z_bdE, nn_l2, nn_add, nn_mul, nn_sub, nn_addM, nn_div, nn_rem, nn_min, nn_max, nn_abs, nn_ltT, nn_ltF, nn_leT, nn_leF, nn_eqT, nn_eqF, nn_eqM, nn_Meq, nn_ltM, nn_Mlt, nn_leM, nn_Mle, z_ix_nn, z_inb_nn, F_at_nn, F_put_nn, Nat.zero_add, Nat.add_zero, z_P_some, z_R_some, z_P_bd], Or.inr (Or.inl ⟨h0, h1⟩)⟩
  obtain ⟨L, hL, rfl⟩ := n_of (b := fd) h0 h1 (by omega)
  by_cases h2 : L ≤ b
  · exact Or.inl ⟨L, hL, h2, rfl, by simp (disch := omega) only [F_X8_has, f1, ↓reduceIte, ↓z_letE, ↓z_bdE, nn_l2, nn_add, nn_mul, nn_sub, nn_addM, nn_div, nn_rem, nn_min, nn_max, nn_abs, nn_ltT, nn_ltF, nn_leT, nn_leF, nn_eqT, nn_eqF, nn_eqM, nn_Meq, nn_ltM, nn_Mlt, nn_leM, nn_Mle, z_ix_nn, z_inb_nn, F_at_nn, F_put_nn, Nat.zero_add, Nat.add_zero, z_P_some, z_R_some, z_P_bd]⟩
  · exact Or.inr ⟨by simp (disch := omega) only [F_X8_has, f1, ↓reduceIte, ↓z_letE, ↓z_bdE, nn_l2, nn_add, nn_mul, nn_sub, nn_addM, nn_div, nn_rem, nn_min, nn_max, nn_abs, nn_ltT, nn_ltF, nn_leT, nn_leF, nn_eqT, nn_eqF, nn_eqM, nn_Meq, nn_ltM, nn_Mlt, nn_leM, nn_Mle, z_ix_nn, z_inb_nn, F_at_nn, F_put_nn, Nat.zero_add, Nat.add_zero, z_P_some, z_R_some, z_P_bd], Or.inr (Or.inr ⟨h0, h1, by rw [nn_lt (by omega) (by omega)]; omega⟩)⟩
theorem LR.cells {D G E F : z_Dat} (h : LR D G) (h1 : E 7 6 = D 7 6) (h2 : E 7 4 = D 7 4) (h3 : E 8 = D 8) (g1 : F 40 28 = G 40 28) (g2 : F 51 = G 51) (g3 : F 52 = G 52) : LR E F := by
  rcases h with ⟨a, b⟩ | ⟨m, dep, a, b, c, d, e, f, g⟩
  · exact Or.inl ⟨by rw [h1]; exact a, by rw [g1]; exact b⟩
  · exact Or.inr ⟨m, dep, a, b, by rw [h1]; exact c, by rw [h2]; exact d, by rw [g1]; exact e, f, fun k hk => (g k hk).keep h3 g2 g3⟩
set_option maxHeartbeats 2000000 in
theorem T_law {N o n : Nat} {a1 : Int32} {D : z_Dat} (hN : 2000 < N) (hJ : J o n D) : TOP (F_L_law N a1 D) (F_X11_law N a1) (J o n) := by
  obtain ⟨ho, ns, pe, rv, hB⟩ := id hJ
  obtain ⟨hC, hT, hLR, hBR, hPA, hIM, ⟨⟨fd, hfd, fd1, fd2⟩, htape, hflt⟩, hM⟩ := id hB
  rcases has_bad (a1 := a1) (b := 150) hfd (by decide) fd1 fd2 with ⟨L, hL, hL2, rfl, hhas⟩ | ⟨hhas, hout⟩
  rotate_left
  · refine TOP_t (c := 1) (k := 1) hJ (by decide) (by decide) (by decide) ?_ (fun G hG => ?_)
    · simp (disch := omega) only [F_L_law, F_X10_law, hhas, dem_ok, dem_no, demT_ok, demT_no, z_bt_l, z_bt_r, z_try_l, z_try_r, nl_I, nl_N, nl_IN, nl_NI, may_okU, may_noU, z_up_at, z_up_i, z_up_r, ↓reduceIte, ↓z_letE, ↓z_bdE, nn_l2, nn_add, nn_mul, nn_sub, nn_addM, nn_div, nn_rem, nn_min, nn_max, nn_abs, nn_ltT, nn_ltF, nn_leT, nn_leF, nn_eqT, nn_eqF, nn_eqM, nn_Meq, nn_ltM, nn_Mlt, nn_leM, nn_Mle, z_ix_nn, z_inb_nn, F_at_nn, F_put_nn, Nat.zero_add, Nat.add_zero, z_P_some, z_R_some, z_P_bd]
    · have g2 : G 40 2 = nn fd := by rw [hG 40 (by decide)]; exact fd2
      rcases hout with h | h | h
      · simp (disch := omega) only [F_X11_law, F_X11_law_J29, F_X11_law_J30, h, dem_ok, dem_no, demT_ok, demT_no, z_bt_l, z_bt_r, z_try_l, z_try_r, nl_I, nl_N, nl_IN, nl_NI, may_okU, may_noU, z_up_at, z_up_i, z_up_r, ↓reduceIte, ↓z_letE, ↓z_bdE, nn_l2, nn_add, nn_mul, nn_sub, nn_addM, nn_div, nn_rem, nn_min, nn_max, nn_abs, nn_ltT, nn_ltF, nn_leT, nn_leF, nn_eqT, nn_eqF, nn_eqM, nn_Meq, nn_ltM, nn_Mlt, nn_leM, nn_Mle, z_ix_nn, z_inb_nn, F_at_nn, F_put_nn, Nat.zero_add, Nat.add_zero, z_P_some, z_R_some, z_P_bd]
      · simp (disch := omega) only [F_X11_law, F_X11_law_J29, F_X11_law_J30, g2, h.1, h.2, dem_ok, dem_no, demT_ok, demT_no, z_bt_l, z_bt_r, z_try_l, z_try_r, nl_I, nl_N, nl_IN, nl_NI, may_okU, may_noU, z_up_at, z_up_i, z_up_r, ↓reduceIte, ↓z_letE, ↓z_bdE, nn_l2, nn_add, nn_mul, nn_sub, nn_addM, nn_div, nn_rem, nn_min, nn_max, nn_abs, nn_ltT, nn_ltF, nn_leT, nn_leF, nn_eqT, nn_eqF, nn_eqM, nn_Meq, nn_ltM, nn_Mlt, nn_leM, nn_Mle, z_ix_nn, z_inb_nn, F_at_nn, F_put_nn, Nat.zero_add, Nat.add_zero, z_P_some, z_R_some, z_P_bd]
      · simp (disch := omega) only [F_X11_law, F_X11_law_J29, F_X11_law_J30, g2, h.1, h.2.1, h.2.2, dem_ok, dem_no, demT_ok, demT_no, z_bt_l, z_bt_r, z_try_l, z_try_r, nl_I, nl_N, nl_IN, nl_NI, may_okU, may_noU, z_up_at, z_up_i, z_up_r, ↓reduceIte, ↓z_letE, ↓z_bdE, nn_l2, nn_add, nn_mul, nn_sub, nn_addM, nn_div, nn_rem, nn_min, nn_max, nn_abs, nn_ltT, nn_ltF, nn_leT, nn_leF, nn_eqT, nn_eqF, nn_eqM, nn_Meq, nn_ltM, nn_Mlt, nn_leM, nn_Mle, z_ix_nn, z_inb_nn, F_at_nn, F_put_nn, Nat.zero_add, Nat.add_zero, z_P_some, z_R_some, z_P_bd]
  refine TOP_w (D := D) rfl (fun G hG => ?_)
  obtain ⟨t, E, ht, m1, m2, m3, m4, m5⟩ := begin_C (L := L) hN ⟨⟨fd, hfd, fd1, fd2⟩, htape, hflt⟩ (by omega)
  have g2 : G 40 2 = nn fd := by rw [hG 40 (by decide) (by decide)]; exact fd2
  have hR0 := m5 (z_up G 40 0 (nn 0)) (by rw [z_up_ne (by decide), hG 42 (by decide) (by decide)])
  have hb : F_X11_begins (nn L) (z_up G 40 0 (nn 0)) = z_up (z_up (z_up (z_up (z_up (z_up (z_up G 40 0 (nn 0)) 40 2 (nn 0)) 40 8 (-nn 1)) 40 3 (nn L)) 40 4 (nn 0)) 40 5 (-nn 1)) 40 7 (nn 0) := rfl
  generalize hG1 : F_X11_begins (nn L) (z_up G 40 0 (nn 0)) = G1 at hR0 hb
  have hS0 : LSm t L 0 0 0 0 (z_up E 7 5 (nn 0)) (z_up G1 40 27 (nn 0)) := ⟨(hR0.upP (by decide) (by decide)).upM (Or.inr (Or.inl (by decide))) (by decide), fun _ => ⟨0, by omega, z_up_at rfl rfl, z_up_at rfl rfl, by rw [z_up_i (by decide), hb, z_up_at rfl rfl], fun _ => 0, rfl, rfl, fun k hk => absurd hk (by omega)⟩⟩
  obtain ⟨E1, F1, s1, s2, p1, p2, m', p3, hS1⟩ := sum_R hN hL2 64 0 0 0 0 _ _ (by decide) (by decide) hS0
  have hE1 : ∀ r, r ≠ 1 → r ≠ 7 → r ≠ 9 → E1 r = D r := fun r h1 h2 h3 => by rw [p1.1 r h1 h2 h3, z_up_ne h2, m2 r h1]
  have hE7 : ∀ j, j ≠ 5 → E1 7 j = D 7 j := fun j hj => by rw [p1.2.2 j hj, z_up_i hj, m2 7 (by decide)]
  have hE11 : E1 1 1 = nn 0 := by rw [p1.2.1 1 (by decide), z_up_r (by decide)]; exact m3
  have hF1 : ∀ r, r ≠ 40 → r ≠ 49 → r ≠ 50 → F1 r = G r := fun r h1 h2 h3 => by rw [p2.1 r h1 h2 h3, z_up_ne h1, hb, z_up_ne h1, z_up_ne h1, z_up_ne h1, z_up_ne h1, z_up_ne h1, z_up_ne h1, z_up_ne h1]
  have hF4 : ∀ j, 8 < j → j ≠ 27 → F1 40 j = G 40 j := fun j h1 h2 => by
    rw [p2.2 j (by omega), z_up_i h2, hb]
    simp (disch := omega) only [z_up_i]
  have hF0 : F1 40 0 = nn 0 := by
    rw [p2.2 0 (by omega), z_up_i (by decide), hb]
    simp (disch := omega) only [z_up_i, z_up_at]
  have hF2 : F1 40 2 = nn 0 := by
    rw [p2.2 2 (by omega), z_up_i (by decide), hb]
    simp (disch := omega) only [z_up_i, z_up_at]
  -- a fault: what is left stands
  have bad : ∀ (P F : z_Dat) (k pl : Nat), FA k pl P F → (∀ r, r ≠ 1 → P r = E1 r) → P 1 1 = nn 0 → (∀ r, r ≠ 40 → F r = F1 r) → (∀ j, (j < 4 ∨ 6 < j) → F 40 j = F1 40 j) → z_R (some (.inl (F_X8_verdict P, P)) : Option ((Int32 × z_Dat) ⊕ (String × z_Dat))) (F_X11_law_J77 N F) (fun a c => ∃ r E, a = .inl (r, E) ∧ (∀ q, 40 ≤ q → q ≤ 66 → E q = D q) ∧ c.1 = r ∧ c.2 40 0 = nn 0 ∧ (∀ q, (q < 40 ∨ 66 < q) → c.2 q = G q) ∧ ((∀ q, (q < 40 ∨ 67 < q) → c.2 q = E q) → J o n c.2)) := fun P F k pl hA x1 x2 x3 x4 => by
    obtain ⟨k1, k2, k3, k4, k5, k6, k7⟩ := id hA
    have hr : F_X11_law_J77 N F = some (nn k - nn 10, z_up F 40 8 (nn pl)) := by
      simp (disch := omega) only [F_X11_law_J77, F_X11_result, F_X11_fine, k6, k7, z_up_i, ↓reduceIte, ↓z_letE, ↓z_bdE, nn_l2, nn_add, nn_mul, nn_sub, nn_addM, nn_div, nn_rem, nn_min, nn_max, nn_abs, nn_ltT, nn_ltF, nn_leT, nn_leF, nn_eqT, nn_eqF, nn_eqM, nn_Meq, nn_ltM, nn_Mlt, nn_leM, nn_Mle, z_ix_nn, z_inb_nn, F_at_nn, F_put_nn, Nat.zero_add, Nat.add_zero, z_P_some, z_R_some, z_P_bd]
    rw [hr, z_R_some]
    refine ⟨_, P, rfl, fun q a b => by rw [x1 q (by omega), hE1 q (by omega) (by omega) (by omega)], ?_, ?_, fun q hq => ?_, fun hW => ?_⟩
    · unfold F_X8_verdict
      rw [k4]
      rfl
    · dsimp only
      rw [z_up_i (by decide), x4 0 (by omega)]
      exact hF0
    · dsimp only
      rw [z_up_ne (by omega), x3 q (by omega), hF1 q (by omega) (by omega) (by omega)]
    · dsimp only at hW ⊢
      generalize hWW : z_up F 40 8 (nn pl) = W at hW ⊢
      have hW' := hWW.symm
      have wm : ∀ q, 40 < q → q ≤ 66 → q ≠ 49 → q ≠ 50 → W q = D q := fun q h1 h2 h3 h4 => by rw [hW', z_up_ne (by omega), x3 q (by omega), hF1 q (by omega) h3 h4, hG q (by omega) h2]
      have wp : ∀ q, (q < 40 ∨ 67 < q) → q ≠ 1 → q ≠ 7 → q ≠ 9 → W q = D q := fun q h1 h2 h3 h4 => by rw [hW q h1, x1 q h2, hE1 q h2 h3 h4]
      have wc : ∀ j, 8 < j → j ≠ 27 → W 40 j = D 40 j := fun j h1 h2 => by rw [hW', z_up_i (by omega), x4 j (by omega), hF4 j h1 h2, hG 40 (by decide) (by decide)]
      have w7 : ∀ j, j ≠ 5 → W 7 j = D 7 j := fun j hj => by rw [hW 7 (by decide), x1 7 (by decide), hE7 j hj]
      refine ⟨ho, ns, pe, rv, hC.keep (wp _ (by omega) (by omega) (by omega) (by omega)) (wp _ (by omega) (by omega) (by omega) (by omega)) (wp _ (by omega) (by omega) (by omega) (by omega)) (wp _ (by omega) (by omega) (by omega) (by omega)) (wc 19 (by decide) (by decide)) (wc 20 (by decide) (by decide)) (wc 21 (by decide) (by decide)) (wm 47 (by decide) (by decide) (by decide) (by decide)) (wm 48 (by decide) (by decide) (by decide) (by decide)), by rw [wp 4 (by decide) (by decide) (by decide) (by decide), wm 57 (by decide) (by decide) (by decide) (by decide)]; exact hT, hLR.cells (w7 6 (by decide)) (w7 4 (by decide)) (wp 8 (by decide) (by decide) (by decide) (by decide)) (wc 28 (by decide) (by decide)) (wm 51 (by decide) (by decide) (by decide) (by decide)) (wm 52 (by decide) (by decide) (by decide) (by decide)), ?_, ?_, ?_, ⟨⟨0, by omega, ?_, ?_⟩, fun j hj => ?_, ?_⟩, ?_⟩
      · unfold BR; rw [wp 13 (by decide) (by decide) (by decide) (by decide), wm 61 (by decide) (by decide) (by decide) (by decide), wp 12 (by decide) (by decide) (by decide) (by decide), wc 43 (by decide) (by decide), wp 29 (by decide) (by decide) (by decide) (by decide)]; exact hBR
      · unfold PA; rw [wp 21 (by decide) (by decide) (by decide) (by decide), wp 22 (by decide) (by decide) (by decide) (by decide), wm 59 (by decide) (by decide) (by decide) (by decide), wc 33 (by decide) (by decide)]; exact hPA
      · unfold IM; rw [wp 21 (by decide) (by decide) (by decide) (by decide), wp 23 (by decide) (by decide) (by decide) (by decide), wp 24 (by decide) (by decide) (by decide) (by decide), wm 66 (by decide) (by decide) (by decide) (by decide), wc 54 (by decide) (by decide)]; exact hIM
      · rw [hW 1 (by decide)]; exact x2
      · rw [hW', z_up_i (by decide), x4 2 (by omega)]; exact hF2
      · rw [wp 2 (by decide) (by decide) (by decide) (by decide), wm 42 (by decide) (by decide) (by decide) (by decide)]; exact htape j hj
      · rw [hW 1 (by decide), hW', z_up_at rfl rfl]; exact k5
      · unfold MI; rw [wp 0 (by decide) (by decide) (by decide) (by decide), wm 41 (by decide) (by decide) (by decide) (by decide), wc 34 (by decide) (by decide)]; exact hM
  have hM0 : F_X11_law N (nn L) G = z_bd (some F1) (fun a_39 => if F_X11_fine a_39 = nn 0 then F_X11_law_J77 N a_39 else z_bd (F_X11_isMore N a_39) (fun a_43 => if a_43.1 = nn 0 then F_X11_law_J77 N a_43.2 else z_let (F_X11_wrong (nn 1) (a_43.2 40 4) a_43.2) (fun a_46 => F_X11_law_J77 N a_46))) := by
    simp (disch := omega) only [F_X11_law, F_X11_law_J30x, g2, dem_ok, dem_no, demT_ok, demT_no, z_bt_l, z_bt_r, z_try_l, z_try_r, nl_I, nl_N, nl_IN, nl_NI, may_okU, may_noU, z_up_at, z_up_i, z_up_r, ↓reduceIte, ↓z_letE, ↓z_bdE, nn_l2, nn_add, nn_mul, nn_sub, nn_addM, nn_div, nn_rem, nn_min, nn_max, nn_abs, nn_ltT, nn_ltF, nn_leT, nn_leF, nn_eqT, nn_eqF, nn_eqM, nn_Meq, nn_ltM, nn_Mlt, nn_leM, nn_Mle, z_ix_nn, z_inb_nn, F_at_nn, F_put_nn, Nat.zero_add, Nat.add_zero, z_P_some, z_R_some, z_P_bd]
    rw [hG1, s2, z_bdE]
  rw [hM0, z_bdE]
  by_cases hok : OK E1
  rotate_left
  · obtain ⟨f1, f2⟩ := hS1.1.nf hok
    obtain ⟨k, pl, hA⟩ := hS1.1.fa hok
    obtain ⟨v, hv⟩ := byteAt_T (k := E1 1 3) (D := E1)
    have hn : F_X8_next E1 = some v := by
      unfold F_X8_next
      rw [hv, z_bdE]
    have hfl := fail_AP (x := nn 1) (y := E1 1 3) f1
    have hX : F_X10_law N (nn L) D = some (.inl (F_X8_verdict E1, E1)) := by
      by_cases hv1 : v = -nn 1
      · simp (disch := omega) only [F_X10_law, hhas, m1, F_X5_read, s1, hn, hv1, F_X5_read_J28, f1, dem_ok, dem_no, demT_ok, demT_no, z_bt_l, z_bt_r, z_try_l, z_try_r, nl_I, nl_N, nl_IN, nl_NI, may_okU, may_noU, z_up_at, z_up_i, z_up_r, ↓reduceIte, ↓z_letE, ↓z_bdE, nn_l2, nn_add, nn_mul, nn_sub, nn_addM, nn_div, nn_rem, nn_min, nn_max, nn_abs, nn_ltT, nn_ltF, nn_leT, nn_leF, nn_eqT, nn_eqF, nn_eqM, nn_Meq, nn_ltM, nn_Mlt, nn_leM, nn_Mle, z_ix_nn, z_inb_nn, F_at_nn, F_put_nn, Nat.zero_add, Nat.add_zero, z_P_some, z_R_some, z_P_bd]
      · simp (disch := omega) only [F_X10_law, hhas, m1, F_X5_read, s1, hn, hv1, hfl, F_X5_read_J28, f1, dem_ok, dem_no, demT_ok, demT_no, z_bt_l, z_bt_r, z_try_l, z_try_r, nl_I, nl_N, nl_IN, nl_NI, may_okU, may_noU, z_up_at, z_up_i, z_up_r, ↓reduceIte, ↓z_letE, ↓z_bdE, nn_l2, nn_add, nn_mul, nn_sub, nn_addM, nn_div, nn_rem, nn_min, nn_max, nn_abs, nn_ltT, nn_ltF, nn_leT, nn_leF, nn_eqT, nn_eqF, nn_eqM, nn_Meq, nn_ltM, nn_Mlt, nn_leM, nn_Mle, z_ix_nn, z_inb_nn, F_at_nn, F_put_nn, Nat.zero_add, Nat.add_zero, z_P_some, z_R_some, z_P_bd]
    rw [hX, if_pos f2]
    exact bad E1 F1 k pl hA (fun _ _ => rfl) hE11 (fun _ _ => rfl) (fun _ _ => rfl)
  obtain ⟨f1, f2⟩ := hS1.1.ff hok
  have nf2 : ¬ F_X11_fine F1 = nn 0 := by rw [f2]; decide
  rw [if_neg nf2]
  obtain ⟨h, F, hmh, hRM, hI, hRC, n1, n2, n3, -, n4⟩ := next_C (N := N) hN hS1.1 hok
  have hhL := hI.1.2.1
  by_cases hh : h < L
  · rw [if_pos hh] at n1 n3
    have htb := (hRC.1.2.1 h (by omega)).1
    obtain ⟨a1, a2, a3⟩ := fail_I (k := 1) (pl := h) hI (by decide) (by decide) (by omega)
    have af := a1.T.1
    have hX : F_X10_law N (nn L) D = some (.inl (F_X8_verdict (F_X8_fail (nn 1) (nn h) E1), F_X8_fail (nn 1) (nn h) E1)) := by
      simp (disch := omega) only [F_X10_law, hhas, m1, F_X5_read, s1, n1, hI.2.1, F_X5_read_J28, af, dem_ok, dem_no, demT_ok, demT_no, z_bt_l, z_bt_r, z_try_l, z_try_r, nl_I, nl_N, nl_IN, nl_NI, may_okU, may_noU, z_up_at, z_up_i, z_up_r, ↓reduceIte, ↓z_letE, ↓z_bdE, nn_l2, nn_add, nn_mul, nn_sub, nn_addM, nn_div, nn_rem, nn_min, nn_max, nn_abs, nn_ltT, nn_ltF, nn_leT, nn_leF, nn_eqT, nn_eqF, nn_eqM, nn_Meq, nn_ltM, nn_Mlt, nn_leM, nn_Mle, z_ix_nn, z_inb_nn, F_at_nn, F_put_nn, Nat.zero_add, Nat.add_zero, z_P_some, z_R_some, z_P_bd]
    rw [hX, n3, z_bdE]
    dsimp only
    rw [if_neg (by decide), n4, z_letE]
    exact bad _ _ 1 h a1 (fun r hr => a2.1 r hr) (by rw [a2.2 1 (by decide)]; exact hE11) (fun r hr => (a3.1 r hr).trans (hRM.1 r hr)) (fun j hj => (a3.2 j hj).trans (hRM.2 j hj))
  rw [if_neg hh] at n1 n3
  rw [n3, z_bdE]
  dsimp only
  rw [if_pos rfl]
  -- a law
  obtain ⟨nd, d1, d2, d3, d4, dep, d5, d6, d7⟩ := hS1.2 hok
  have hnd0 : 0 < nd := by
    rcases Nat.eq_zero_or_pos nd with h0 | h0
    · rw [h0, d5] at d6
      omega
    · exact h0
  have hnd : nd ≤ 150 := by omega
  obtain ⟨P1, c1, c2, c3, c4⟩ := copy_P (N := N) (r0 := 9) (n0 := 150) (r1 := 8) (n1 := 150) (a := 0) (b := 0) (m := nd) (D := E1) (by decide) (by omega) (by omega) (by decide) (by decide) (by omega)
  have p17 : ∀ j, P1 7 j = E1 7 j := fun j => by rw [c2 7 (by decide)]
  generalize hP : z_up (z_up P1 7 4 (nn nd)) 7 6 (nn 1) = P
  have hP' := hP.symm
  have pr : ∀ r, r ≠ 7 → r ≠ 8 → P r = E1 r := fun r h1 h2 => by rw [hP', z_up_ne h1, z_up_ne h1, c2 r h2]
  have hX : F_X10_law N (nn L) D = some (.inl (nn 1, P)) := by
    have pf : F_X8_failed P = nn 0 := by
      have := f1
      unfold F_X8_failed at this ⊢
      rw [pr 1 (by decide) (by decide)]
      exact this
    have e57 : P1 7 5 = nn nd := by rw [p17]; exact d2
    simp (disch := omega) only [F_X10_law, hhas, m1, F_X5_read, s1, n1, F_X5_read_J28, f1, d2, c1, e57, hP, pf, dem_ok, dem_no, demT_ok, demT_no, z_bt_l, z_bt_r, z_try_l, z_try_r, nl_I, nl_N, nl_IN, nl_NI, may_okU, may_noU, z_up_at, z_up_i, z_up_r, ↓reduceIte, ↓z_letE, ↓z_bdE, nn_l2, nn_add, nn_mul, nn_sub, nn_addM, nn_div, nn_rem, nn_min, nn_max, nn_abs, nn_ltT, nn_ltF, nn_leT, nn_leF, nn_eqT, nn_eqF, nn_eqM, nn_Meq, nn_ltM, nn_Mlt, nn_leM, nn_Mle, z_ix_nn, z_inb_nn, F_at_nn, F_put_nn, Nat.zero_add, Nat.add_zero, z_P_some, z_R_some, z_P_bd]
  have f5 := hI.2.2.2.2.2
  have f27 : F 40 27 = nn nd := by rw [hRM.2 27 (by omega)]; exact d3
  obtain ⟨Q1, u1, u2, u3, u4⟩ := copies_P (N := N) (r0 := 49) (n0 := 150) (r1 := 51) (n1 := 150) (m := nd) (D := z_up (z_up F 40 8 (-nn 1)) 40 28 (nn nd)) (by decide) (by omega) (by omega) (by omega) (by omega)
  have q27 : Q1 40 27 = nn nd := by rw [u2 40 (by decide), z_up_i (by decide), z_up_i (by decide)]; exact f27
  obtain ⟨Q2, v1, v2, v3, v4⟩ := copies_P (N := N) (r0 := 50) (n0 := 150) (r1 := 52) (n1 := 150) (m := nd) (D := Q1) (by decide) (by omega) (by omega) (by omega) (by omega)
  have hr : F_X11_law_J77 N F = some (nn 1, Q2) := by
    simp (disch := omega) only [F_X11_law_J77, F_X11_result, F_X11_fine, f5, z_up_i, f27, u1, q27, v1, ↓reduceIte, ↓z_letE, ↓z_bdE, nn_l2, nn_add, nn_mul, nn_sub, nn_addM, nn_div, nn_rem, nn_min, nn_max, nn_abs, nn_ltT, nn_ltF, nn_leT, nn_leF, nn_eqT, nn_eqF, nn_eqM, nn_Meq, nn_ltM, nn_Mlt, nn_leM, nn_Mle, z_ix_nn, z_inb_nn, F_at_nn, F_put_nn, Nat.zero_add, Nat.add_zero, z_P_some, z_R_some, z_P_bd]
  rw [hX, hr, z_R_some]
  have q40 : ∀ j, j ≠ 8 → j ≠ 28 → Q2 40 j = F 40 j := fun j h1 h2 => by rw [v2 40 (by decide), u2 40 (by decide), z_up_i h2, z_up_i h1]
  have qr : ∀ r, r ≠ 40 → r ≠ 51 → r ≠ 52 → Q2 r = F1 r := fun r h1 h2 h3 => by rw [v2 r h3, u2 r h2, z_up_ne h1, z_up_ne h1, hRM.1 r h1]
  refine ⟨_, P, rfl, fun q a b => by rw [pr q (by omega) (by omega), hE1 q (by omega) (by omega) (by omega)], rfl, ?_, fun q hq => ?_, fun hW => ?_⟩
  · dsimp only
    rw [q40 0 (by decide) (by decide), hRM.2 0 (by omega)]
    exact hF0
  · dsimp only
    rw [qr q (by omega) (by omega) (by omega), hF1 q (by omega) (by omega) (by omega)]
  · dsimp only at hW ⊢
    have wm : ∀ q, 40 < q → q ≤ 66 → q ≠ 49 → q ≠ 50 → q ≠ 51 → q ≠ 52 → Q2 q = D q := fun q h1 h2 h3 h4 h5 h6 => by rw [qr q (by omega) h5 h6, hF1 q (by omega) h3 h4, hG q (by omega) h2]
    have wp : ∀ q, (q < 40 ∨ 67 < q) → q ≠ 1 → q ≠ 7 → q ≠ 8 → q ≠ 9 → Q2 q = D q := fun q h1 h2 h3 h4 h5 => by rw [hW q h1, pr q h3 h4, hE1 q h2 h3 h5]
    have wc : ∀ j, 8 < j → j ≠ 27 → j ≠ 28 → Q2 40 j = D 40 j := fun j h1 h2 h3 => by rw [q40 j (by omega) h3, hRM.2 j (by omega), hF4 j h1 h2, hG 40 (by decide) (by decide)]
    have w7 : Q2 7 = P 7 := hW 7 (by decide)
    have w8 : ∀ k, k < nd → Q2 8 k = E1 9 k := fun k hk => by
      have := c3 k hk
      rw [Nat.zero_add] at this
      rw [hW 8 (by decide), hP', z_up_r (by decide), z_up_r (by decide), this]
    have w51 : ∀ k, k < nd → Q2 51 k = F1 49 k := fun k hk => by rw [v2 51 (by decide), u3 k hk, z_up_r (by decide), z_up_r (by decide), hRM.1 49 (by decide)]
    have w52 : ∀ k, k < nd → Q2 52 k = F1 50 k := fun k hk => by rw [v3 k hk, u2 50 (by decide), z_up_r (by decide), z_up_r (by decide), hRM.1 50 (by decide)]
    refine ⟨ho, ns, pe, rv, hC.keep (wp _ (by omega) (by omega) (by omega) (by omega) (by omega)) (wp _ (by omega) (by omega) (by omega) (by omega) (by omega)) (wp _ (by omega) (by omega) (by omega) (by omega) (by omega)) (wp _ (by omega) (by omega) (by omega) (by omega) (by omega)) (wc 19 (by decide) (by decide) (by decide)) (wc 20 (by decide) (by decide) (by decide)) (wc 21 (by decide) (by decide) (by decide)) (wm 47 (by decide) (by decide) (by decide) (by decide) (by decide) (by decide)) (wm 48 (by decide) (by decide) (by decide) (by decide) (by decide) (by decide)), by rw [wp 4 (by decide) (by decide) (by decide) (by decide) (by decide), wm 57 (by decide) (by decide) (by decide) (by decide) (by decide) (by decide)]; exact hT, Or.inr ⟨nd, dep, hnd0, hnd, ?_, ?_, ?_, d5, fun k hk => ?_⟩, ?_, ?_, ?_, ⟨⟨0, by omega, ?_, ?_⟩, fun j hj => ?_, ?_⟩, ?_⟩
    · rw [w7, hP', z_up_at rfl rfl]
    · rw [w7, hP', z_up_i (by decide), z_up_at rfl rfl]
    · rw [v2 40 (by decide), u2 40 (by decide), z_up_at rfl rfl]
    · have := d7 k hk
      unfold ENd at this
      unfold EN
      rw [w8 k hk, w51 k hk, w52 k hk]
      rcases this with ⟨v, x1, x2, x3, x4, x5⟩ | ⟨v, x1, x2, x3, x4, x5⟩ | ⟨v, x1, x2, x3, x4, x5⟩
      · exact Or.inl ⟨v, x1, x2, x3, x4, x5⟩
      · exact Or.inr (Or.inl ⟨v, x1, x2, x3, x4, x5⟩)
      · exact Or.inr (Or.inr ⟨v, x1, x2, x3, x4, x5⟩)
    · unfold BR; rw [wp 13 (by decide) (by decide) (by decide) (by decide) (by decide), wm 61 (by decide) (by decide) (by decide) (by decide) (by decide) (by decide), wp 12 (by decide) (by decide) (by decide) (by decide) (by decide), wc 43 (by decide) (by decide) (by decide), wp 29 (by decide) (by decide) (by decide) (by decide) (by decide)]; exact hBR
    · unfold PA; rw [wp 21 (by decide) (by decide) (by decide) (by decide) (by decide), wp 22 (by decide) (by decide) (by decide) (by decide) (by decide), wm 59 (by decide) (by decide) (by decide) (by decide) (by decide) (by decide), wc 33 (by decide) (by decide) (by decide)]; exact hPA
    · unfold IM; rw [wp 21 (by decide) (by decide) (by decide) (by decide) (by decide), wp 23 (by decide) (by decide) (by decide) (by decide) (by decide), wp 24 (by decide) (by decide) (by decide) (by decide) (by decide), wm 66 (by decide) (by decide) (by decide) (by decide) (by decide) (by decide), wc 54 (by decide) (by decide) (by decide)]; exact hIM
    · rw [hW 1 (by decide), pr 1 (by decide) (by decide)]; exact hE11
    · rw [q40 2 (by decide) (by decide), hRM.2 2 (by omega)]; exact hF2
    · rw [wp 2 (by decide) (by decide) (by decide) (by decide) (by decide), wm 42 (by decide) (by decide) (by decide) (by decide) (by decide) (by decide)]; exact htape j hj
    · rw [hW 1 (by decide), pr 1 (by decide) (by decide), v2 40 (by decide), u2 40 (by decide), z_up_i (by decide), z_up_at rfl rfl]
      exact hI.2.2.2.1
    · unfold MI; rw [wp 0 (by decide) (by decide) (by decide) (by decide) (by decide), wm 41 (by decide) (by decide) (by decide) (by decide) (by decide) (by decide), wc 34 (by decide) (by decide) (by decide)]; exact hM
