/-! ===== span ===== -/
theorem up00 {G : z_Dat} : z_up G 40 0 (nn 0) 40 0 = nn 0 := z_up_at rfl rfl
theorem wi_or1 {m : Nat} (hm : m < 2147483648) (a : Int32) : (∃ b, 1 ≤ b ∧ b ≤ m ∧ a = nn b ∧ F_X11_within a (nn 1) (nn m) = nn 1) ∨ ((a < nn 1 ∨ (¬ a < nn 1 ∧ nn m < a)) ∧ F_X11_within a (nn 1) (nn m) = nn 0) := by
  rcases in_or1 hm a with ⟨b, h1, hb, rfl⟩ | h
  · exact Or.inl ⟨b, h1, hb, rfl, by simp (disch := omega) only [F_X11_within, ↓reduceIte, ↓z_letE, ↓z_bdE, nn_l2, nn_add, nn_mul, nn_sub, nn_addM, nn_div, nn_rem, nn_min, nn_max, nn_abs, nn_ltT, nn_ltF, nn_leT, nn_leF, nn_eqT, nn_eqF, nn_eqM, nn_Meq, nn_ltM, nn_Mlt, nn_leM, nn_Mle, z_ix_nn, z_inb_nn, F_at_nn, F_put_nn, Nat.zero_add, Nat.add_zero, z_P_some, z_R_some, z_P_bd]⟩
  · exact Or.inr ⟨h, within_out (by rcases h with h | h; exact Or.inl h; exact Or.inr h.2)⟩
set_option maxHeartbeats 4000000 in
theorem T_span {N o n : Nat} {sd a1 a2 a3 a4 : Int32} {D : z_Dat} (hN : 200 < N) (hJ : J o n D) : TOP (F_L_span N o sd a1 a2 a3 a4 D) (F_X11_span N sd a1 a2 a3 a4) (J o n) := by
  obtain ⟨ho, ns, pe, rv, hB⟩ := id hJ
  have hpe := hB.1.1.2.1
  rcases wi_or1 (m := 20) (by decide) a1 with ⟨mm, hm1, hm, rfl, ew⟩ | ⟨h, ew⟩
  · rcases in_or (m := 16) (by decide) a2 with ⟨q, hq, rfl⟩ | h
    · rcases in_or1 (m := 96) (by decide) a3 with ⟨y, hy1, hy, rfl⟩ | h
      · have eA := areAges_ok hq hy1 hy
        rcases wi_or (m := 2) (by decide) a4 with ⟨w, hw, rfl, e9⟩ | ⟨h, e9⟩
        · refine TOP_r hJ rfl (fun G hK => ?_)
          simp (disch := omega) only [F_X10_span, F_X10_span_J27x, F_X10_span_J60x, F_X11_span, F_X11_span_J40x, ew, eA, e9, dem_ok, dem_no, demT_ok, demT_no, z_bt_l, z_bt_r, z_try_l, z_try_r, nl_I, nl_N, nl_IN, nl_NI, may_okU, may_noU, z_up_at, z_up_i, z_up_r, ↓reduceIte, ↓z_letE, ↓z_bdE, nn_l2, nn_add, nn_mul, nn_sub, nn_addM, nn_div, nn_rem, nn_min, nn_max, nn_abs, nn_ltT, nn_ltF, nn_leT, nn_leF, nn_eqT, nn_eqF, nn_eqM, nn_Meq, nn_ltM, nn_Mlt, nn_leM, nn_Mle, z_ix_nn, z_inb_nn, F_at_nn, F_put_nn, Nat.zero_add, Nat.add_zero, z_P_some, z_R_some, z_P_bd]
          refine z_R_loop (fun k s s' => ∃ i m u, i + k = mm ∧ m ≤ 8 ∧ ((i = 0 ∧ s.1 = nn 8 ∧ s'.1 = -nn 1) ∨ (0 < i ∧ ∃ f, f ≤ 8 ∧ s.1 = nn f ∧ s'.1 = nn f)) ∧ s.2.1 = nn m ∧ s'.2.1 = nn m ∧ s.2.2.1 = nn u ∧ s'.2.2.1 = nn u ∧ s.2.2.2.1 = nn i ∧ s'.2.2.2.1 = nn i ∧ KA D s.2.2.2.2 ∧ s'.2.2.2.2 40 0 = nn 0 ∧ s'.2.2.2.2 67 = G 67 ∧ KA G s'.2.2.2.2) ?_ mm N N _ _ (by omega) (by omega) ⟨0, 0, 0, by omega, by omega, Or.inl ⟨rfl, rfl, rfl⟩, rfl, rfl, rfl, rfl, rfl, rfl, KA.rf, up00 (G := G), up67 (G := G), upK (G := G)⟩
          rintro k ⟨v1, v2, v3, v4, E0⟩ ⟨w1, w2, w3, w4, F0⟩ kc kc' ⟨i, m, u, hk, hm8, hc, rfl, rfl, rfl, rfl, rfl, rfl, g1, g2, g3, g4⟩ ih
          dsimp only at hc g1 g2 g3 g4 ⊢
          by_cases hi : i < mm
          · simp (disch := omega) only [F_X10_span_L76x, F_X11_span_L62x, F_X11_agesGo, z_bd_as, ↓reduceIte, ↓z_letE, ↓z_bdE, nn_l2, nn_add, nn_mul, nn_sub, nn_addM, nn_div, nn_rem, nn_min, nn_max, nn_abs, nn_ltT, nn_ltF, nn_leT, nn_leF, nn_eqT, nn_eqF, nn_eqM, nn_Meq, nn_ltM, nn_Mlt, nn_leM, nn_Mle, z_ix_nn, z_inb_nn, F_at_nn, F_put_nn, Nat.zero_add, Nat.add_zero, z_P_some, z_R_some, z_P_bd]
            rw [z_R_r]
            refine z_P_mono (take_AT hN hB hK g2 g3 g4) (fun G2 hA => ?_)
            refine YS_copy2 hN hJ.ho hB g1 hA (fun E hE => ?_)
            refine z_R_bd (z_R_mono (live_R hN hJ.ho hq hy hE) (fun F F' hF => ?_))
            obtain ⟨hS, s0, s1, s2⟩ := id hF
            refine z_R_bd (z_R_mono (YS_unlike hN hS) (fun a c hac => ?_))
            obtain ⟨rfl, v, hv, rfl⟩ := hac
            have fin : ∀ (f m' : Nat), f ≤ 8 → m' ≤ 8 → z_R (z_bd (F_X10_seated N o 5 F) (fun a_59 => if a_59.1 = nn 0 then kc (nn f, nn m', nn (u + 1), nn (i + 1), a_59.2) else kc (nn f, nn m', nn u, nn (i + 1), a_59.2))) (F_X11_span_J121x N kc' (nn f) (nn u) (nn i) (nn m') F') (RQ D G) := fun f m' hf hm' => by
              unfold F_X11_span_J121x
              refine z_R_bd (z_R_mono (YS_seated hN hJ.ho hS) (fun a c hac => ?_))
              obtain ⟨x1, ⟨x, hx, x2⟩, x3⟩ := hac
              rw [← x1]
              by_cases hz : x = 0
              · simp (disch := omega) only [x2, hz, ↓reduceIte, ↓z_letE, ↓z_bdE, nn_l2, nn_add, nn_mul, nn_sub, nn_addM, nn_div, nn_rem, nn_min, nn_max, nn_abs, nn_ltT, nn_ltF, nn_leT, nn_leF, nn_eqT, nn_eqF, nn_eqM, nn_Meq, nn_ltM, nn_Mlt, nn_leM, nn_Mle, z_ix_nn, z_inb_nn, F_at_nn, F_put_nn, Nat.zero_add, Nat.add_zero, z_P_some, z_R_some, z_P_bd]
                exact ih (k - 1) _ _ (by omega) ⟨i + 1, m', u + 1, by omega, hm', Or.inr ⟨by omega, f, hf, rfl, rfl⟩, rfl, rfl, rfl, rfl, rfl, rfl, x3.1, x3.2.2.2.2.1, x3.2.2.2.2.2.1, x3.2.2.2.2.2.2⟩
              · simp (disch := omega) only [x2, ↓reduceIte, ↓z_letE, ↓z_bdE, nn_l2, nn_add, nn_mul, nn_sub, nn_addM, nn_div, nn_rem, nn_min, nn_max, nn_abs, nn_ltT, nn_ltF, nn_leT, nn_leF, nn_eqT, nn_eqF, nn_eqM, nn_Meq, nn_ltM, nn_Mlt, nn_leM, nn_Mle, z_ix_nn, z_inb_nn, F_at_nn, F_put_nn, Nat.zero_add, Nat.add_zero, z_P_some, z_R_some, z_P_bd]
                exact ih (k - 1) _ _ (by omega) ⟨i + 1, m', u, by omega, hm', Or.inr ⟨by omega, f, hf, rfl, rfl⟩, rfl, rfl, rfl, rfl, rfl, rfl, x3.1, x3.2.2.2.2.1, x3.2.2.2.2.2.1, x3.2.2.2.2.2.2⟩
            rcases hc with ⟨rfl, rfl, rfl⟩ | ⟨h0, f, hf, rfl, rfl⟩
            · have p0 := fin (min 8 v) (max m v) (by omega) (by omega)
              rw [show min 8 v = v by omega] at p0
              by_cases hmv : v ≤ m
              · rw [show max m v = m by omega] at p0
                simp (disch := omega) only [F_X11_span_J98x, F_X11_span_J105x, ↓reduceIte, ↓z_letE, ↓z_bdE, nn_l2, nn_add, nn_mul, nn_sub, nn_addM, nn_div, nn_rem, nn_min, nn_max, nn_abs, nn_ltT, nn_ltF, nn_leT, nn_leF, nn_eqT, nn_eqF, nn_eqM, nn_Meq, nn_ltM, nn_Mlt, nn_leM, nn_Mle, z_ix_nn, z_inb_nn, F_at_nn, F_put_nn, Nat.zero_add, Nat.add_zero, z_P_some, z_R_some, z_P_bd]
                rw [show min 8 v = v by omega, show max m v = m by omega]
                exact p0
              · rw [show max m v = v by omega] at p0
                simp (disch := omega) only [F_X11_span_J98x, F_X11_span_J105x, ↓reduceIte, ↓z_letE, ↓z_bdE, nn_l2, nn_add, nn_mul, nn_sub, nn_addM, nn_div, nn_rem, nn_min, nn_max, nn_abs, nn_ltT, nn_ltF, nn_leT, nn_leF, nn_eqT, nn_eqF, nn_eqM, nn_Meq, nn_ltM, nn_Mlt, nn_leM, nn_Mle, z_ix_nn, z_inb_nn, F_at_nn, F_put_nn, Nat.zero_add, Nat.add_zero, z_P_some, z_R_some, z_P_bd]
                rw [show min 8 v = v by omega, show max m v = v by omega]
                exact p0
            · have p0 := fin (min f v) (max m v) (by omega) (by omega)
              by_cases hfv : f ≤ v <;> by_cases hmv : v ≤ m
              · rw [show min f v = f by omega, show max m v = m by omega] at p0
                simp (disch := omega) only [F_X11_span_J98x, F_X11_span_J105x, ↓reduceIte, ↓z_letE, ↓z_bdE, nn_l2, nn_add, nn_mul, nn_sub, nn_addM, nn_div, nn_rem, nn_min, nn_max, nn_abs, nn_ltT, nn_ltF, nn_leT, nn_leF, nn_eqT, nn_eqF, nn_eqM, nn_Meq, nn_ltM, nn_Mlt, nn_leM, nn_Mle, z_ix_nn, z_inb_nn, F_at_nn, F_put_nn, Nat.zero_add, Nat.add_zero, z_P_some, z_R_some, z_P_bd]
                rw [show min f v = f by omega, show max m v = m by omega]
                exact p0
              · rw [show min f v = f by omega, show max m v = v by omega] at p0
                simp (disch := omega) only [F_X11_span_J98x, F_X11_span_J105x, ↓reduceIte, ↓z_letE, ↓z_bdE, nn_l2, nn_add, nn_mul, nn_sub, nn_addM, nn_div, nn_rem, nn_min, nn_max, nn_abs, nn_ltT, nn_ltF, nn_leT, nn_leF, nn_eqT, nn_eqF, nn_eqM, nn_Meq, nn_ltM, nn_Mlt, nn_leM, nn_Mle, z_ix_nn, z_inb_nn, F_at_nn, F_put_nn, Nat.zero_add, Nat.add_zero, z_P_some, z_R_some, z_P_bd]
                rw [show min f v = f by omega, show max m v = v by omega]
                exact p0
              · rw [show min f v = v by omega, show max m v = m by omega] at p0
                simp (disch := omega) only [F_X11_span_J98x, F_X11_span_J105x, ↓reduceIte, ↓z_letE, ↓z_bdE, nn_l2, nn_add, nn_mul, nn_sub, nn_addM, nn_div, nn_rem, nn_min, nn_max, nn_abs, nn_ltT, nn_ltF, nn_leT, nn_leF, nn_eqT, nn_eqF, nn_eqM, nn_Meq, nn_ltM, nn_Mlt, nn_leM, nn_Mle, z_ix_nn, z_inb_nn, F_at_nn, F_put_nn, Nat.zero_add, Nat.add_zero, z_P_some, z_R_some, z_P_bd]
                rw [show min f v = v by omega, show max m v = m by omega]
                exact p0
              · rw [show min f v = v by omega, show max m v = v by omega] at p0
                simp (disch := omega) only [F_X11_span_J98x, F_X11_span_J105x, ↓reduceIte, ↓z_letE, ↓z_bdE, nn_l2, nn_add, nn_mul, nn_sub, nn_addM, nn_div, nn_rem, nn_min, nn_max, nn_abs, nn_ltT, nn_ltF, nn_leT, nn_leF, nn_eqT, nn_eqF, nn_eqM, nn_Meq, nn_ltM, nn_Mlt, nn_leM, nn_Mle, z_ix_nn, z_inb_nn, F_at_nn, F_put_nn, Nat.zero_add, Nat.add_zero, z_P_some, z_R_some, z_P_bd]
                rw [show min f v = v by omega, show max m v = v by omega]
                exact p0
          · rcases hc with ⟨rfl, -, -⟩ | ⟨h0, f, hf, rfl, rfl⟩
            · omega
            · have h3 : w = 0 ∨ w = 1 ∨ w = 2 := by omega
              rcases h3 with rfl | rfl | rfl
              · simp (disch := omega) only [F_X10_span_L76x, F_X11_span_L62x, ↓reduceIte, ↓z_letE, ↓z_bdE, nn_l2, nn_add, nn_mul, nn_sub, nn_addM, nn_div, nn_rem, nn_min, nn_max, nn_abs, nn_ltT, nn_ltF, nn_leT, nn_leF, nn_eqT, nn_eqF, nn_eqM, nn_Meq, nn_ltM, nn_Mlt, nn_leM, nn_Mle, z_ix_nn, z_inb_nn, F_at_nn, F_put_nn, Nat.zero_add, Nat.add_zero, z_P_some, z_R_some, z_P_bd]
                exact ⟨_, _, rfl, g1, rfl, g2, g3, g4⟩
              · simp (disch := omega) only [F_X10_span_L76x, F_X11_span_L62x, ↓reduceIte, ↓z_letE, ↓z_bdE, nn_l2, nn_add, nn_mul, nn_sub, nn_addM, nn_div, nn_rem, nn_min, nn_max, nn_abs, nn_ltT, nn_ltF, nn_leT, nn_leF, nn_eqT, nn_eqF, nn_eqM, nn_Meq, nn_ltM, nn_Mlt, nn_leM, nn_Mle, z_ix_nn, z_inb_nn, F_at_nn, F_put_nn, Nat.zero_add, Nat.add_zero, z_P_some, z_R_some, z_P_bd]
                exact ⟨_, _, rfl, g1, rfl, g2, g3, g4⟩
              · simp (disch := omega) only [F_X10_span_L76x, F_X11_span_L62x, ↓reduceIte, ↓z_letE, ↓z_bdE, nn_l2, nn_add, nn_mul, nn_sub, nn_addM, nn_div, nn_rem, nn_min, nn_max, nn_abs, nn_ltT, nn_ltF, nn_leT, nn_leF, nn_eqT, nn_eqF, nn_eqM, nn_Meq, nn_ltM, nn_Mlt, nn_leM, nn_Mle, z_ix_nn, z_inb_nn, F_at_nn, F_put_nn, Nat.zero_add, Nat.add_zero, z_P_some, z_R_some, z_P_bd]
                exact ⟨_, _, rfl, g1, rfl, g2, g3, g4⟩
        · refine TOP_t (c := 1) (k := 1) hJ (by decide) (by decide) (by decide) ?_ (fun G hG => ?_)
          · rcases h with h | h
            · simp (disch := omega) only [F_L_span, F_X10_span, F_X10_span_J27x, F_X10_span_J59, F_X10_span_J60, h, dem_ok, dem_no, demT_ok, demT_no, z_bt_l, z_bt_r, z_try_l, z_try_r, nl_I, nl_N, nl_IN, nl_NI, may_okU, may_noU, z_up_at, z_up_i, z_up_r, ↓reduceIte, ↓z_letE, ↓z_bdE, nn_l2, nn_add, nn_mul, nn_sub, nn_addM, nn_div, nn_rem, nn_min, nn_max, nn_abs, nn_ltT, nn_ltF, nn_leT, nn_leF, nn_eqT, nn_eqF, nn_eqM, nn_Meq, nn_ltM, nn_Mlt, nn_leM, nn_Mle, z_ix_nn, z_inb_nn, F_at_nn, F_put_nn, Nat.zero_add, Nat.add_zero, z_P_some, z_R_some, z_P_bd]
            · simp (disch := omega) only [F_L_span, F_X10_span, F_X10_span_J27x, F_X10_span_J59, F_X10_span_J60, h.1, h.2, dem_ok, dem_no, demT_ok, demT_no, z_bt_l, z_bt_r, z_try_l, z_try_r, nl_I, nl_N, nl_IN, nl_NI, may_okU, may_noU, z_up_at, z_up_i, z_up_r, ↓reduceIte, ↓z_letE, ↓z_bdE, nn_l2, nn_add, nn_mul, nn_sub, nn_addM, nn_div, nn_rem, nn_min, nn_max, nn_abs, nn_ltT, nn_ltF, nn_leT, nn_leF, nn_eqT, nn_eqF, nn_eqM, nn_Meq, nn_ltM, nn_Mlt, nn_leM, nn_Mle, z_ix_nn, z_inb_nn, F_at_nn, F_put_nn, Nat.zero_add, Nat.add_zero, z_P_some, z_R_some, z_P_bd]
          · simp (disch := omega) only [F_X11_span, F_X11_span_J39, F_X11_span_J40, ew, eA, e9, dem_ok, dem_no, demT_ok, demT_no, z_bt_l, z_bt_r, z_try_l, z_try_r, nl_I, nl_N, nl_IN, nl_NI, may_okU, may_noU, z_up_at, z_up_i, z_up_r, ↓reduceIte, ↓z_letE, ↓z_bdE, nn_l2, nn_add, nn_mul, nn_sub, nn_addM, nn_div, nn_rem, nn_min, nn_max, nn_abs, nn_ltT, nn_ltF, nn_leT, nn_leF, nn_eqT, nn_eqF, nn_eqM, nn_Meq, nn_ltM, nn_Mlt, nn_leM, nn_Mle, z_ix_nn, z_inb_nn, F_at_nn, F_put_nn, Nat.zero_add, Nat.add_zero, z_P_some, z_R_some, z_P_bd]
      · have eA : F_X11_areAges (nn q) a3 = nn 0 := by
          rcases h with h | h
          · simp (disch := omega) only [F_X11_areAges, h, ↓reduceIte, ↓z_letE, ↓z_bdE, nn_l2, nn_add, nn_mul, nn_sub, nn_addM, nn_div, nn_rem, nn_min, nn_max, nn_abs, nn_ltT, nn_ltF, nn_leT, nn_leF, nn_eqT, nn_eqF, nn_eqM, nn_Meq, nn_ltM, nn_Mlt, nn_leM, nn_Mle, z_ix_nn, z_inb_nn, F_at_nn, F_put_nn, Nat.zero_add, Nat.add_zero, z_P_some, z_R_some, z_P_bd]
          · simp (disch := omega) only [F_X11_areAges, h.1, h.2, ↓reduceIte, ↓z_letE, ↓z_bdE, nn_l2, nn_add, nn_mul, nn_sub, nn_addM, nn_div, nn_rem, nn_min, nn_max, nn_abs, nn_ltT, nn_ltF, nn_leT, nn_leF, nn_eqT, nn_eqF, nn_eqM, nn_Meq, nn_ltM, nn_Mlt, nn_leM, nn_Mle, z_ix_nn, z_inb_nn, F_at_nn, F_put_nn, Nat.zero_add, Nat.add_zero, z_P_some, z_R_some, z_P_bd]
        refine TOP_t (c := 1) (k := 1) hJ (by decide) (by decide) (by decide) ?_ (fun G hG => ?_)
        · rcases h with h | h
          · simp (disch := omega) only [F_L_span, F_X10_span, F_X10_span_J27x, F_X10_span_J59, F_X10_span_J60, h, dem_ok, dem_no, demT_ok, demT_no, z_bt_l, z_bt_r, z_try_l, z_try_r, nl_I, nl_N, nl_IN, nl_NI, may_okU, may_noU, z_up_at, z_up_i, z_up_r, ↓reduceIte, ↓z_letE, ↓z_bdE, nn_l2, nn_add, nn_mul, nn_sub, nn_addM, nn_div, nn_rem, nn_min, nn_max, nn_abs, nn_ltT, nn_ltF, nn_leT, nn_leF, nn_eqT, nn_eqF, nn_eqM, nn_Meq, nn_ltM, nn_Mlt, nn_leM, nn_Mle, z_ix_nn, z_inb_nn, F_at_nn, F_put_nn, Nat.zero_add, Nat.add_zero, z_P_some, z_R_some, z_P_bd]
          · simp (disch := omega) only [F_L_span, F_X10_span, F_X10_span_J27x, F_X10_span_J59, F_X10_span_J60, h.1, h.2, dem_ok, dem_no, demT_ok, demT_no, z_bt_l, z_bt_r, z_try_l, z_try_r, nl_I, nl_N, nl_IN, nl_NI, may_okU, may_noU, z_up_at, z_up_i, z_up_r, ↓reduceIte, ↓z_letE, ↓z_bdE, nn_l2, nn_add, nn_mul, nn_sub, nn_addM, nn_div, nn_rem, nn_min, nn_max, nn_abs, nn_ltT, nn_ltF, nn_leT, nn_leF, nn_eqT, nn_eqF, nn_eqM, nn_Meq, nn_ltM, nn_Mlt, nn_leM, nn_Mle, z_ix_nn, z_inb_nn, F_at_nn, F_put_nn, Nat.zero_add, Nat.add_zero, z_P_some, z_R_some, z_P_bd]
        · simp (disch := omega) only [F_X11_span, F_X11_span_J39, F_X11_span_J40, ew, eA, dem_ok, dem_no, demT_ok, demT_no, z_bt_l, z_bt_r, z_try_l, z_try_r, nl_I, nl_N, nl_IN, nl_NI, may_okU, may_noU, z_up_at, z_up_i, z_up_r, ↓reduceIte, ↓z_letE, ↓z_bdE, nn_l2, nn_add, nn_mul, nn_sub, nn_addM, nn_div, nn_rem, nn_min, nn_max, nn_abs, nn_ltT, nn_ltF, nn_leT, nn_leF, nn_eqT, nn_eqF, nn_eqM, nn_Meq, nn_ltM, nn_Mlt, nn_leM, nn_Mle, z_ix_nn, z_inb_nn, F_at_nn, F_put_nn, Nat.zero_add, Nat.add_zero, z_P_some, z_R_some, z_P_bd]
    · have eA : F_X11_areAges a2 a3 = nn 0 := by
        rcases h with h | h
        · simp (disch := omega) only [F_X11_areAges, h, ↓reduceIte, ↓z_letE, ↓z_bdE, nn_l2, nn_add, nn_mul, nn_sub, nn_addM, nn_div, nn_rem, nn_min, nn_max, nn_abs, nn_ltT, nn_ltF, nn_leT, nn_leF, nn_eqT, nn_eqF, nn_eqM, nn_Meq, nn_ltM, nn_Mlt, nn_leM, nn_Mle, z_ix_nn, z_inb_nn, F_at_nn, F_put_nn, Nat.zero_add, Nat.add_zero, z_P_some, z_R_some, z_P_bd]
        · simp (disch := omega) only [F_X11_areAges, h.1, h.2, ↓reduceIte, ↓z_letE, ↓z_bdE, nn_l2, nn_add, nn_mul, nn_sub, nn_addM, nn_div, nn_rem, nn_min, nn_max, nn_abs, nn_ltT, nn_ltF, nn_leT, nn_leF, nn_eqT, nn_eqF, nn_eqM, nn_Meq, nn_ltM, nn_Mlt, nn_leM, nn_Mle, z_ix_nn, z_inb_nn, F_at_nn, F_put_nn, Nat.zero_add, Nat.add_zero, z_P_some, z_R_some, z_P_bd]
      refine TOP_t (c := 1) (k := 1) hJ (by decide) (by decide) (by decide) ?_ (fun G hG => ?_)
      · rcases h with h | h
        · simp (disch := omega) only [F_L_span, F_X10_span, F_X10_span_J26, F_X10_span_J27, h, dem_ok, dem_no, demT_ok, demT_no, z_bt_l, z_bt_r, z_try_l, z_try_r, nl_I, nl_N, nl_IN, nl_NI, may_okU, may_noU, z_up_at, z_up_i, z_up_r, ↓reduceIte, ↓z_letE, ↓z_bdE, nn_l2, nn_add, nn_mul, nn_sub, nn_addM, nn_div, nn_rem, nn_min, nn_max, nn_abs, nn_ltT, nn_ltF, nn_leT, nn_leF, nn_eqT, nn_eqF, nn_eqM, nn_Meq, nn_ltM, nn_Mlt, nn_leM, nn_Mle, z_ix_nn, z_inb_nn, F_at_nn, F_put_nn, Nat.zero_add, Nat.add_zero, z_P_some, z_R_some, z_P_bd]
        · simp (disch := omega) only [F_L_span, F_X10_span, F_X10_span_J26, F_X10_span_J27, h.1, h.2, dem_ok, dem_no, demT_ok, demT_no, z_bt_l, z_bt_r, z_try_l, z_try_r, nl_I, nl_N, nl_IN, nl_NI, may_okU, may_noU, z_up_at, z_up_i, z_up_r, ↓reduceIte, ↓z_letE, ↓z_bdE, nn_l2, nn_add, nn_mul, nn_sub, nn_addM, nn_div, nn_rem, nn_min, nn_max, nn_abs, nn_ltT, nn_ltF, nn_leT, nn_leF, nn_eqT, nn_eqF, nn_eqM, nn_Meq, nn_ltM, nn_Mlt, nn_leM, nn_Mle, z_ix_nn, z_inb_nn, F_at_nn, F_put_nn, Nat.zero_add, Nat.add_zero, z_P_some, z_R_some, z_P_bd]
      · simp (disch := omega) only [F_X11_span, F_X11_span_J39, F_X11_span_J40, ew, eA, dem_ok, dem_no, demT_ok, demT_no, z_bt_l, z_bt_r, z_try_l, z_try_r, nl_I, nl_N, nl_IN, nl_NI, may_okU, may_noU, z_up_at, z_up_i, z_up_r, ↓reduceIte, ↓z_letE, ↓z_bdE, nn_l2, nn_add, nn_mul, nn_sub, nn_addM, nn_div, nn_rem, nn_min, nn_max, nn_abs, nn_ltT, nn_ltF, nn_leT, nn_leF, nn_eqT, nn_eqF, nn_eqM, nn_Meq, nn_ltM, nn_Mlt, nn_leM, nn_Mle, z_ix_nn, z_inb_nn, F_at_nn, F_put_nn, Nat.zero_add, Nat.add_zero, z_P_some, z_R_some, z_P_bd]
  · refine TOP_t (c := 1) (k := 1) hJ (by decide) (by decide) (by decide) ?_ (fun G hG => ?_)
    · rcases h with h | h
      · simp (disch := omega) only [F_L_span, F_X10_span, F_X10_span_J26, F_X10_span_J27, h, dem_ok, dem_no, demT_ok, demT_no, z_bt_l, z_bt_r, z_try_l, z_try_r, nl_I, nl_N, nl_IN, nl_NI, may_okU, may_noU, z_up_at, z_up_i, z_up_r, ↓reduceIte, ↓z_letE, ↓z_bdE, nn_l2, nn_add, nn_mul, nn_sub, nn_addM, nn_div, nn_rem, nn_min, nn_max, nn_abs, nn_ltT, nn_ltF, nn_leT, nn_leF, nn_eqT, nn_eqF, nn_eqM, nn_Meq, nn_ltM, nn_Mlt, nn_leM, nn_Mle, z_ix_nn, z_inb_nn, F_at_nn, F_put_nn, Nat.zero_add, Nat.add_zero, z_P_some, z_R_some, z_P_bd]
      · simp (disch := omega) only [F_L_span, F_X10_span, F_X10_span_J26, F_X10_span_J27, h.1, h.2, dem_ok, dem_no, demT_ok, demT_no, z_bt_l, z_bt_r, z_try_l, z_try_r, nl_I, nl_N, nl_IN, nl_NI, may_okU, may_noU, z_up_at, z_up_i, z_up_r, ↓reduceIte, ↓z_letE, ↓z_bdE, nn_l2, nn_add, nn_mul, nn_sub, nn_addM, nn_div, nn_rem, nn_min, nn_max, nn_abs, nn_ltT, nn_ltF, nn_leT, nn_leF, nn_eqT, nn_eqF, nn_eqM, nn_Meq, nn_ltM, nn_Mlt, nn_leM, nn_Mle, z_ix_nn, z_inb_nn, F_at_nn, F_put_nn, Nat.zero_add, Nat.add_zero, z_P_some, z_R_some, z_P_bd]
    · simp (disch := omega) only [F_X11_span, F_X11_span_J39, F_X11_span_J40, ew, dem_ok, dem_no, demT_ok, demT_no, z_bt_l, z_bt_r, z_try_l, z_try_r, nl_I, nl_N, nl_IN, nl_NI, may_okU, may_noU, z_up_at, z_up_i, z_up_r, ↓reduceIte, ↓z_letE, ↓z_bdE, nn_l2, nn_add, nn_mul, nn_sub, nn_addM, nn_div, nn_rem, nn_min, nn_max, nn_abs, nn_ltT, nn_ltF, nn_leT, nn_leF, nn_eqT, nn_eqF, nn_eqM, nn_Meq, nn_ltM, nn_Mlt, nn_leM, nn_Mle, z_ix_nn, z_inb_nn, F_at_nn, F_put_nn, Nat.zero_add, Nat.add_zero, z_P_some, z_R_some, z_P_bd]
