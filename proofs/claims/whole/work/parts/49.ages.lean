/-! ===== ages and span ===== -/
theorem take_AT {N o ns pe rv : Nat} {D G F' : z_Dat} (hN : 200 < N) (hB : JB o ns pe rv D) (hK : KA D G) (h0 : F' 40 0 = nn 0) (h67 : F' 67 = G 67) (hG : KA G F') : z_P (F_X11_take N F') (AT o ns pe rv D G) := by
  refine z_P_mono (take_P hN) (fun G2 h2 => ?_)
  obtain ⟨hF, h58⟩ := h2
  have hKG : KA G G2 := hG.tr (KA.fr hF (by unfold SC; omega))
  refine ⟨CRK hB.1 (hK.tr hKG), TR_eq hB.2.1 hB.1.1.2.1 (fun _ _ => rfl) (fun j hj => ?_), LRK hB.2.2.1 (hK.tr hKG), ?_, ?_, hKG⟩
  · rw [h58 j hj, (hK.tr hG).1 57 (by unfold SC; omega) (by decide)]
  · rw [hF 40 (by decide)]; exact h0
  · rw [hF 67 (by decide)]; exact h67
set_option maxHeartbeats 4000000 in
theorem live_R {N o ns pe rv q y : Nat} {sd : Int32} {D G E G2 : z_Dat} (hN : 200 < N) (ho : o = 34 ∨ 68 ≤ o) (hq : q ≤ 16) (hy : y ≤ 96) (h : YS o ns pe rv D G 300 E G2) :
    z_R (F_X3_live N o 5 sd (nn q) (nn y) E) (z_loop (fun kc8 s => F_X11_agesGo_L22 N (nn q) (nn y) kc8 s.1 s.2) N (nn 0, z_up (z_up (z_up G2 40 50 sd) 40 51 (nn 0)) 40 52 (nn 0))) (fun F F' => LVS o ns pe rv D G (300 + y) F F') := by
  simp (disch := omega) only [F_X3_live, ↓reduceIte, ↓z_letE, ↓z_bdE, nn_l2, nn_add, nn_mul, nn_sub, nn_addM, nn_div, nn_rem, nn_min, nn_max, nn_abs, nn_ltT, nn_ltF, nn_leT, nn_leF, nn_eqT, nn_eqF, nn_eqM, nn_Meq, nn_ltM, nn_Mlt, nn_leM, nn_Mle, z_ix_nn, z_inb_nn, F_at_nn, F_put_nn, Nat.zero_add, Nat.add_zero, z_P_some, z_R_some, z_P_bd]
  have hS0 : YS o ns pe rv D G 300 (z_up (z_up (z_up E 32 0 sd) 32 1 (nn 0)) 32 2 (nn 0)) (z_up (z_up (z_up G2 40 50 sd) 40 51 (nn 0)) 40 52 (nn 0)) := YS_upl ho (YS_upl ho (YS_upl ho (YS_upr ho (by omega) (YS_upr ho (by omega) (YS_upr ho (by omega) h)))))
  refine z_R_loop (fun k s s' => ∃ i, i + k = y ∧ s.1 = nn i ∧ s'.1 = nn i ∧ LVS o ns pe rv D G (300 + i) s.2 s'.2) ?_ y N N _ _ (by omega) (by omega) ⟨0, by omega, rfl, rfl, hS0, by simp (disch := omega) only [z_up_at, z_up_i], by simp (disch := omega) only [z_up_at, z_up_i], by simp (disch := omega) only [z_up_at]⟩
  rintro k ⟨v, F⟩ ⟨w, F'⟩ kc kc' ⟨i, hk, rfl, rfl, hF⟩ ih
  dsimp only at hF ⊢
  by_cases hi : i < y
  · have next : ∀ P P', LVS o ns pe rv D G (300 + i + 1) P P' → z_R (kc (nn (i + 1), P)) (kc' (nn (i + 1), P')) (fun F F' => LVS o ns pe rv D G (300 + y) F F') := fun P P' hP => ih (k - 1) _ _ (by omega) ⟨i + 1, by omega, rfl, rfl, hP⟩
    obtain ⟨hS, s0, s1, s2⟩ := id hF
    obtain ⟨x, hx⟩ : ∃ x, x = F' 40 50 * nn 1103515245 + nn 12345 := ⟨_, rfl⟩
    have hdl := dv_lt x
    have d1 : F_X3_draw (nn 16) F = some (nn (dv x % 16), z_up F 32 0 x) := by rw [draw_e (by omega) (by omega), s0, ← hx]
    have d2 : F_X11_draws (nn 16) F' = some (nn (dv x % 16), z_up F' 40 50 x) := by rw [draws_e (by omega) (by omega), ← hx]
    have hS2 : YS o ns pe rv D G (300 + i) (z_up F 32 0 x) (z_up F' 40 50 x) := YS_upl ho (YS_upr ho (by omega) hS)
    have hL2 : LVS o ns pe rv D G (300 + i) (z_up F 32 0 x) (z_up F' 40 50 x) := ⟨hS2, by rw [z_up_at rfl rfl, z_up_at rfl rfl], by rw [z_up_i (by decide), z_up_i (by decide)]; exact s1, by rw [z_up_i (by decide), z_up_i (by decide)]; exact s2⟩
    by_cases hqd : q ≤ dv x % 16
    · simp (disch := omega) only [F_X3_live_L18, F_X11_agesGo_L22, d1, d2, ↓reduceIte, ↓z_letE, ↓z_bdE, nn_l2, nn_add, nn_mul, nn_sub, nn_addM, nn_div, nn_rem, nn_min, nn_max, nn_abs, nn_ltT, nn_ltF, nn_leT, nn_leF, nn_eqT, nn_eqF, nn_eqM, nn_Meq, nn_ltM, nn_Mlt, nn_leM, nn_Mle, z_ix_nn, z_inb_nn, F_at_nn, F_put_nn, Nat.zero_add, Nat.add_zero, z_P_some, z_R_some, z_P_bd]
      exact live_J hN ho (by omega) hL2 next
    · have oo : o ≠ 32 := by omega
      have c6 : (z_up F 32 0 x) o 6 = nn pe := hS2.2.1.2.1.2.1
      simp (disch := omega) only [F_X3_live_L18, F_X11_agesGo_L22, d1, d2, c6, ↓reduceIte, ↓z_letE, ↓z_bdE, nn_l2, nn_add, nn_mul, nn_sub, nn_addM, nn_div, nn_rem, nn_min, nn_max, nn_abs, nn_ltT, nn_ltF, nn_leT, nn_leF, nn_eqT, nn_eqF, nn_eqM, nn_Meq, nn_ltM, nn_Mlt, nn_leM, nn_Mle, z_ix_nn, z_inb_nn, F_at_nn, F_put_nn, Nat.zero_add, Nat.add_zero, z_P_some, z_R_some, z_P_bd]
      refine z_R_bd (z_R_mono (rain_R (t := 5) (by omega) hS2.2.1.1.2.1 hS2.2.2.2.1 hS2.2.1.2.2.1.2.1) (fun a c hac => ?_))
      obtain ⟨w1, w2, w3, w4, w5⟩ := hac
      have hS3 := YS_t ho hS2 w3 w4 w5
      have n0 : a.2 32 0 = c.2 40 50 := by rw [w4 32 (by decide), w5 40 (by decide)]; exact hL2.2.1
      have n1 : a.2 32 1 = c.2 40 51 := by rw [w4 32 (by decide), w5 40 (by decide)]; exact hL2.2.2.1
      have n2 : a.2 32 2 = (z_up F' 40 50 x) 40 52 := by rw [w4 32 (by decide)]; exact hL2.2.2.2
      rw [← w1]
      rcases w2 with w2 | w2
      · have p0 := live_J (kc := kc) (kc' := kc') (y := i) (E := a.2) (E' := z_up c.2 40 52 ((z_up F' 40 50 x) 40 52 + nn 0)) hN ho (show 300 + i < 1000000 by omega) ⟨YS_upr ho (by omega) hS3, by rw [z_up_i (by decide)]; exact n0, by rw [z_up_i (by decide)]; exact n1, by rw [z_up_at rfl rfl, n2]; exact (Int32.add_zero _).symm⟩ next
        simp (disch := omega) only [w2, F_X11_agesGo_J55, ↓reduceIte, ↓z_letE, ↓z_bdE, nn_l2, nn_add, nn_mul, nn_sub, nn_addM, nn_div, nn_rem, nn_min, nn_max, nn_abs, nn_ltT, nn_ltF, nn_leT, nn_leF, nn_eqT, nn_eqF, nn_eqM, nn_Meq, nn_ltM, nn_Mlt, nn_leM, nn_Mle, z_ix_nn, z_inb_nn, F_at_nn, F_put_nn, Nat.zero_add, Nat.add_zero, z_P_some, z_R_some, z_P_bd]
        exact p0
      · have p0 := live_J (kc := kc) (kc' := kc') (y := i) (E := z_up a.2 32 2 (a.2 32 2 + nn 1)) (E' := z_up c.2 40 52 ((z_up F' 40 50 x) 40 52 + nn 1)) hN ho (show 300 + i < 1000000 by omega) ⟨YS_upl ho (YS_upr ho (by omega) hS3), by rw [z_up_i (by decide), z_up_i (by decide)]; exact n0, by rw [z_up_i (by decide), z_up_i (by decide)]; exact n1, by rw [z_up_at rfl rfl, z_up_at rfl rfl, n2]⟩ next
        simp (disch := omega) only [w2, F_X11_agesGo_J55x, ↓reduceIte, ↓z_letE, ↓z_bdE, nn_l2, nn_add, nn_mul, nn_sub, nn_addM, nn_div, nn_rem, nn_min, nn_max, nn_abs, nn_ltT, nn_ltF, nn_leT, nn_leF, nn_eqT, nn_eqF, nn_eqM, nn_Meq, nn_ltM, nn_Mlt, nn_leM, nn_Mle, z_ix_nn, z_inb_nn, F_at_nn, F_put_nn, Nat.zero_add, Nat.add_zero, z_P_some, z_R_some, z_P_bd]
        exact p0
  · have hii : i = y := by omega
    subst hii
    simp (disch := omega) only [F_X3_live_L18, F_X11_agesGo_L22, ↓reduceIte, ↓z_letE, ↓z_bdE, nn_l2, nn_add, nn_mul, nn_sub, nn_addM, nn_div, nn_rem, nn_min, nn_max, nn_abs, nn_ltT, nn_ltF, nn_leT, nn_leF, nn_eqT, nn_eqF, nn_eqM, nn_Meq, nn_ltM, nn_Mlt, nn_leM, nn_Mle, z_ix_nn, z_inb_nn, F_at_nn, F_put_nn, Nat.zero_add, Nat.add_zero, z_P_some, z_R_some, z_P_bd]
    exact hF
theorem in_or1 {m : Nat} (hm : m < 2147483648) (a : Int32) : (∃ b, 1 ≤ b ∧ b ≤ m ∧ a = nn b) ∨ (a < nn 1 ∨ (¬ a < nn 1 ∧ nn m < a)) := by
  by_cases h0 : a < nn 1
  · exact Or.inr (Or.inl h0)
  · have h00 : ¬ a < nn 0 := fun q => h0 (Int32.lt_trans q (by rw [nn_ltT (by omega) (by omega)]; trivial))
    by_cases h1 : nn m < a
    · exact Or.inr (Or.inr ⟨h0, h1⟩)
    · obtain ⟨b, hb, rfl⟩ := n_of h00 h1 hm
      refine Or.inl ⟨b, ?_, hb, rfl⟩
      rw [nn_lt (by omega) (by omega)] at h0
      omega
theorem areAges_ok {q y : Nat} (hq : q ≤ 16) (h1 : 1 ≤ y) (hy : y ≤ 96) : F_X11_areAges (nn q) (nn y) = nn 1 := by
  simp (disch := omega) only [F_X11_areAges, ↓reduceIte, ↓z_letE, ↓z_bdE, nn_l2, nn_add, nn_mul, nn_sub, nn_addM, nn_div, nn_rem, nn_min, nn_max, nn_abs, nn_ltT, nn_ltF, nn_leT, nn_leF, nn_eqT, nn_eqF, nn_eqM, nn_Meq, nn_ltM, nn_Mlt, nn_leM, nn_Mle, z_ix_nn, z_inb_nn, F_at_nn, F_put_nn, Nat.zero_add, Nat.add_zero, z_P_some, z_R_some, z_P_bd]
set_option maxHeartbeats 4000000 in
theorem T_ages {N o n : Nat} {sd a1 a2 a3 : Int32} {D : z_Dat} (hN : 200 < N) (hJ : J o n D) : TOP (F_L_ages N o sd a1 a2 a3 D) (F_X11_ages N sd a1 a2 a3) (J o n) := by
  obtain ⟨ho, ns, pe, rv, hB⟩ := id hJ
  rcases in_or (m := 16) (by decide) a1 with ⟨q, hq, rfl⟩ | h
  · rcases in_or1 (m := 96) (by decide) a2 with ⟨y, hy1, hy, rfl⟩ | h
    · have eA := areAges_ok hq hy1 hy
      rcases wi_or (m := 3) (by decide) a3 with ⟨w, hw, rfl, e9⟩ | ⟨h, e9⟩
      · refine TOP_r hJ rfl (fun G hK => ?_)
        simp (disch := omega) only [F_X10_ages, F_X10_ages_J38x, F_X11_ages, F_X11_ages_J29x, F_X11_agesGo, eA, e9, z_bd_as, dem_ok, dem_no, demT_ok, demT_no, z_bt_l, z_bt_r, z_try_l, z_try_r, nl_I, nl_N, nl_IN, nl_NI, may_okU, may_noU, z_up_at, z_up_i, z_up_r, ↓reduceIte, ↓z_letE, ↓z_bdE, nn_l2, nn_add, nn_mul, nn_sub, nn_addM, nn_div, nn_rem, nn_min, nn_max, nn_abs, nn_ltT, nn_ltF, nn_leT, nn_leF, nn_eqT, nn_eqF, nn_eqM, nn_Meq, nn_ltM, nn_Mlt, nn_leM, nn_Mle, z_ix_nn, z_inb_nn, F_at_nn, F_put_nn, Nat.zero_add, Nat.add_zero, z_P_some, z_R_some, z_P_bd]
        refine z_R_take hN hB hK (fun G2 hA => YS_copy hN hJ.ho hB hA (fun E hE => ?_))
        refine z_R_bd (z_R_mono (live_R hN hJ.ho hq hy hE) (fun F F' hF => ?_))
        obtain ⟨hS, s0, s1, s2⟩ := id hF
        have h4 : w = 0 ∨ w = 1 ∨ w = 2 ∨ w = 3 := by omega
        rcases h4 with rfl | rfl | rfl | rfl
        · simp (disch := omega) only [↓reduceIte, ↓z_letE, ↓z_bdE, nn_l2, nn_add, nn_mul, nn_sub, nn_addM, nn_div, nn_rem, nn_min, nn_max, nn_abs, nn_ltT, nn_ltF, nn_leT, nn_leF, nn_eqT, nn_eqF, nn_eqM, nn_Meq, nn_ltM, nn_Mlt, nn_leM, nn_Mle, z_ix_nn, z_inb_nn, F_at_nn, F_put_nn, Nat.zero_add, Nat.add_zero, z_P_some, z_R_some, z_P_bd]
          refine z_R_bd (z_R_mono (YS_seated hN hJ.ho hS) (fun a c hac => ?_))
          obtain ⟨x1, x2, x3⟩ := hac
          rw [z_R_some, ← x1]
          exact YS_end x3
        · simp (disch := omega) only [s1, ↓reduceIte, ↓z_letE, ↓z_bdE, nn_l2, nn_add, nn_mul, nn_sub, nn_addM, nn_div, nn_rem, nn_min, nn_max, nn_abs, nn_ltT, nn_ltF, nn_leT, nn_leF, nn_eqT, nn_eqF, nn_eqM, nn_Meq, nn_ltM, nn_Mlt, nn_leM, nn_Mle, z_ix_nn, z_inb_nn, F_at_nn, F_put_nn, Nat.zero_add, Nat.add_zero, z_P_some, z_R_some, z_P_bd]
          exact YS_end hS
        · simp (disch := omega) only [s2, ↓reduceIte, ↓z_letE, ↓z_bdE, nn_l2, nn_add, nn_mul, nn_sub, nn_addM, nn_div, nn_rem, nn_min, nn_max, nn_abs, nn_ltT, nn_ltF, nn_leT, nn_leF, nn_eqT, nn_eqF, nn_eqM, nn_Meq, nn_ltM, nn_Mlt, nn_leM, nn_Mle, z_ix_nn, z_inb_nn, F_at_nn, F_put_nn, Nat.zero_add, Nat.add_zero, z_P_some, z_R_some, z_P_bd]
          exact YS_end hS
        · simp (disch := omega) only [↓reduceIte, ↓z_letE, ↓z_bdE, nn_l2, nn_add, nn_mul, nn_sub, nn_addM, nn_div, nn_rem, nn_min, nn_max, nn_abs, nn_ltT, nn_ltF, nn_leT, nn_leF, nn_eqT, nn_eqF, nn_eqM, nn_Meq, nn_ltM, nn_Mlt, nn_leM, nn_Mle, z_ix_nn, z_inb_nn, F_at_nn, F_put_nn, Nat.zero_add, Nat.add_zero, z_P_some, z_R_some, z_P_bd]
          refine z_R_bd (z_R_mono (YS_unlike hN hS) (fun a c hac => ?_))
          obtain ⟨rfl, -⟩ := hac
          rw [z_R_some]
          exact YS_end hS
      · refine TOP_t (c := 1) (k := 1) hJ (by decide) (by decide) (by decide) ?_ (fun G hG => ?_)
        · rcases h with h | h
          · simp (disch := omega) only [F_L_ages, F_X10_ages, F_X10_ages_J37, F_X10_ages_J38, h, dem_ok, dem_no, demT_ok, demT_no, z_bt_l, z_bt_r, z_try_l, z_try_r, nl_I, nl_N, nl_IN, nl_NI, may_okU, may_noU, z_up_at, z_up_i, z_up_r, ↓reduceIte, ↓z_letE, ↓z_bdE, nn_l2, nn_add, nn_mul, nn_sub, nn_addM, nn_div, nn_rem, nn_min, nn_max, nn_abs, nn_ltT, nn_ltF, nn_leT, nn_leF, nn_eqT, nn_eqF, nn_eqM, nn_Meq, nn_ltM, nn_Mlt, nn_leM, nn_Mle, z_ix_nn, z_inb_nn, F_at_nn, F_put_nn, Nat.zero_add, Nat.add_zero, z_P_some, z_R_some, z_P_bd]
          · simp (disch := omega) only [F_L_ages, F_X10_ages, F_X10_ages_J37, F_X10_ages_J38, h.1, h.2, dem_ok, dem_no, demT_ok, demT_no, z_bt_l, z_bt_r, z_try_l, z_try_r, nl_I, nl_N, nl_IN, nl_NI, may_okU, may_noU, z_up_at, z_up_i, z_up_r, ↓reduceIte, ↓z_letE, ↓z_bdE, nn_l2, nn_add, nn_mul, nn_sub, nn_addM, nn_div, nn_rem, nn_min, nn_max, nn_abs, nn_ltT, nn_ltF, nn_leT, nn_leF, nn_eqT, nn_eqF, nn_eqM, nn_Meq, nn_ltM, nn_Mlt, nn_leM, nn_Mle, z_ix_nn, z_inb_nn, F_at_nn, F_put_nn, Nat.zero_add, Nat.add_zero, z_P_some, z_R_some, z_P_bd]
        · simp (disch := omega) only [F_X11_ages, F_X11_ages_J28, F_X11_ages_J29, eA, e9, dem_ok, dem_no, demT_ok, demT_no, z_bt_l, z_bt_r, z_try_l, z_try_r, nl_I, nl_N, nl_IN, nl_NI, may_okU, may_noU, z_up_at, z_up_i, z_up_r, ↓reduceIte, ↓z_letE, ↓z_bdE, nn_l2, nn_add, nn_mul, nn_sub, nn_addM, nn_div, nn_rem, nn_min, nn_max, nn_abs, nn_ltT, nn_ltF, nn_leT, nn_leF, nn_eqT, nn_eqF, nn_eqM, nn_Meq, nn_ltM, nn_Mlt, nn_leM, nn_Mle, z_ix_nn, z_inb_nn, F_at_nn, F_put_nn, Nat.zero_add, Nat.add_zero, z_P_some, z_R_some, z_P_bd]
    · have eA : F_X11_areAges (nn q) a2 = nn 0 := by
        rcases h with h | h
        · simp (disch := omega) only [F_X11_areAges, h, ↓reduceIte, ↓z_letE, ↓z_bdE, nn_l2, nn_add, nn_mul, nn_sub, nn_addM, nn_div, nn_rem, nn_min, nn_max, nn_abs, nn_ltT, nn_ltF, nn_leT, nn_leF, nn_eqT, nn_eqF, nn_eqM, nn_Meq, nn_ltM, nn_Mlt, nn_leM, nn_Mle, z_ix_nn, z_inb_nn, F_at_nn, F_put_nn, Nat.zero_add, Nat.add_zero, z_P_some, z_R_some, z_P_bd]
        · simp (disch := omega) only [F_X11_areAges, h.1, h.2, ↓reduceIte, ↓z_letE, ↓z_bdE, nn_l2, nn_add, nn_mul, nn_sub, nn_addM, nn_div, nn_rem, nn_min, nn_max, nn_abs, nn_ltT, nn_ltF, nn_leT, nn_leF, nn_eqT, nn_eqF, nn_eqM, nn_Meq, nn_ltM, nn_Mlt, nn_leM, nn_Mle, z_ix_nn, z_inb_nn, F_at_nn, F_put_nn, Nat.zero_add, Nat.add_zero, z_P_some, z_R_some, z_P_bd]
      refine TOP_t (c := 1) (k := 1) hJ (by decide) (by decide) (by decide) ?_ (fun G hG => ?_)
      · rcases h with h | h
        · simp (disch := omega) only [F_L_ages, F_X10_ages, F_X10_ages_J37, F_X10_ages_J38, h, dem_ok, dem_no, demT_ok, demT_no, z_bt_l, z_bt_r, z_try_l, z_try_r, nl_I, nl_N, nl_IN, nl_NI, may_okU, may_noU, z_up_at, z_up_i, z_up_r, ↓reduceIte, ↓z_letE, ↓z_bdE, nn_l2, nn_add, nn_mul, nn_sub, nn_addM, nn_div, nn_rem, nn_min, nn_max, nn_abs, nn_ltT, nn_ltF, nn_leT, nn_leF, nn_eqT, nn_eqF, nn_eqM, nn_Meq, nn_ltM, nn_Mlt, nn_leM, nn_Mle, z_ix_nn, z_inb_nn, F_at_nn, F_put_nn, Nat.zero_add, Nat.add_zero, z_P_some, z_R_some, z_P_bd]
        · simp (disch := omega) only [F_L_ages, F_X10_ages, F_X10_ages_J37, F_X10_ages_J38, h.1, h.2, dem_ok, dem_no, demT_ok, demT_no, z_bt_l, z_bt_r, z_try_l, z_try_r, nl_I, nl_N, nl_IN, nl_NI, may_okU, may_noU, z_up_at, z_up_i, z_up_r, ↓reduceIte, ↓z_letE, ↓z_bdE, nn_l2, nn_add, nn_mul, nn_sub, nn_addM, nn_div, nn_rem, nn_min, nn_max, nn_abs, nn_ltT, nn_ltF, nn_leT, nn_leF, nn_eqT, nn_eqF, nn_eqM, nn_Meq, nn_ltM, nn_Mlt, nn_leM, nn_Mle, z_ix_nn, z_inb_nn, F_at_nn, F_put_nn, Nat.zero_add, Nat.add_zero, z_P_some, z_R_some, z_P_bd]
      · simp (disch := omega) only [F_X11_ages, F_X11_ages_J28, F_X11_ages_J29, eA, dem_ok, dem_no, demT_ok, demT_no, z_bt_l, z_bt_r, z_try_l, z_try_r, nl_I, nl_N, nl_IN, nl_NI, may_okU, may_noU, z_up_at, z_up_i, z_up_r, ↓reduceIte, ↓z_letE, ↓z_bdE, nn_l2, nn_add, nn_mul, nn_sub, nn_addM, nn_div, nn_rem, nn_min, nn_max, nn_abs, nn_ltT, nn_ltF, nn_leT, nn_leF, nn_eqT, nn_eqF, nn_eqM, nn_Meq, nn_ltM, nn_Mlt, nn_leM, nn_Mle, z_ix_nn, z_inb_nn, F_at_nn, F_put_nn, Nat.zero_add, Nat.add_zero, z_P_some, z_R_some, z_P_bd]
  · have eA : F_X11_areAges a1 a2 = nn 0 := by
      rcases h with h | h
      · simp (disch := omega) only [F_X11_areAges, h, ↓reduceIte, ↓z_letE, ↓z_bdE, nn_l2, nn_add, nn_mul, nn_sub, nn_addM, nn_div, nn_rem, nn_min, nn_max, nn_abs, nn_ltT, nn_ltF, nn_leT, nn_leF, nn_eqT, nn_eqF, nn_eqM, nn_Meq, nn_ltM, nn_Mlt, nn_leM, nn_Mle, z_ix_nn, z_inb_nn, F_at_nn, F_put_nn, Nat.zero_add, Nat.add_zero, z_P_some, z_R_some, z_P_bd]
      · simp (disch := omega) only [F_X11_areAges, h.1, h.2, ↓reduceIte, ↓z_letE, ↓z_bdE, nn_l2, nn_add, nn_mul, nn_sub, nn_addM, nn_div, nn_rem, nn_min, nn_max, nn_abs, nn_ltT, nn_ltF, nn_leT, nn_leF, nn_eqT, nn_eqF, nn_eqM, nn_Meq, nn_ltM, nn_Mlt, nn_leM, nn_Mle, z_ix_nn, z_inb_nn, F_at_nn, F_put_nn, Nat.zero_add, Nat.add_zero, z_P_some, z_R_some, z_P_bd]
    refine TOP_t (c := 1) (k := 1) hJ (by decide) (by decide) (by decide) ?_ (fun G hG => ?_)
    · rcases h with h | h
      · simp (disch := omega) only [F_L_ages, F_X10_ages, F_X10_ages_J37, F_X10_ages_J38, h, dem_ok, dem_no, demT_ok, demT_no, z_bt_l, z_bt_r, z_try_l, z_try_r, nl_I, nl_N, nl_IN, nl_NI, may_okU, may_noU, z_up_at, z_up_i, z_up_r, ↓reduceIte, ↓z_letE, ↓z_bdE, nn_l2, nn_add, nn_mul, nn_sub, nn_addM, nn_div, nn_rem, nn_min, nn_max, nn_abs, nn_ltT, nn_ltF, nn_leT, nn_leF, nn_eqT, nn_eqF, nn_eqM, nn_Meq, nn_ltM, nn_Mlt, nn_leM, nn_Mle, z_ix_nn, z_inb_nn, F_at_nn, F_put_nn, Nat.zero_add, Nat.add_zero, z_P_some, z_R_some, z_P_bd]
      · simp (disch := omega) only [F_L_ages, F_X10_ages, F_X10_ages_J37, F_X10_ages_J38, h.1, h.2, dem_ok, dem_no, demT_ok, demT_no, z_bt_l, z_bt_r, z_try_l, z_try_r, nl_I, nl_N, nl_IN, nl_NI, may_okU, may_noU, z_up_at, z_up_i, z_up_r, ↓reduceIte, ↓z_letE, ↓z_bdE, nn_l2, nn_add, nn_mul, nn_sub, nn_addM, nn_div, nn_rem, nn_min, nn_max, nn_abs, nn_ltT, nn_ltF, nn_leT, nn_leF, nn_eqT, nn_eqF, nn_eqM, nn_Meq, nn_ltM, nn_Mlt, nn_leM, nn_Mle, z_ix_nn, z_inb_nn, F_at_nn, F_put_nn, Nat.zero_add, Nat.add_zero, z_P_some, z_R_some, z_P_bd]
    · simp (disch := omega) only [F_X11_ages, F_X11_ages_J28, F_X11_ages_J29, eA, dem_ok, dem_no, demT_ok, demT_no, z_bt_l, z_bt_r, z_try_l, z_try_r, nl_I, nl_N, nl_IN, nl_NI, may_okU, may_noU, z_up_at, z_up_i, z_up_r, ↓reduceIte, ↓z_letE, ↓z_bdE, nn_l2, nn_add, nn_mul, nn_sub, nn_addM, nn_div, nn_rem, nn_min, nn_max, nn_abs, nn_ltT, nn_ltF, nn_leT, nn_leF, nn_eqT, nn_eqF, nn_eqM, nn_Meq, nn_ltM, nn_Mlt, nn_leM, nn_Mle, z_ix_nn, z_inb_nn, F_at_nn, F_put_nn, Nat.zero_add, Nat.add_zero, z_P_some, z_R_some, z_P_bd]
